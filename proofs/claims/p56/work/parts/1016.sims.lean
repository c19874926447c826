set_option maxRecDepth 100000 in
set_option maxHeartbeats 4000000 in
theorem s_Sb_appendS_C0 (l : Launch) (z : Zz) (ad : Nat → Nat) (E : Ev) (M : Mm) (p0 : Nat) (r : Nat) (N : Mm) (hL : Lay E) (h : f_Sb_appendS_C0 E M p0 = some (r, N)) : CT l z ⟨"java/lang/StringBuilder", "append", "(Ljava/lang/String;)Ljava/lang/StringBuilder;"⟩ prog_36_method_7_code 2 (some (.object "java/lang/StringBuilder")) [.ref (ad p0), .ref (z.2 100)] (wv z ad E M) 4 127 0 0 (fun _ => some (.ref (ad r))) (fun _ => (wv z ad E N)) := by
  refine CT.of (own := "java/lang/StringBuilder") (by decide +kernel) (Nat.le_of_ble_eq_true rfl) rfl (fun p e s m below meth c A ls hx hb hml hr hts hown hlocks hin hA hG hZ hP hD hS hl => ?_)
  have hl : lv_has ls 2 [(0, .ref (ad p0)), (1, .ref (z.2 100))] := hl
  have key : ∀ (H : Heap) (locs : List Loc) (args : Array Value), (∀ w ∈ WG, w.before args s = true) → va_P z.1 classes (wv z ad E M) H → va_S A s.heap H locs → W p l e (rmK 4 127 0 0) s m args below meth c H locs 0 0 (MQ below (QK z A (fun _ => some (.ref (ad r))) (fun _ => (wv z ad E N))) args s 0 0 A) (F0 m 0 ls []) := by
    intro H locs args hts hP hS
    unfold f_Sb_appendS_C0 at h
    obtain ⟨h_p0, h⟩ := ck_e h
    refine lv_aload_n hx hb d_36_7_0 rfl (lv_at hl 0 rfl) ?_
    refine lv_aload_n hx hb d_36_7_1 rfl (lv_at hl 1 rfl) ?_
    obtain ⟨⟨r100, M100⟩, g100, h⟩ := bd_e h
    refine kSU (n := 1) (As := [.ref (z.2 100)]) (rest := []) (s_As_appendS_C0 l z ad E M p0 r100 M100 hL g100) hx hb hml hown hts w_1447 (gin w_1447 (List.forall_mem_cons.mpr ⟨w_1445, List.forall_mem_cons.mpr ⟨w_1687, List.forall_mem_cons.mpr ⟨w_832, List.forall_mem_cons.mpr ⟨w_1446, List.forall_mem_cons.mpr ⟨w_18, fun _ h => absurd h List.not_mem_nil⟩⟩⟩⟩⟩)) (by decide +kernel) ⟨Nat.le_of_ble_eq_true rfl, Nat.le_of_ble_eq_true rfl⟩ hG hZ hP hD hS hA p0 (wv_o (ci := 14) h_p0.1 h_p0.2) rfl rfl rfl hl.1 rfl (Nat.le_of_ble_eq_true rfl) d_36_7_2 ⟨Nat.le_of_ble_eq_true rfl, Nat.le_of_ble_eq_true rfl⟩ (fun _ H locs hP hD hS => ?_)
    have hP : va_P z.1 classes (wv z ad E M100) H := hP
    have hD : va_D A (wv z ad E M100) := hD
    obtain ⟨h_r100, h⟩ := ck_e h
    refine W.eq (g2 := F0 m 5 ls [.ref (ad r100)]) rfl ?_
    refine lv_pop hx hb d_36_7_5 rfl ?_
    refine lv_aload_n hx hb d_36_7_6 rfl (lv_at hl 0 rfl) ?_
    obtain ⟨rfl, rfl⟩ := in2 h
    exact W.aret hx hb hr (Or.inl ⟨_, rfl⟩) (Or.inr ⟨_, rfl⟩) (fun t ht hW => qkA hP hD hS (fun k => k) rfl rfl ht) hS.2.2 d_36_7_7
  exact key _ _ _ hts hP hS
set_option maxRecDepth 100000 in
set_option maxHeartbeats 4000000 in
theorem s_St_coder_C1 (l : Launch) (z : Zz) (ad : Nat → Nat) (E : Ev) (M : Mm) (r : Int)  (hL : Lay E) (h : f_St_coder_C1 E M = some r) : CT l z ⟨"java/lang/String", "coder", "()B"⟩ prog_35_method_152_code 1 (some .byte) [.ref (z.2 101)] (wv z ad E M) 0 20 0 0 (fun _ => some (.int (oI r))) (fun _ => (wv z ad E M)) := by
  refine CT.of (own := "java/lang/String") (by decide +kernel) (Nat.le_of_ble_eq_true rfl) rfl (fun p e s m below meth c A ls hx hb hml hr hts hown hlocks hin hA hG hZ hP hD hS hl => ?_)
  have hl : lv_has ls 1 [(0, .ref (z.2 101))] := hl
  have key : ∀ (H : Heap) (locs : List Loc) (args : Array Value), (∀ w ∈ WG, w.before args s = true) → va_P z.1 classes (wv z ad E M) H → va_S A s.heap H locs → W p l e (rmK 0 20 0 0) s m args below meth c H locs 0 0 (MQ below (QK z A (fun _ => some (.int (oI r))) (fun _ => (wv z ad E M))) args s 0 0 A) (F0 m 0 ls []) := by
    intro H locs args hts hP hS
    unfold f_St_coder_C1 at h
    refine va_gets hx hb hZ.2.1 hS hown (hts _ w_958) (fun _ h9 => h9) d_35_152_0 ?_
    refine lv_if_eq (tgt := 13) hx hb d_35_152_3 (by decide) (fun c9 => absurd c9 (by decide +kernel)) (fun _ => ?_)
    refine lv_aload_n hx hb d_35_152_6 rfl (lv_at hl 0 rfl) ?_
    refine m_gcC hx hb hts hZ hS (i := 1) (by decide) hown w_973 d_35_152_7 ?_
    refine lv_goto (tgt := 14) hx hb d_35_152_10 (by decide) ?_
    obtain rfl := in1 h
    exact W.zret hx hb hr (nb_b (by decide)) (fun t ht hW => qkA hP hD hS (fun k => k) rfl rfl ht) hS.2.2 d_35_152_14
  exact key _ _ _ hts hP hS
set_option maxRecDepth 100000 in
set_option maxHeartbeats 4000000 in
theorem s_St_length_C1 (l : Launch) (z : Zz) (ad : Nat → Nat) (E : Ev) (M : Mm) (r : Int)  (hL : Lay E) (h : f_St_length_C1 E M = some r) : CT l z ⟨"java/lang/String", "length", "()I"⟩ prog_35_method_54_code 1 (some .int) [.ref (z.2 101)] (wv z ad E M) 1 40 0 0 (fun _ => some (.int (oI r))) (fun _ => (wv z ad E M)) := by
  refine CT.of (own := "java/lang/String") (by decide +kernel) (Nat.le_of_ble_eq_true rfl) rfl (fun p e s m below meth c A ls hx hb hml hr hts hown hlocks hin hA hG hZ hP hD hS hl => ?_)
  have hl : lv_has ls 1 [(0, .ref (z.2 101))] := hl
  have key : ∀ (H : Heap) (locs : List Loc) (args : Array Value), (∀ w ∈ WG, w.before args s = true) → va_P z.1 classes (wv z ad E M) H → va_S A s.heap H locs → W p l e (rmK 1 40 0 0) s m args below meth c H locs 0 0 (MQ below (QK z A (fun _ => some (.int (oI r))) (fun _ => (wv z ad E M))) args s 0 0 A) (F0 m 0 ls []) := by
    intro H locs args hts hP hS
    unfold f_St_length_C1 at h
    refine lv_aload_n hx hb d_35_54_0 rfl (lv_at hl 0 rfl) ?_
    refine m_gvC hx hb hts hZ hS (i := 1) (by decide) hown w_972 d_35_54_1 ?_
    refine m_lenC hx hb hZ hS (i := 1) (by decide) d_35_54_4 ?_
    refine nrm (x1 := oI 1) rfl ?_
    refine lv_aload_n hx hb d_35_54_5 rfl (lv_at hl 0 rfl) ?_
    obtain ⟨r100, g100, h⟩ := bd_e h
    refine kVC (As := []) (rest := [.int (oI 1)]) (s_St_coder_C1 l z ad E M r100 hL g100) hx hb hml hown hts w_993 w_990 w_991 w_992 w_20 md_9e8065 ⟨Nat.le_of_ble_eq_true rfl, Nat.le_of_ble_eq_true rfl⟩ hG hZ hP hD hS hA 1 (by decide) rfl rfl hl.1 rfl (Nat.le_of_ble_eq_true rfl) d_35_54_6 ⟨Nat.le_of_ble_eq_true rfl, Nat.le_of_ble_eq_true rfl⟩ (fun _ H locs hP hD hS => ?_)
    have hP : va_P z.1 classes (wv z ad E M) H := hP
    have hD : va_D A (wv z ad E M) := hD
    refine W.eq (g2 := F0 m 9 ls [.int (oI r100), .int (oI 1)]) rfl ?_
    obtain ⟨ok101, h⟩ := ck_e h
    refine lv_ishr hx hb d_35_54_9 ?_
    refine nrm (oI_shr (a := (1 : Int)) (by decide) ok101.1 ok101.2) ?_
    obtain rfl := in1 h
    exact W.iret hx hb hr (fun t ht hW => qkA hP hD hS (fun k => k) rfl rfl ht) hS.2.2 d_35_54_10
  exact key _ _ _ hts hP hS
set_option maxRecDepth 100000 in
set_option maxHeartbeats 4000000 in
theorem s_As_inflateIfNeededFor_C1 (l : Launch) (z : Zz) (ad : Nat → Nat) (E : Ev) (M : Mm) (p0 : Nat)  (hL : Lay E) (h : f_As_inflateIfNeededFor_C1 E M p0 = some ()) : CT l z ⟨"java/lang/AbstractStringBuilder", "inflateIfNeededFor", "(Ljava/lang/String;)V"⟩ prog_23_method_71_code 2 none [.ref (ad p0), .ref (z.2 101)] (wv z ad E M) 1 40 0 0 (fun _ => none) (fun _ => (wv z ad E M)) := by
  refine CT.of (own := "java/lang/AbstractStringBuilder") (by decide +kernel) (Nat.le_of_ble_eq_true rfl) rfl (fun p e s m below meth c A ls hx hb hml hr hts hown hlocks hin hA hG hZ hP hD hS hl => ?_)
  have hl : lv_has ls 2 [(0, .ref (ad p0)), (1, .ref (z.2 101))] := hl
  have key : ∀ (H : Heap) (locs : List Loc) (args : Array Value), (∀ w ∈ WG, w.before args s = true) → va_P z.1 classes (wv z ad E M) H → va_S A s.heap H locs → W p l e (rmK 1 40 0 0) s m args below meth c H locs 0 0 (MQ below (QK z A (fun _ => none) (fun _ => (wv z ad E M))) args s 0 0 A) (F0 m 0 ls []) := by
    intro H locs args hts hP hS
    unfold f_As_inflateIfNeededFor_C1 at h
    obtain ⟨h_p0, h⟩ := ck_e h
    refine va_gets hx hb hZ.2.1 hS hown (hts _ w_811) (fun _ h9 => h9) d_23_71_0 ?_
    refine lv_if_eq (tgt := 21) hx hb d_23_71_3 (by decide) (fun c9 => absurd c9 (by decide +kernel)) (fun _ => ?_)
    refine lv_aload_n hx hb d_23_71_6 rfl (lv_at hl 0 rfl) ?_
    refine m_gi (C := "java/lang/StringBuilder") (T := TX14) (N := 4) (ci := 14) (k := 1) hx hb hts iX14 hown hG hP h_p0.1 h_p0.2 rfl (by decide) w_821 (fun _ h9 => h9) rfl rfl d_23_71_7 ?_
    refine lv_aload_n hx hb d_23_71_10 rfl (lv_at hl 1 rfl) ?_
    obtain ⟨r100, g100, h⟩ := bd_e h
    refine kVC (As := []) (rest := [.int (oI (M p0 1))]) (s_St_coder_C1 l z ad E M r100 hL g100) hx hb hml hown hts w_993 w_1473 w_991 w_992 w_20 md_9e8065 ⟨Nat.le_of_ble_eq_true rfl, Nat.le_of_ble_eq_true rfl⟩ hG hZ hP hD hS hA 1 (by decide) rfl rfl hl.1 rfl (Nat.le_of_ble_eq_true rfl) d_23_71_11 ⟨Nat.le_of_ble_eq_true rfl, Nat.le_of_ble_eq_true rfl⟩ (fun _ H locs hP hD hS => ?_)
    have hP : va_P z.1 classes (wv z ad E M) H := hP
    have hD : va_D A (wv z ad E M) := hD
    refine W.eq (g2 := F0 m 14 ls [.int (oI r100), .int (oI (M p0 1))]) rfl ?_
    obtain ⟨ok101, h⟩ := ck_e h
    obtain ⟨ok102, h⟩ := ck_e h
    refine lv_icmp_eq (tgt := 21) hx hb d_23_71_14 (by decide) (fun c9 => ?_) (fun c9 => ?_)
    · have h := ite_t ((oI_eq (a := (M p0 1)) (b := r100) ok101 ok102).mp c9) h
      clear h
      exact W.vret hx hb hr (fun t ht hW => qkA hP hD hS (fun k => k) rfl rfl ht) hS.2.2 d_23_71_21
    · have h := ite_f (fun q => c9 ((oI_eq (a := (M p0 1)) (b := r100) ok101 ok102).mpr q)) h
      cases h
  exact key _ _ _ hts hP hS
set_option maxRecDepth 100000 in
set_option maxHeartbeats 4000000 in
theorem s_St_getBytes_C1 (l : Launch) (z : Zz) (ad : Nat → Nat) (E : Ev) (M : Mm) (p1 : Nat) (x2 : Int) (x3 : Int) (N : Mm) (hL : Lay E) (h : f_St_getBytes_C1 E M p1 x2 x3 = some N) : CT l z ⟨"java/lang/String", "getBytes", "([BIB)V"⟩ prog_35_method_147_code 4 none [.ref (z.2 101), .ref (ad p1), .int (oI x2), .int (oI x3)] (wv z ad E M) 1 60 0 0 (fun _ => none) (fun _ => (wv z ad E N)) := by
  refine CT.of (own := "java/lang/String") (by decide +kernel) (Nat.le_of_ble_eq_true rfl) rfl (fun p e s m below meth c A ls hx hb hml hr hts hown hlocks hin hA hG hZ hP hD hS hl => ?_)
  have hl : lv_has ls 4 [(0, .ref (z.2 101)), (1, .ref (ad p1)), (2, .int (oI x2)), (3, .int (oI x3))] := hl
  have key : ∀ (H : Heap) (locs : List Loc) (args : Array Value), (∀ w ∈ WG, w.before args s = true) → va_P z.1 classes (wv z ad E M) H → va_S A s.heap H locs → W p l e (rmK 1 60 0 0) s m args below meth c H locs 0 0 (MQ below (QK z A (fun _ => none) (fun _ => (wv z ad E N))) args s 0 0 A) (F0 m 0 ls []) := by
    intro H locs args hts hP hS
    unfold f_St_getBytes_C1 at h
    obtain ⟨h_p1, h⟩ := ck_e h
    refine lv_aload_n hx hb d_35_147_0 rfl (lv_at hl 0 rfl) ?_
    obtain ⟨r100, g100, h⟩ := bd_e h
    refine kVC (As := []) (rest := []) (s_St_coder_C1 l z ad E M r100 hL g100) hx hb hml hown hts w_993 w_990 w_991 w_992 w_20 md_9e8065 ⟨Nat.le_of_ble_eq_true rfl, Nat.le_of_ble_eq_true rfl⟩ hG hZ hP hD hS hA 1 (by decide) rfl rfl hl.1 rfl (Nat.le_of_ble_eq_true rfl) d_35_147_1 ⟨Nat.le_of_ble_eq_true rfl, Nat.le_of_ble_eq_true rfl⟩ (fun _ H locs hP hD hS => ?_)
    have hP : va_P z.1 classes (wv z ad E M) H := hP
    have hD : va_D A (wv z ad E M) := hD
    refine W.eq (g2 := F0 m 4 ls [.int (oI r100)]) rfl ?_
    refine lv_iload_n hx hb d_35_147_4 rfl (lv_at hl 3 rfl) ?_
    obtain ⟨ok101, h⟩ := ck_e h
    obtain ⟨ok102, h⟩ := ck_e h
    refine lv_icmp_ne (tgt := 28) hx hb d_35_147_5 (by decide) (fun c9 => ?_) (fun c9 => ?_)
    · have h := ite_f (fun q => c9 ((oI_eq (a := r100) (b := x3) ok101 ok102).mpr q)) h
      cases h
    · have h := ite_t ((oI_eq (a := r100) (b := x3) ok101 ok102).mp c9) h
      refine lv_aload_n hx hb d_35_147_8 rfl (lv_at hl 0 rfl) ?_
      refine m_gvC hx hb hts hZ hS (i := 1) (by decide) hown w_972 d_35_147_9 ?_
      refine lv_iconst (v := oI 0) hx hb d_35_147_12 (by decide +kernel) ?_
      refine lv_aload_n hx hb d_35_147_13 rfl (lv_at hl 1 rfl) ?_
      refine lv_iload_n hx hb d_35_147_14 rfl (lv_at hl 2 rfl) ?_
      refine lv_iload_n hx hb d_35_147_15 rfl (lv_at hl 3 rfl) ?_
      obtain ⟨ok103, h⟩ := ck_e h
      refine lv_ishl hx hb d_35_147_16 ?_
      refine nrm (oI_shl ok103.1 ok103.2) ?_
      refine lv_aload_n hx hb d_35_147_17 rfl (lv_at hl 0 rfl) ?_
      refine m_gvC hx hb hts hZ hS (i := 1) (by decide) hown w_972 d_35_147_18 ?_
      refine m_lenC hx hb hZ hS (i := 1) (by decide) d_35_147_21 ?_
      refine nrm (x1 := oI 1) rfl ?_
      obtain ⟨ok104, h⟩ := ck_e h
      refine m_cpyC (i := 1) hx hb (by rw [hml]; exact hl.1.symm) hown (hts _ w_1478) (hts _ w_621) (hts _ w_620) (hts _ w_24) hG hP hD hS hZ (by decide) h_p1.1 (isBA_T h_p1) ok104 (Nat.le_of_ble_eq_true rfl) (Nat.le_of_ble_eq_true rfl) d_35_147_22 (fun H locs hP hD hS => ?_)
      have hP : va_P z.1 classes (wv z ad E (uA M p1 (va_cpy (csB 1) (M p1) 0 (x2 * 2 ^ x3.toNat).toNat 1))) H := hP
      have hD : va_D A (wv z ad E (uA M p1 (va_cpy (csB 1) (M p1) 0 (x2 * 2 ^ x3.toNat).toNat 1))) := hD
      refine lv_goto (tgt := 43) hx hb d_35_147_25 (by decide) ?_
      obtain rfl := in1 h
      exact W.vret hx hb hr (fun t ht hW => qkA hP hD hS (fun k => k) rfl rfl ht) hS.2.2 d_35_147_43
  exact key _ _ _ hts hP hS
set_option maxRecDepth 100000 in
set_option maxHeartbeats 4000000 in
theorem s_As_putStringAt_C1 (l : Launch) (z : Zz) (ad : Nat → Nat) (E : Ev) (M : Mm) (p0 : Nat) (x1 : Int) (N : Mm) (hL : Lay E) (h : f_As_putStringAt_C1 E M p0 x1 = some N) : CT l z ⟨"java/lang/AbstractStringBuilder", "putStringAt", "(ILjava/lang/String;)V"⟩ prog_23_method_73_code 3 none [.ref (ad p0), .int (oI x1), .ref (z.2 101)] (wv z ad E M) 2 83 0 0 (fun _ => none) (fun _ => (wv z ad E N)) := by
  refine CT.of (own := "java/lang/AbstractStringBuilder") (by decide +kernel) (Nat.le_of_ble_eq_true rfl) rfl (fun p e s m below meth c A ls hx hb hml hr hts hown hlocks hin hA hG hZ hP hD hS hl => ?_)
  have hl : lv_has ls 3 [(0, .ref (ad p0)), (1, .int (oI x1)), (2, .ref (z.2 101))] := hl
  have key : ∀ (H : Heap) (locs : List Loc) (args : Array Value), (∀ w ∈ WG, w.before args s = true) → va_P z.1 classes (wv z ad E M) H → va_S A s.heap H locs → W p l e (rmK 2 83 0 0) s m args below meth c H locs 0 0 (MQ below (QK z A (fun _ => none) (fun _ => (wv z ad E N))) args s 0 0 A) (F0 m 0 ls []) := by
    intro H locs args hts hP hS
    unfold f_As_putStringAt_C1 at h
    obtain ⟨h_p0, h⟩ := ck_e h
    refine lv_aload_n hx hb d_23_73_0 rfl (lv_at hl 0 rfl) ?_
    refine lv_aload_n hx hb d_23_73_1 rfl (lv_at hl 2 rfl) ?_
    obtain ⟨_, g100, h⟩ := bd_e h
    refine kVQ (As := [.ref (z.2 101)]) (rest := []) (s_As_inflateIfNeededFor_C1 l z ad E M p0 hL g100) hx hb hml hown hts w_1472 w_1469 w_1471 (hG.2.2.2.2.2.2 _ (by decide) _) w_18 md_6f592a ⟨Nat.le_of_ble_eq_true rfl, Nat.le_of_ble_eq_true rfl⟩ hG hZ hP hD hS hA p0 (wv_o (ci := 14) h_p0.1 h_p0.2) rfl rfl rfl hl.1 rfl (Nat.le_of_ble_eq_true rfl) d_23_73_2 ⟨Nat.le_of_ble_eq_true rfl, Nat.le_of_ble_eq_true rfl⟩ (fun _ H locs hP hD hS => ?_)
    have hP : va_P z.1 classes (wv z ad E M) H := hP
    have hD : va_D A (wv z ad E M) := hD
    refine W.eq (g2 := F0 m 5 ls []) rfl ?_
    refine lv_aload_n hx hb d_23_73_5 rfl (lv_at hl 2 rfl) ?_
    refine lv_aload_n hx hb d_23_73_6 rfl (lv_at hl 0 rfl) ?_
    obtain ⟨p101, g101, h⟩ := bd_e h
    obtain ⟨h_p101, h⟩ := ck_e h
    refine m_gr (j := p101) (C := "java/lang/StringBuilder") (T := TX14) (N := 4) (ci := 14) (k := 0) hx hb hts iX14 hown hG hP h_p0.1 h_p0.2 rfl (by decide) w_820 (fun _ h9 => h9) rfl rfl g101 d_23_73_7 ?_
    refine lv_iload_n hx hb d_23_73_10 rfl (lv_at hl 1 rfl) ?_
    refine lv_aload_n hx hb d_23_73_11 rfl (lv_at hl 0 rfl) ?_
    refine m_gi (C := "java/lang/StringBuilder") (T := TX14) (N := 4) (ci := 14) (k := 1) hx hb hts iX14 hown hG hP h_p0.1 h_p0.2 rfl (by decide) w_821 (fun _ h9 => h9) rfl rfl d_23_73_12 ?_
    obtain ⟨M102, g102, h⟩ := bd_e h
    refine kVC (As := [.ref (ad p101), .int (oI x1), .int (oI (M p0 1))]) (rest := []) (s_St_getBytes_C1 l z ad E M p101 x1 (M p0 1) M102 hL g102) hx hb hml hown hts w_1477 w_1474 w_1475 w_1476 w_20 md_9fa829 ⟨Nat.le_of_ble_eq_true rfl, Nat.le_of_ble_eq_true rfl⟩ hG hZ hP hD hS hA 1 (by decide) rfl rfl hl.1 rfl (Nat.le_of_ble_eq_true rfl) d_23_73_15 ⟨Nat.le_of_ble_eq_true rfl, Nat.le_of_ble_eq_true rfl⟩ (fun _ H locs hP hD hS => ?_)
    have hP : va_P z.1 classes (wv z ad E M102) H := hP
    have hD : va_D A (wv z ad E M102) := hD
    refine W.eq (g2 := F0 m 18 ls []) rfl ?_
    obtain rfl := in1 h
    exact W.vret hx hb hr (fun t ht hW => qkA hP hD hS (fun k => k) rfl rfl ht) hS.2.2 d_23_73_18
  exact key _ _ _ hts hP hS
set_option maxRecDepth 100000 in
set_option maxHeartbeats 4000000 in
theorem s_As_appendS_C1 (l : Launch) (z : Zz) (ad : Nat → Nat) (E : Ev) (M : Mm) (p0 : Nat) (r : Nat) (N : Mm) (hL : Lay E) (h : f_As_appendS_C1 E M p0 = some (r, N)) : CT l z ⟨"java/lang/AbstractStringBuilder", "append", "(Ljava/lang/String;)Ljava/lang/AbstractStringBuilder;"⟩ prog_23_method_22_code 3 (some (.object "java/lang/AbstractStringBuilder")) [.ref (ad p0), .ref (z.2 101)] (wv z ad E M) 3 105 0 0 (fun _ => some (.ref (ad r))) (fun _ => (wv z ad E N)) := by
  refine CT.of (own := "java/lang/AbstractStringBuilder") (by decide +kernel) (Nat.le_of_ble_eq_true rfl) rfl (fun p e s m below meth c A ls hx hb hml hr hts hown hlocks hin hA hG hZ hP hD hS hl => ?_)
  have hl : lv_has ls 3 [(0, .ref (ad p0)), (1, .ref (z.2 101))] := hl
  have key : ∀ (H : Heap) (locs : List Loc) (args : Array Value), (∀ w ∈ WG, w.before args s = true) → va_P z.1 classes (wv z ad E M) H → va_S A s.heap H locs → W p l e (rmK 3 105 0 0) s m args below meth c H locs 0 0 (MQ below (QK z A (fun _ => some (.ref (ad r))) (fun _ => (wv z ad E N))) args s 0 0 A) (F0 m 0 ls []) := by
    intro H locs args hts hP hS
    unfold f_As_appendS_C1 at h
    obtain ⟨h_p0, h⟩ := ck_e h
    refine lv_aload_n hx hb d_23_22_0 rfl (lv_at hl 1 rfl) ?_
    refine lv_ifnonnull (tgt := 9) hx hb d_23_22_1 (by decide) ?_
    refine lv_aload_n hx hb d_23_22_9 rfl (lv_at hl 1 rfl) ?_
    obtain ⟨r100, g100, h⟩ := bd_e h
    refine kVC (As := []) (rest := []) (s_St_length_C1 l z ad E M r100 hL g100) hx hb hml hown hts w_989 w_1464 w_987 w_988 w_20 md_a3a12c ⟨Nat.le_of_ble_eq_true rfl, Nat.le_of_ble_eq_true rfl⟩ hG hZ hP hD hS hA 1 (by decide) rfl rfl hl.1 rfl (Nat.le_of_ble_eq_true rfl) d_23_22_10 ⟨Nat.le_of_ble_eq_true rfl, Nat.le_of_ble_eq_true rfl⟩ (fun _ H locs hP hD hS => ?_)
    have hP : va_P z.1 classes (wv z ad E M) H := hP
    have hD : va_D A (wv z ad E M) := hD
    refine W.eq (g2 := F0 m 13 ls [.int (oI r100)]) rfl ?_
    refine lv_istore_n (lv' := [(2, .int (oI r100)), (0, .ref (ad p0)), (1, .ref (z.2 101))]) hx hb d_23_22_13 rfl hl (by decide) rfl (fun ls hl => ?_)
    refine lv_aload_n hx hb d_23_22_14 rfl (lv_at hl 1 rfl) ?_
    refine lv_aload_n hx hb d_23_22_15 rfl (lv_at hl 1 rfl) ?_
    refine m_gi (C := "java/lang/StringBuilder") (T := TX14) (N := 4) (ci := 14) (k := 3) hx hb hts iX14 hown hG hP h_p0.1 h_p0.2 rfl (by decide) w_823 (fun _ h9 => h9) rfl rfl d_23_22_16 ?_
    refine lv_iload_n hx hb d_23_22_19 rfl (lv_at hl 0 rfl) ?_
    refine lv_iadd hx hb d_23_22_20 ?_
    refine nrm (oI_add _ _) ?_
    obtain ⟨_, g101, h⟩ := bd_e h
    refine kVQ (As := [.int (oI ((M p0 3) + r100))]) (rest := []) (s_As_ensureCapacityInternal l z ad E M p0 ((M p0 3) + r100) hL g101) hx hb hml hown hts w_843 w_840 w_842 (hG.2.2.2.2.2.2 _ (by decide) _) w_18 md_388751 ⟨Nat.le_of_ble_eq_true rfl, Nat.le_of_ble_eq_true rfl⟩ hG hZ hP hD hS hA p0 (wv_o (ci := 14) h_p0.1 h_p0.2) rfl rfl rfl hl.1 rfl (Nat.le_of_ble_eq_true rfl) d_23_22_21 ⟨Nat.le_of_ble_eq_true rfl, Nat.le_of_ble_eq_true rfl⟩ (fun _ H locs hP hD hS => ?_)
    have hP : va_P z.1 classes (wv z ad E M) H := hP
    have hD : va_D A (wv z ad E M) := hD
    refine W.eq (g2 := F0 m 24 ls []) rfl ?_
    refine lv_aload_n hx hb d_23_22_24 rfl (lv_at hl 1 rfl) ?_
    refine lv_aload_n hx hb d_23_22_25 rfl (lv_at hl 1 rfl) ?_
    refine m_gi (C := "java/lang/StringBuilder") (T := TX14) (N := 4) (ci := 14) (k := 3) hx hb hts iX14 hown hG hP h_p0.1 h_p0.2 rfl (by decide) w_823 (fun _ h9 => h9) rfl rfl d_23_22_26 ?_
    refine lv_aload_n hx hb d_23_22_29 rfl (lv_at hl 2 rfl) ?_
    obtain ⟨M102, g102, h⟩ := bd_e h
    refine kVQ (As := [.int (oI (M p0 3)), .ref (z.2 101)]) (rest := []) (s_As_putStringAt_C1 l z ad E M p0 (M p0 3) M102 hL g102) hx hb hml hown hts w_1468 w_1465 w_1467 (hG.2.2.2.2.2.2 _ (by decide) _) w_18 md_6100f0 ⟨Nat.le_of_ble_eq_true rfl, Nat.le_of_ble_eq_true rfl⟩ hG hZ hP hD hS hA p0 (wv_o (ci := 14) h_p0.1 h_p0.2) rfl rfl rfl hl.1 rfl (Nat.le_of_ble_eq_true rfl) d_23_22_30 ⟨Nat.le_of_ble_eq_true rfl, Nat.le_of_ble_eq_true rfl⟩ (fun _ H locs hP hD hS => ?_)
    have hP : va_P z.1 classes (wv z ad E M102) H := hP
    have hD : va_D A (wv z ad E M102) := hD
    refine W.eq (g2 := F0 m 33 ls []) rfl ?_
    refine lv_aload_n hx hb d_23_22_33 rfl (lv_at hl 1 rfl) ?_
    refine lv_dup hx hb d_23_22_34 rfl ?_
    refine m_gi (C := "java/lang/StringBuilder") (T := TX14) (N := 4) (ci := 14) (k := 3) hx hb hts iX14 hown hG hP h_p0.1 h_p0.2 rfl (by decide) w_823 (fun _ h9 => h9) rfl rfl d_23_22_35 ?_
    refine lv_iload_n hx hb d_23_22_38 rfl (lv_at hl 0 rfl) ?_
    refine lv_iadd hx hb d_23_22_39 ?_
    refine nrm (oI_add _ _) ?_
    refine m_pi (C := "java/lang/StringBuilder") (T := TX14) (N := 4) (ci := 14) (k := 3) (ty := .int) hx hb hts iX14 hown hG hP hD hS h_p0.1 h_p0.2 rfl (by decide) w_823 (fun _ h9 => h9) rfl rfl tyX14_ok nmX14 rfl (by decide +kernel) rfl rfl d_23_22_40 (fun H locs hP hD hS => ?_)
    have hP : va_P z.1 classes (wv z ad E (u2 M102 p0 3 ((M102 p0 3) + r100))) H := hP
    have hD : va_D A (wv z ad E (u2 M102 p0 3 ((M102 p0 3) + r100))) := hD
    refine lv_aload_n hx hb d_23_22_43 rfl (lv_at hl 1 rfl) ?_
    obtain ⟨rfl, rfl⟩ := in2 h
    exact W.aret hx hb hr (Or.inl ⟨_, rfl⟩) (Or.inr ⟨_, rfl⟩) (fun t ht hW => qkA hP hD hS (fun k => k) rfl rfl ht) hS.2.2 d_23_22_44
  exact key _ _ _ hts hP hS
set_option maxRecDepth 100000 in
set_option maxHeartbeats 4000000 in
theorem s_Sb_appendS_C1 (l : Launch) (z : Zz) (ad : Nat → Nat) (E : Ev) (M : Mm) (p0 : Nat) (r : Nat) (N : Mm) (hL : Lay E) (h : f_Sb_appendS_C1 E M p0 = some (r, N)) : CT l z ⟨"java/lang/StringBuilder", "append", "(Ljava/lang/String;)Ljava/lang/StringBuilder;"⟩ prog_36_method_7_code 2 (some (.object "java/lang/StringBuilder")) [.ref (ad p0), .ref (z.2 101)] (wv z ad E M) 4 127 0 0 (fun _ => some (.ref (ad r))) (fun _ => (wv z ad E N)) := by
  refine CT.of (own := "java/lang/StringBuilder") (by decide +kernel) (Nat.le_of_ble_eq_true rfl) rfl (fun p e s m below meth c A ls hx hb hml hr hts hown hlocks hin hA hG hZ hP hD hS hl => ?_)
  have hl : lv_has ls 2 [(0, .ref (ad p0)), (1, .ref (z.2 101))] := hl
  have key : ∀ (H : Heap) (locs : List Loc) (args : Array Value), (∀ w ∈ WG, w.before args s = true) → va_P z.1 classes (wv z ad E M) H → va_S A s.heap H locs → W p l e (rmK 4 127 0 0) s m args below meth c H locs 0 0 (MQ below (QK z A (fun _ => some (.ref (ad r))) (fun _ => (wv z ad E N))) args s 0 0 A) (F0 m 0 ls []) := by
    intro H locs args hts hP hS
    unfold f_Sb_appendS_C1 at h
    obtain ⟨h_p0, h⟩ := ck_e h
    refine lv_aload_n hx hb d_36_7_0 rfl (lv_at hl 0 rfl) ?_
    refine lv_aload_n hx hb d_36_7_1 rfl (lv_at hl 1 rfl) ?_
    obtain ⟨⟨r100, M100⟩, g100, h⟩ := bd_e h
    refine kSU (n := 1) (As := [.ref (z.2 101)]) (rest := []) (s_As_appendS_C1 l z ad E M p0 r100 M100 hL g100) hx hb hml hown hts w_1447 (gin w_1447 (List.forall_mem_cons.mpr ⟨w_1445, List.forall_mem_cons.mpr ⟨w_1687, List.forall_mem_cons.mpr ⟨w_832, List.forall_mem_cons.mpr ⟨w_1446, List.forall_mem_cons.mpr ⟨w_18, fun _ h => absurd h List.not_mem_nil⟩⟩⟩⟩⟩)) (by decide +kernel) ⟨Nat.le_of_ble_eq_true rfl, Nat.le_of_ble_eq_true rfl⟩ hG hZ hP hD hS hA p0 (wv_o (ci := 14) h_p0.1 h_p0.2) rfl rfl rfl hl.1 rfl (Nat.le_of_ble_eq_true rfl) d_36_7_2 ⟨Nat.le_of_ble_eq_true rfl, Nat.le_of_ble_eq_true rfl⟩ (fun _ H locs hP hD hS => ?_)
    have hP : va_P z.1 classes (wv z ad E M100) H := hP
    have hD : va_D A (wv z ad E M100) := hD
    obtain ⟨h_r100, h⟩ := ck_e h
    refine W.eq (g2 := F0 m 5 ls [.ref (ad r100)]) rfl ?_
    refine lv_pop hx hb d_36_7_5 rfl ?_
    refine lv_aload_n hx hb d_36_7_6 rfl (lv_at hl 0 rfl) ?_
    obtain ⟨rfl, rfl⟩ := in2 h
    exact W.aret hx hb hr (Or.inl ⟨_, rfl⟩) (Or.inr ⟨_, rfl⟩) (fun t ht hW => qkA hP hD hS (fun k => k) rfl rfl ht) hS.2.2 d_36_7_7
  exact key _ _ _ hts hP hS
set_option maxRecDepth 100000 in
set_option maxHeartbeats 4000000 in
theorem b_B_gainAt_j34 (l : Launch) (z : Zz) (ad : Nat → Nat) (E : Ev) (M : Mm) (x2 : Int) (y0 : Int) (y1 : Int) (r : Int) (N : Mm) {p : Program} {e : Env} {s : State} {m : MethodId} {below : List Frame} {meth : Method} {c : Code} {A : Nat → Prop} {args : Array Value} (hx : p.tables.exec = Jvm.exec) (hb : c.code = prog_1_method_37_code) (hml : c.maxLocals = 3) (hts : ∀ w ∈ WG, w.before args s = true) (hown : s.vm.findClass "Ballothall" = some m.cls) (hlocks : meth.locks = false) (hA : ∀ q, s.heap.size ≤ q → A q) (hG : KG z s) (hZ : FZ z A s) (hL : Lay E) (hr : meth.sig.returnType = (some .int)) (h : B_gainAt_j34 E M x2 y0 y1 = some (r, N)) : ∀ (H : Heap) (locs : List Loc) (ls : Array Slot), va_P z.1 classes (wv z ad E M) H → va_D A (wv z ad E M) → va_S A s.heap H locs → lv_has ls 3 [(0, .ref (ad 1)), (2, .int (oI x2))] → W p l e (rmK 7 185 0 0) s m args below meth c H locs 0 0 (MQ below (QK z A (fun _ => some (.int (oI r))) (fun _ => (wv z ad E N))) args s 0 0 A) (F0 m 34 ls [.int (oI y0), .int (oI y1)]) := by
  intro H locs ls hP hD hS hl
  unfold B_gainAt_j34 at h
  obtain ⟨_, g104, h⟩ := bd_e h
  refine kS (As := [.int (oI y1), .int (oI y0)]) (rest := []) (s_B_needPlace l z ad E M y1 y0 hL g104) hx hb hml hown hts w_1343 w_1341 w_1342 w_1 md_541664 ⟨Nat.le_of_ble_eq_true rfl, Nat.le_of_ble_eq_true rfl⟩ hG hZ hP hD hS hA rfl hl.1 rfl (Nat.le_of_ble_eq_true rfl) d_1_37_34 ⟨Nat.le_of_ble_eq_true rfl, Nat.le_of_ble_eq_true rfl⟩ (fun _ H locs hP hD hS => ?_)
  have hP : va_P z.1 classes (wv z ad E M) H := hP
  have hD : va_D A (wv z ad E M) := hD
  refine W.eq (g2 := F0 m 37 ls []) rfl ?_
  refine lv_aload_n hx hb d_1_37_37 rfl (lv_at hl 0 rfl) ?_
  refine m_gr (j := 51) (C := "Ballothall") (T := TX11) (N := 14) (ci := 11) (k := 2) hx hb hts iX11 hown hG hP (yi_1 hL) (yt_1 hL) rfl (by decide) w_399 (fun _ h9 => h9) rfl rfl (yr_1_2 hL) d_1_37_38 ?_
  refine m_grN (j := 52) (C := "Ballothall$FalseBallot") (T := TX5) (N := 3) (ci := 5) (k := 2) hx hb hts iX5 hown hG hP (yi_51 hL) (yt_51 hL) rfl (by decide) n_155 rfl (fun _ h9 => h9) rfl rfl (yr_51_2 hL) d_1_37_41 ?_
  refine lv_iload_n hx hb d_1_37_44 rfl (lv_at hl 1 rfl) ?_
  obtain ⟨ok105, h⟩ := ck_e h
  refine m_ia hx hb hG hP (yi_52 hL) (yt_52 hL) ok105 d_1_37_45 ?_
  obtain ⟨rfl, rfl⟩ := in2 h
  exact W.iret hx hb hr (fun t ht hW => qkA hP hD hS (fun k => k) rfl rfl ht) hS.2.2 d_1_37_46
set_option maxRecDepth 100000 in
set_option maxHeartbeats 4000000 in
theorem s_B_gainAt (l : Launch) (z : Zz) (ad : Nat → Nat) (E : Ev) (M : Mm) (x1 : Int) (x2 : Int) (r : Int) (N : Mm) (hL : Lay E) (h : f_B_gainAt E M x1 x2 = some (r, N)) : CT l z ⟨"Ballothall", "gainAt", "(II)I"⟩ prog_1_method_37_code 3 (some .int) [.ref (ad 1), .int (oI x1), .int (oI x2)] (wv z ad E M) 7 185 0 0 (fun _ => some (.int (oI r))) (fun _ => (wv z ad E N)) := by
  refine CT.of (own := "Ballothall") (by decide +kernel) (Nat.le_of_ble_eq_true rfl) rfl (fun p e s m below meth c A ls hx hb hml hr hts hown hlocks hin hA hG hZ hP hD hS hl => ?_)
  have hl : lv_has ls 3 [(0, .ref (ad 1)), (1, .int (oI x1)), (2, .int (oI x2))] := hl
  have key : ∀ (H : Heap) (locs : List Loc) (args : Array Value), (∀ w ∈ WG, w.before args s = true) → va_P z.1 classes (wv z ad E M) H → va_S A s.heap H locs → W p l e (rmK 7 185 0 0) s m args below meth c H locs 0 0 (MQ below (QK z A (fun _ => some (.int (oI r))) (fun _ => (wv z ad E N))) args s 0 0 A) (F0 m 0 ls []) := by
    intro H locs args hts hP hS
    unfold f_B_gainAt at h
    refine lv_iload_n hx hb d_1_37_0 rfl (lv_at hl 1 rfl) ?_
    refine lv_iconst (v := oI 0) hx hb d_1_37_1 (by decide +kernel) ?_
    refine lv_iconst (v := oI 4) hx hb d_1_37_2 (by decide +kernel) ?_
    obtain ⟨_, g100, h⟩ := bd_e h
    refine kS (As := [.int (oI x1), .int (oI 0), .int (oI 4)]) (rest := []) (s_B_needRange l z ad E M x1 0 4 hL g100) hx hb hml hown hts w_548 w_546 w_547 w_1 md_519134 ⟨Nat.le_of_ble_eq_true rfl, Nat.le_of_ble_eq_true rfl⟩ hG hZ hP hD hS hA rfl hl.1 rfl (Nat.le_of_ble_eq_true rfl) d_1_37_3 ⟨Nat.le_of_ble_eq_true rfl, Nat.le_of_ble_eq_true rfl⟩ (fun _ H locs hP hD hS => ?_)
    have hP : va_P z.1 classes (wv z ad E M) H := hP
    have hD : va_D A (wv z ad E M) := hD
    refine W.eq (g2 := F0 m 6 ls []) rfl ?_
    refine lv_aload_n hx hb d_1_37_6 rfl (lv_at hl 0 rfl) ?_
    obtain ⟨_, g101, h⟩ := bd_e h
    refine kV (As := []) (rest := []) (s_B_needFewCandidates l z ad E M hL g101) hx hb hml hown hts w_1363 w_1360 w_1362 w_s_bfc401 w_1 md_38a853 ⟨Nat.le_of_ble_eq_true rfl, Nat.le_of_ble_eq_true rfl⟩ hG hZ hP hD hS hA 1 (wv_o (ci := 11) (yi_1 hL) (yt_1 hL)) rfl rfl rfl hl.1 rfl (Nat.le_of_ble_eq_true rfl) d_1_37_7 ⟨Nat.le_of_ble_eq_true rfl, Nat.le_of_ble_eq_true rfl⟩ (fun _ H locs hP hD hS => ?_)
    have hP : va_P z.1 classes (wv z ad E M) H := hP
    have hD : va_D A (wv z ad E M) := hD
    refine W.eq (g2 := F0 m 10 ls []) rfl ?_
    refine lv_iload_n hx hb d_1_37_10 rfl (lv_at hl 2 rfl) ?_
    refine lv_aload_n hx hb d_1_37_11 rfl (lv_at hl 0 rfl) ?_
    refine m_gr (j := 51) (C := "Ballothall") (T := TX11) (N := 14) (ci := 11) (k := 2) hx hb hts iX11 hown hG hP (yi_1 hL) (yt_1 hL) rfl (by decide) w_399 (fun _ h9 => h9) rfl rfl (yr_1_2 hL) d_1_37_12 ?_
    refine lv_iload_n hx hb d_1_37_15 rfl (lv_at hl 1 rfl) ?_
    obtain ⟨⟨r102, M102⟩, g102, h⟩ := bd_e h
    refine kVN (As := [.int (oI x1)]) (rest := [.int (oI x2)]) (s_Fb_findKind l z ad E M x1 r102 M102 hL g102) hx hb hml hown hts w_1368 n_1365 w_1367 w_s_93fc6e w_4 md_b41941 ⟨Nat.le_of_ble_eq_true rfl, Nat.le_of_ble_eq_true rfl⟩ hG hZ hP hD hS hA 51 (wv_o (ci := 5) (yi_51 hL) (yt_51 hL)) rfl rfl rfl hl.1 rfl (Nat.le_of_ble_eq_true rfl) d_1_37_16 ⟨Nat.le_of_ble_eq_true rfl, Nat.le_of_ble_eq_true rfl⟩ (fun _ H locs hP hD hS => ?_)
    have hP : va_P z.1 classes (wv z ad E M102) H := hP
    have hD : va_D A (wv z ad E M102) := hD
    refine W.eq (g2 := F0 m 19 ls [.int (oI r102), .int (oI x2)]) rfl ?_
    refine lv_iconst (v := oI (-1)) hx hb d_1_37_19 (by decide +kernel) ?_
    obtain ⟨ok103, h⟩ := ck_e h
    refine lv_icmp_ne (tgt := 27) hx hb d_1_37_20 (by decide) (fun c9 => ?_) (fun c9 => ?_)
    · have h := ite_f (fun q => c9 ((oI_eq (a := r102) (b := (-1 : Int)) ok103 (by decide)).mpr q)) h
      refine lv_aload_n hx hb d_1_37_27 rfl (lv_at hl 0 rfl) ?_
      refine m_gr (j := 2) (C := "Ballothall") (T := TX11) (N := 14) (ci := 11) (k := 0) hx hb hts iX11 hown hG hP (yi_1 hL) (yt_1 hL) rfl (by decide) w_397 (fun _ h9 => h9) rfl rfl (yr_1_0 hL) d_1_37_28 ?_
      refine m_giN (C := "Ballothall$BallotBox") (T := TX0) (N := 10) (ci := 0) (k := 2) hx hb hts iX0 hown hG hP (yi_2 hL) (yt_2 hL) rfl (by decide) n_52 rfl (fun _ h9 => h9) rfl rfl d_1_37_31 ?_
      exact b_B_gainAt_j34 l z ad E M102 x2 (M102 2 2) x2 r N hx hb hml hts hown hlocks hA hG hZ hL hr h H locs ls hP hD hS (lv_sub hl [0, 2] rfl)
    · have h := ite_t ((oI_eq (a := r102) (b := (-1 : Int)) ok103 (by decide)).mp c9) h
      refine lv_iconst (v := oI 0) hx hb d_1_37_23 (by decide +kernel) ?_
      refine lv_goto (tgt := 34) hx hb d_1_37_24 (by decide) ?_
      exact b_B_gainAt_j34 l z ad E M102 x2 0 x2 r N hx hb hml hts hown hlocks hA hG hZ hL hr h H locs ls hP hD hS (lv_sub hl [0, 2] rfl)
  exact key _ _ _ hts hP hS
set_option maxRecDepth 100000 in
set_option maxHeartbeats 4000000 in
theorem s_B_takeBack (l : Launch) (z : Zz) (ad : Nat → Nat) (E : Ev) (M : Mm) (x1 : Int) (x2 : Int) (r : Int) (N : Mm) (hL : Lay E) (h : f_B_takeBack E M x1 x2 = some (r, N)) : CT l z ⟨"Ballothall", "takeBack", "(II)I"⟩ prog_1_method_6_code 3 (some .int) [.ref (ad 1), .int (oI x1), .int (oI x2)] (wv z ad E M) 2 63 0 0 (fun _ => some (.int (oI r))) (fun _ => (wv z ad E N)) := by
  refine CT.of (own := "Ballothall") (by decide +kernel) (Nat.le_of_ble_eq_true rfl) rfl (fun p e s m below meth c A ls hx hb hml hr hts hown hlocks hin hA hG hZ hP hD hS hl => ?_)
  have hl : lv_has ls 3 [(0, .ref (ad 1)), (1, .int (oI x1)), (2, .int (oI x2))] := hl
  have key : ∀ (H : Heap) (locs : List Loc) (args : Array Value), (∀ w ∈ WG, w.before args s = true) → va_P z.1 classes (wv z ad E M) H → va_S A s.heap H locs → W p l e (rmK 2 63 0 0) s m args below meth c H locs 0 0 (MQ below (QK z A (fun _ => some (.int (oI r))) (fun _ => (wv z ad E N))) args s 0 0 A) (F0 m 0 ls []) := by
    intro H locs args hts hP hS
    unfold f_B_takeBack at h
    refine lv_iload_n hx hb d_1_6_0 rfl (lv_at hl 1 rfl) ?_
    refine lv_aload_n hx hb d_1_6_1 rfl (lv_at hl 0 rfl) ?_
    refine m_gr (j := 2) (C := "Ballothall") (T := TX11) (N := 14) (ci := 11) (k := 0) hx hb hts iX11 hown hG hP (yi_1 hL) (yt_1 hL) rfl (by decide) w_397 (fun _ h9 => h9) rfl rfl (yr_1_0 hL) d_1_6_2 ?_
    refine m_giN (C := "Ballothall$BallotBox") (T := TX0) (N := 10) (ci := 0) (k := 3) hx hb hts iX0 hown hG hP (yi_2 hL) (yt_2 hL) rfl (by decide) n_58 rfl (fun _ h9 => h9) rfl rfl d_1_6_5 ?_
    obtain ⟨_, g100, h⟩ := bd_e h
    refine kS (As := [.int (oI x1), .int (oI (M 2 3))]) (rest := []) (s_B_needIndex l z ad E M x1 (M 2 3) hL g100) hx hb hml hown hts w_529 w_527 w_528 w_1 md_6cb26b ⟨Nat.le_of_ble_eq_true rfl, Nat.le_of_ble_eq_true rfl⟩ hG hZ hP hD hS hA rfl hl.1 rfl (Nat.le_of_ble_eq_true rfl) d_1_6_8 ⟨Nat.le_of_ble_eq_true rfl, Nat.le_of_ble_eq_true rfl⟩ (fun _ H locs hP hD hS => ?_)
    have hP : va_P z.1 classes (wv z ad E M) H := hP
    have hD : va_D A (wv z ad E M) := hD
    refine W.eq (g2 := F0 m 11 ls []) rfl ?_
    refine lv_iload_n hx hb d_1_6_11 rfl (lv_at hl 2 rfl) ?_
    refine lv_iconst (v := oI 1) hx hb d_1_6_12 (by decide +kernel) ?_
    refine lv_aload_n hx hb d_1_6_13 rfl (lv_at hl 0 rfl) ?_
    refine m_gr (j := 2) (C := "Ballothall") (T := TX11) (N := 14) (ci := 11) (k := 0) hx hb hts iX11 hown hG hP (yi_1 hL) (yt_1 hL) rfl (by decide) w_397 (fun _ h9 => h9) rfl rfl (yr_1_0 hL) d_1_6_14 ?_
    refine m_grN (j := 5) (C := "Ballothall$BallotBox") (T := TX0) (N := 10) (ci := 0) (k := 5) hx hb hts iX0 hown hG hP (yi_2 hL) (yt_2 hL) rfl (by decide) n_66 rfl (fun _ h9 => h9) rfl rfl (yr_2_5 hL) d_1_6_17 ?_
    refine lv_iload_n hx hb d_1_6_20 rfl (lv_at hl 1 rfl) ?_
    obtain ⟨ok101, h⟩ := ck_e h
    refine m_ia hx hb hG hP (yi_5 hL) (yt_5 hL) ok101 d_1_6_21 ?_
    obtain ⟨_, g102, h⟩ := bd_e h
    refine kS (As := [.int (oI x2), .int (oI 1), .int (oI (M 5 x1.toNat))]) (rest := []) (s_B_needRange l z ad E M x2 1 (M 5 x1.toNat) hL g102) hx hb hml hown hts w_548 w_546 w_547 w_1 md_519134 ⟨Nat.le_of_ble_eq_true rfl, Nat.le_of_ble_eq_true rfl⟩ hG hZ hP hD hS hA rfl hl.1 rfl (Nat.le_of_ble_eq_true rfl) d_1_6_22 ⟨Nat.le_of_ble_eq_true rfl, Nat.le_of_ble_eq_true rfl⟩ (fun _ H locs hP hD hS => ?_)
    have hP : va_P z.1 classes (wv z ad E M) H := hP
    have hD : va_D A (wv z ad E M) := hD
    refine W.eq (g2 := F0 m 25 ls []) rfl ?_
    refine lv_aload_n hx hb d_1_6_25 rfl (lv_at hl 0 rfl) ?_
    refine lv_iconst (v := oI 4) hx hb d_1_6_26 (by decide +kernel) ?_
    refine lv_iload_n hx hb d_1_6_27 rfl (lv_at hl 1 rfl) ?_
    refine lv_aload_n hx hb d_1_6_28 rfl (lv_at hl 0 rfl) ?_
    refine m_gr (j := 2) (C := "Ballothall") (T := TX11) (N := 14) (ci := 11) (k := 0) hx hb hts iX11 hown hG hP (yi_1 hL) (yt_1 hL) rfl (by decide) w_397 (fun _ h9 => h9) rfl rfl (yr_1_0 hL) d_1_6_29 ?_
    refine m_grN (j := 5) (C := "Ballothall$BallotBox") (T := TX0) (N := 10) (ci := 0) (k := 5) hx hb hts iX0 hown hG hP (yi_2 hL) (yt_2 hL) rfl (by decide) n_66 rfl (fun _ h9 => h9) rfl rfl (yr_2_5 hL) d_1_6_32 ?_
    refine lv_iload_n hx hb d_1_6_35 rfl (lv_at hl 1 rfl) ?_
    refine m_ia hx hb hG hP (yi_5 hL) (yt_5 hL) ok101 d_1_6_36 ?_
    obtain ⟨M103, g103, h⟩ := bd_e h
    refine kV (As := [.int (oI 4), .int (oI x1), .int (oI (M 5 x1.toNat))]) (rest := []) (s_B_remember l z ad E M 4 x1 (M 5 x1.toNat) M103 hL g103) hx hb hml hown hts w_519 w_516 w_518 w_s_b872b3 w_1 md_7af0bb ⟨Nat.le_of_ble_eq_true rfl, Nat.le_of_ble_eq_true rfl⟩ hG hZ hP hD hS hA 1 (wv_o (ci := 11) (yi_1 hL) (yt_1 hL)) rfl rfl rfl hl.1 rfl (Nat.le_of_ble_eq_true rfl) d_1_6_37 ⟨Nat.le_of_ble_eq_true rfl, Nat.le_of_ble_eq_true rfl⟩ (fun _ H locs hP hD hS => ?_)
    have hP : va_P z.1 classes (wv z ad E M103) H := hP
    have hD : va_D A (wv z ad E M103) := hD
    refine W.eq (g2 := F0 m 40 ls []) rfl ?_
    refine lv_aload_n hx hb d_1_6_40 rfl (lv_at hl 0 rfl) ?_
    refine m_gr (j := 2) (C := "Ballothall") (T := TX11) (N := 14) (ci := 11) (k := 0) hx hb hts iX11 hown hG hP (yi_1 hL) (yt_1 hL) rfl (by decide) w_397 (fun _ h9 => h9) rfl rfl (yr_1_0 hL) d_1_6_41 ?_
    refine m_grN (j := 5) (C := "Ballothall$BallotBox") (T := TX0) (N := 10) (ci := 0) (k := 5) hx hb hts iX0 hown hG hP (yi_2 hL) (yt_2 hL) rfl (by decide) n_66 rfl (fun _ h9 => h9) rfl rfl (yr_2_5 hL) d_1_6_44 ?_
    refine lv_iload_n hx hb d_1_6_47 rfl (lv_at hl 1 rfl) ?_
    refine lv_dup2_11 hx hb d_1_6_48 rfl rfl ?_
    refine m_ia hx hb hG hP (yi_5 hL) (yt_5 hL) ok101 d_1_6_49 ?_
    refine lv_iload_n hx hb d_1_6_50 rfl (lv_at hl 2 rfl) ?_
    refine lv_isub hx hb d_1_6_51 ?_
    refine nrm (oI_sub _ _) ?_
    refine m_is hx hb hG hP hD hS (yi_5 hL) (yt_5 hL) ok101 d_1_6_52 (fun H locs hP hD hS => ?_)
    have hP : va_P z.1 classes (wv z ad E (u2 M103 5 x1.toNat ((M103 5 x1.toNat) - x2))) H := hP
    have hD : va_D A (wv z ad E (u2 M103 5 x1.toNat ((M103 5 x1.toNat) - x2))) := hD
    refine lv_aload_n hx hb d_1_6_53 rfl (lv_at hl 0 rfl) ?_
    refine m_gr (j := 2) (C := "Ballothall") (T := TX11) (N := 14) (ci := 11) (k := 0) hx hb hts iX11 hown hG hP (yi_1 hL) (yt_1 hL) rfl (by decide) w_397 (fun _ h9 => h9) rfl rfl (yr_1_0 hL) d_1_6_54 ?_
    refine m_grN (j := 5) (C := "Ballothall$BallotBox") (T := TX0) (N := 10) (ci := 0) (k := 5) hx hb hts iX0 hown hG hP (yi_2 hL) (yt_2 hL) rfl (by decide) n_66 rfl (fun _ h9 => h9) rfl rfl (yr_2_5 hL) d_1_6_57 ?_
    refine lv_iload_n hx hb d_1_6_60 rfl (lv_at hl 1 rfl) ?_
    refine m_ia hx hb hG hP (yi_5 hL) (yt_5 hL) ok101 d_1_6_61 ?_
    obtain ⟨rfl, rfl⟩ := in2 h
    exact W.iret hx hb hr (fun t ht hW => qkA hP hD hS (fun k => k) rfl rfl ht) hS.2.2 d_1_6_62
  exact key _ _ _ hts hP hS
set_option maxRecDepth 100000 in
set_option maxHeartbeats 4000000 in
theorem s_Co_goBack (l : Launch) (z : Zz) (ad : Nat → Nat) (E : Ev) (M : Mm) (N : Mm) (hL : Lay E) (h : f_Co_goBack E M = some N) : CT l z ⟨"Ballothall$Counting", "goBack", "()V"⟩ prog_5_method_3_code 1 none [.ref (ad 179)] (wv z ad E M) 0 20 0 0 (fun _ => none) (fun _ => (wv z ad E N)) := by
  refine CT.of (own := "Ballothall$Counting") (by decide +kernel) (Nat.le_of_ble_eq_true rfl) rfl (fun p e s m below meth c A ls hx hb hml hr hts hown hlocks hin hA hG hZ hP hD hS hl => ?_)
  have hl : lv_has ls 1 [(0, .ref (ad 179))] := hl
  have key : ∀ (H : Heap) (locs : List Loc) (args : Array Value), (∀ w ∈ WG, w.before args s = true) → va_P z.1 classes (wv z ad E M) H → va_S A s.heap H locs → W p l e (rmK 0 20 0 0) s m args below meth c H locs 0 0 (MQ below (QK z A (fun _ => none) (fun _ => (wv z ad E N))) args s 0 0 A) (F0 m 0 ls []) := by
    intro H locs args hts hP hS
    unfold f_Co_goBack at h
    refine lv_aload_n hx hb d_5_3_0 rfl (lv_at hl 0 rfl) ?_
    refine lv_aload_n hx hb d_5_3_1 rfl (lv_at hl 0 rfl) ?_
    refine m_gi (C := "Ballothall$Counting") (T := TX3) (N := 15) (ci := 3) (k := 2) hx hb hts iX3 hown hG hP (yi_179 hL) (yt_179 hL) rfl (by decide) w_305 (fun _ h9 => h9) rfl rfl d_5_3_2 ?_
    refine lv_bipush (v := oI 21) hx hb d_5_3_5 (by decide +kernel) ?_
    refine lv_iadd hx hb d_5_3_7 ?_
    refine nrm (oI_add _ _) ?_
    refine lv_iconst (v := oI 1) hx hb d_5_3_8 (by decide +kernel) ?_
    refine lv_isub hx hb d_5_3_9 ?_
    refine nrm (oI_sub _ _) ?_
    refine lv_bipush (v := oI 21) hx hb d_5_3_10 (by decide +kernel) ?_
    obtain ⟨ok100, h⟩ := ck_e h
    refine lv_irem hx hb d_5_3_12 (oI_nz (show psI 21 by decide).1 (show psI 21 by decide).2) ?_
    refine nrm (oI_rem (a := (((M 179 2) + 21) - 1)) (b := (21 : Int)) ok100.1 ok100.2 (show psI 21 by decide).1 (show psI 21 by decide).2) ?_
    refine m_pi (C := "Ballothall$Counting") (T := TX3) (N := 15) (ci := 3) (k := 2) (ty := .int) hx hb hts iX3 hown hG hP hD hS (yi_179 hL) (yt_179 hL) rfl (by decide) w_305 (fun _ h9 => h9) rfl rfl tyX3_ok nmX3 rfl (by decide +kernel) rfl rfl d_5_3_13 (fun H locs hP hD hS => ?_)
    have hP : va_P z.1 classes (wv z ad E (u2 M 179 2 ((((M 179 2) + 21) - 1) % 21))) H := hP
    have hD : va_D A (wv z ad E (u2 M 179 2 ((((M 179 2) + 21) - 1) % 21))) := hD
    obtain rfl := in1 h
    exact W.vret hx hb hr (fun t ht hW => qkA hP hD hS (fun k => k) rfl rfl ht) hS.2.2 d_5_3_16
  exact key _ _ _ hts hP hS
set_option maxRecDepth 100000 in
set_option maxHeartbeats 4000000 in
theorem s_Li_takeChangeBack (l : Launch) (z : Zz) (ad : Nat → Nat) (E : Ev) (M : Mm) (x1 : Int) (x2 : Int) (x3 : Int) (N : Mm) (hL : Lay E) (h : f_Li_takeChangeBack E M x1 x2 x3 = some N) : CT l z ⟨"Ballothall$Lists", "takeChangeBack", "(III)V"⟩ prog_9_method_11_code 4 none [.ref (ad 53), .int (oI x1), .int (oI x2), .int (oI x3)] (wv z ad E M) 0 20 0 0 (fun _ => none) (fun _ => (wv z ad E N)) := by
  refine CT.of (own := "Ballothall$Lists") (by decide +kernel) (Nat.le_of_ble_eq_true rfl) rfl (fun p e s m below meth c A ls hx hb hml hr hts hown hlocks hin hA hG hZ hP hD hS hl => ?_)
  have hl : lv_has ls 4 [(0, .ref (ad 53)), (1, .int (oI x1)), (2, .int (oI x2)), (3, .int (oI x3))] := hl
  have key : ∀ (H : Heap) (locs : List Loc) (args : Array Value), (∀ w ∈ WG, w.before args s = true) → va_P z.1 classes (wv z ad E M) H → va_S A s.heap H locs → W p l e (rmK 0 20 0 0) s m args below meth c H locs 0 0 (MQ below (QK z A (fun _ => none) (fun _ => (wv z ad E N))) args s 0 0 A) (F0 m 0 ls []) := by
    intro H locs args hts hP hS
    unfold f_Li_takeChangeBack at h
    refine lv_iload_n hx hb d_9_11_0 rfl (lv_at hl 1 rfl) ?_
    obtain ⟨ok100, h⟩ := ck_e h
    by_cases s101_2 : x1 = 2
    · have h := ite_t s101_2 h
      refine nrm (congrArg oI s101_2) ?_
      refine lv_tableIn (off := 51) (tgt := 52) hx hb d_9_11_1 (by decide +kernel) (by decide +kernel) rfl (by decide) ?_
      refine lv_aload_n hx hb d_9_11_52 rfl (lv_at hl 0 rfl) ?_
      refine m_gr (j := 56) (C := "Ballothall$Lists") (T := TX7) (N := 11) (ci := 7) (k := 3) hx hb hts iX7 hown hG hP (yi_53 hL) (yt_53 hL) rfl (by decide) w_247 (fun _ h9 => h9) rfl rfl (yr_53_3 hL) d_9_11_53 ?_
      refine lv_iload_n hx hb d_9_11_56 rfl (lv_at hl 2 rfl) ?_
      refine lv_iload_n hx hb d_9_11_57 rfl (lv_at hl 3 rfl) ?_
      obtain ⟨ok102, h⟩ := ck_e h
      refine m_is hx hb hG hP hD hS (yi_56 hL) (yt_56 hL) ok102 d_9_11_58 (fun H locs hP hD hS => ?_)
      have hP : va_P z.1 classes (wv z ad E (u2 M 56 x2.toNat x3)) H := hP
      have hD : va_D A (wv z ad E (u2 M 56 x2.toNat x3)) := hD
      refine lv_goto (tgt := 101) hx hb d_9_11_59 (by decide) ?_
      obtain rfl := in1 h
      exact W.vret hx hb hr (fun t ht hW => qkA hP hD hS (fun k => k) rfl rfl ht) hS.2.2 d_9_11_101
    have h := ite_f s101_2 h
    by_cases s101_3 : x1 = 3
    · have h := ite_t s101_3 h
      refine nrm (congrArg oI s101_3) ?_
      refine lv_tableIn (off := 100) (tgt := 101) hx hb d_9_11_1 (by decide +kernel) (by decide +kernel) rfl (by decide) ?_
      obtain rfl := in1 h
      exact W.vret hx hb hr (fun t ht hW => qkA hP hD hS (fun k => k) rfl rfl ht) hS.2.2 d_9_11_101
    have h := ite_f s101_3 h
    by_cases s101_4 : x1 = 4
    · have h := ite_t s101_4 h
      refine nrm (congrArg oI s101_4) ?_
      refine lv_tableIn (off := 100) (tgt := 101) hx hb d_9_11_1 (by decide +kernel) (by decide +kernel) rfl (by decide) ?_
      obtain rfl := in1 h
      exact W.vret hx hb hr (fun t ht hW => qkA hP hD hS (fun k => k) rfl rfl ht) hS.2.2 d_9_11_101
    have h := ite_f s101_4 h
    by_cases s101_5 : x1 = 5
    · have h := ite_t s101_5 h
      refine nrm (congrArg oI s101_5) ?_
      refine lv_tableIn (off := 43) (tgt := 44) hx hb d_9_11_1 (by decide +kernel) (by decide +kernel) rfl (by decide) ?_
      refine lv_aload_n hx hb d_9_11_44 rfl (lv_at hl 0 rfl) ?_
      refine lv_iload_n hx hb d_9_11_45 rfl (lv_at hl 2 rfl) ?_
      refine m_pi (C := "Ballothall$Lists") (T := TX7) (N := 11) (ci := 7) (k := 0) (ty := .int) hx hb hts iX7 hown hG hP hD hS (yi_53 hL) (yt_53 hL) rfl (by decide) w_242 (fun _ h9 => h9) rfl rfl tyX7_ok nmX7 rfl (by decide +kernel) rfl rfl d_9_11_46 (fun H locs hP hD hS => ?_)
      have hP : va_P z.1 classes (wv z ad E (u2 M 53 0 x2)) H := hP
      have hD : va_D A (wv z ad E (u2 M 53 0 x2)) := hD
      refine lv_goto (tgt := 101) hx hb d_9_11_49 (by decide) ?_
      obtain rfl := in1 h
      exact W.vret hx hb hr (fun t ht hW => qkA hP hD hS (fun k => k) rfl rfl ht) hS.2.2 d_9_11_101
    have h := ite_f s101_5 h
    by_cases s101_6 : x1 = 6
    · have h := ite_t s101_6 h
      refine nrm (congrArg oI s101_6) ?_
      refine lv_tableIn (off := 61) (tgt := 62) hx hb d_9_11_1 (by decide +kernel) (by decide +kernel) rfl (by decide) ?_
      refine lv_aload_n hx hb d_9_11_62 rfl (lv_at hl 0 rfl) ?_
      refine m_gr (j := 54) (C := "Ballothall$Lists") (T := TX7) (N := 11) (ci := 7) (k := 1) hx hb hts iX7 hown hG hP (yi_53 hL) (yt_53 hL) rfl (by decide) w_244 (fun _ h9 => h9) rfl rfl (yr_53_1 hL) d_9_11_63 ?_
      refine lv_iload_n hx hb d_9_11_66 rfl (lv_at hl 2 rfl) ?_
      refine lv_iload_n hx hb d_9_11_67 rfl (lv_at hl 3 rfl) ?_
      obtain ⟨ok103, h⟩ := ck_e h
      refine m_is hx hb hG hP hD hS (yi_54 hL) (yt_54 hL) ok103 d_9_11_68 (fun H locs hP hD hS => ?_)
      have hP : va_P z.1 classes (wv z ad E (u2 M 54 x2.toNat x3)) H := hP
      have hD : va_D A (wv z ad E (u2 M 54 x2.toNat x3)) := hD
      refine lv_goto (tgt := 101) hx hb d_9_11_69 (by decide) ?_
      obtain rfl := in1 h
      exact W.vret hx hb hr (fun t ht hW => qkA hP hD hS (fun k => k) rfl rfl ht) hS.2.2 d_9_11_101
    have h := ite_f s101_6 h
    by_cases s101_7 : x1 = 7
    · have h := ite_t s101_7 h
      refine nrm (congrArg oI s101_7) ?_
      refine lv_tableIn (off := 71) (tgt := 72) hx hb d_9_11_1 (by decide +kernel) (by decide +kernel) rfl (by decide) ?_
      refine lv_aload_n hx hb d_9_11_72 rfl (lv_at hl 0 rfl) ?_
      refine m_gr (j := 55) (C := "Ballothall$Lists") (T := TX7) (N := 11) (ci := 7) (k := 2) hx hb hts iX7 hown hG hP (yi_53 hL) (yt_53 hL) rfl (by decide) w_245 (fun _ h9 => h9) rfl rfl (yr_53_2 hL) d_9_11_73 ?_
      refine lv_iload_n hx hb d_9_11_76 rfl (lv_at hl 2 rfl) ?_
      refine lv_iload_n hx hb d_9_11_77 rfl (lv_at hl 3 rfl) ?_
      obtain ⟨ok104, h⟩ := ck_e h
      refine m_is hx hb hG hP hD hS (yi_55 hL) (yt_55 hL) ok104 d_9_11_78 (fun H locs hP hD hS => ?_)
      have hP : va_P z.1 classes (wv z ad E (u2 M 55 x2.toNat x3)) H := hP
      have hD : va_D A (wv z ad E (u2 M 55 x2.toNat x3)) := hD
      refine lv_goto (tgt := 101) hx hb d_9_11_79 (by decide) ?_
      obtain rfl := in1 h
      exact W.vret hx hb hr (fun t ht hW => qkA hP hD hS (fun k => k) rfl rfl ht) hS.2.2 d_9_11_101
    have h := ite_f s101_7 h
    by_cases s101_8 : x1 = 8
    · have h := ite_t s101_8 h
      refine nrm (congrArg oI s101_8) ?_
      refine lv_tableIn (off := 81) (tgt := 82) hx hb d_9_11_1 (by decide +kernel) (by decide +kernel) rfl (by decide) ?_
      refine lv_aload_n hx hb d_9_11_82 rfl (lv_at hl 0 rfl) ?_
      refine lv_aload_n hx hb d_9_11_83 rfl (lv_at hl 0 rfl) ?_
      refine m_gi (C := "Ballothall$Lists") (T := TX7) (N := 11) (ci := 7) (k := 10) hx hb hts iX7 hown hG hP (yi_53 hL) (yt_53 hL) rfl (by decide) w_255 (fun _ h9 => h9) rfl rfl d_9_11_84 ?_
      refine lv_bipush (v := oI 21) hx hb d_9_11_87 (by decide +kernel) ?_
      refine lv_iadd hx hb d_9_11_89 ?_
      refine nrm (oI_add _ _) ?_
      refine lv_iconst (v := oI 1) hx hb d_9_11_90 (by decide +kernel) ?_
      refine lv_isub hx hb d_9_11_91 ?_
      refine nrm (oI_sub _ _) ?_
      refine lv_bipush (v := oI 21) hx hb d_9_11_92 (by decide +kernel) ?_
      obtain ⟨ok105, h⟩ := ck_e h
      refine lv_irem hx hb d_9_11_94 (oI_nz (show psI 21 by decide).1 (show psI 21 by decide).2) ?_
      refine nrm (oI_rem (a := (((M 53 10) + 21) - 1)) (b := (21 : Int)) ok105.1 ok105.2 (show psI 21 by decide).1 (show psI 21 by decide).2) ?_
      refine m_pi (C := "Ballothall$Lists") (T := TX7) (N := 11) (ci := 7) (k := 10) (ty := .int) hx hb hts iX7 hown hG hP hD hS (yi_53 hL) (yt_53 hL) rfl (by decide) w_255 (fun _ h9 => h9) rfl rfl tyX7_ok nmX7 rfl (by decide +kernel) rfl rfl d_9_11_95 (fun H locs hP hD hS => ?_)
      have hP : va_P z.1 classes (wv z ad E (u2 M 53 10 ((((M 53 10) + 21) - 1) % 21))) H := hP
      have hD : va_D A (wv z ad E (u2 M 53 10 ((((M 53 10) + 21) - 1) % 21))) := hD
      refine lv_goto (tgt := 101) hx hb d_9_11_98 (by decide) ?_
      obtain rfl := in1 h
      exact W.vret hx hb hr (fun t ht hW => qkA hP hD hS (fun k => k) rfl rfl ht) hS.2.2 d_9_11_101
    have h := ite_f s101_8 h
    refine lv_tableOut (tgt := 101) hx hb d_9_11_1 (tb_out ok100 (by omega)) (by decide) ?_
    obtain rfl := in1 h
    exact W.vret hx hb hr (fun t ht hW => qkA hP hD hS (fun k => k) rfl rfl ht) hS.2.2 d_9_11_101
  exact key _ _ _ hts hP hS
set_option maxRecDepth 100000 in
set_option maxHeartbeats 4000000 in
theorem s_B_takeChangeBack (l : Launch) (z : Zz) (ad : Nat → Nat) (E : Ev) (M : Mm) (x1 : Int) (x2 : Int) (x3 : Int) (N : Mm) (hL : Lay E) (h : f_B_takeChangeBack E M x1 x2 x3 = some N) : CT l z ⟨"Ballothall", "takeChangeBack", "(III)V"⟩ prog_1_method_62_code 4 none [.ref (ad 1), .int (oI x1), .int (oI x2), .int (oI x3)] (wv z ad E M) 1 43 0 0 (fun _ => none) (fun _ => (wv z ad E N)) := by
  refine CT.of (own := "Ballothall") (by decide +kernel) (Nat.le_of_ble_eq_true rfl) rfl (fun p e s m below meth c A ls hx hb hml hr hts hown hlocks hin hA hG hZ hP hD hS hl => ?_)
  have hl : lv_has ls 4 [(0, .ref (ad 1)), (1, .int (oI x1)), (2, .int (oI x2)), (3, .int (oI x3))] := hl
  have key : ∀ (H : Heap) (locs : List Loc) (args : Array Value), (∀ w ∈ WG, w.before args s = true) → va_P z.1 classes (wv z ad E M) H → va_S A s.heap H locs → W p l e (rmK 1 43 0 0) s m args below meth c H locs 0 0 (MQ below (QK z A (fun _ => none) (fun _ => (wv z ad E N))) args s 0 0 A) (F0 m 0 ls []) := by
    intro H locs args hts hP hS
    unfold f_B_takeChangeBack at h
    refine lv_iload_n hx hb d_1_62_0 rfl (lv_at hl 1 rfl) ?_
    obtain ⟨ok100, h⟩ := ck_e h
    by_cases s101_0 : x1 = 0
    · have h := ite_t s101_0 h
      refine nrm (congrArg oI s101_0) ?_
      refine lv_tableIn (off := 67) (tgt := 68) hx hb d_1_62_1 (by decide +kernel) (by decide +kernel) rfl (by decide) ?_
      refine lv_aload_n hx hb d_1_62_68 rfl (lv_at hl 0 rfl) ?_
      refine m_gr (j := 2) (C := "Ballothall") (T := TX11) (N := 14) (ci := 11) (k := 0) hx hb hts iX11 hown hG hP (yi_1 hL) (yt_1 hL) rfl (by decide) w_397 (fun _ h9 => h9) rfl rfl (yr_1_0 hL) d_1_62_69 ?_
      refine lv_iload_n hx hb d_1_62_72 rfl (lv_at hl 2 rfl) ?_
      refine m_piN (C := "Ballothall$BallotBox") (T := TX0) (N := 10) (ci := 0) (k := 2) (ty := .int) hx hb hts iX0 hown hG hP hD hS (yi_2 hL) (yt_2 hL) rfl (by decide) n_52 rfl (fun _ h9 => h9) rfl rfl tyX0_ok nmX0 rfl (by decide +kernel) rfl rfl d_1_62_73 (fun H locs hP hD hS => ?_)
      have hP : va_P z.1 classes (wv z ad E (u2 M 2 2 x2)) H := hP
      have hD : va_D A (wv z ad E (u2 M 2 2 x2)) := hD
      refine lv_goto (tgt := 169) hx hb d_1_62_76 (by decide) ?_
      obtain rfl := in1 h
      exact W.vret hx hb hr (fun t ht hW => qkA hP hD hS (fun k => k) rfl rfl ht) hS.2.2 d_1_62_169
    have h := ite_f s101_0 h
    by_cases s101_1 : x1 = 1
    · have h := ite_t s101_1 h
      refine nrm (congrArg oI s101_1) ?_
      refine lv_tableIn (off := 78) (tgt := 79) hx hb d_1_62_1 (by decide +kernel) (by decide +kernel) rfl (by decide) ?_
      refine lv_aload_n hx hb d_1_62_79 rfl (lv_at hl 0 rfl) ?_
      refine m_gr (j := 2) (C := "Ballothall") (T := TX11) (N := 14) (ci := 11) (k := 0) hx hb hts iX11 hown hG hP (yi_1 hL) (yt_1 hL) rfl (by decide) w_397 (fun _ h9 => h9) rfl rfl (yr_1_0 hL) d_1_62_80 ?_
      refine m_grN (j := 4) (C := "Ballothall$BallotBox") (T := TX0) (N := 10) (ci := 0) (k := 4) hx hb hts iX0 hown hG hP (yi_2 hL) (yt_2 hL) rfl (by decide) n_62 rfl (fun _ h9 => h9) rfl rfl (yr_2_4 hL) d_1_62_83 ?_
      refine lv_iload_n hx hb d_1_62_86 rfl (lv_at hl 2 rfl) ?_
      refine lv_iload_n hx hb d_1_62_87 rfl (lv_at hl 3 rfl) ?_
      obtain ⟨ok102, h⟩ := ck_e h
      refine m_is hx hb hG hP hD hS (yi_4 hL) (yt_4 hL) ok102 d_1_62_88 (fun H locs hP hD hS => ?_)
      have hP : va_P z.1 classes (wv z ad E (u2 M 4 x2.toNat x3)) H := hP
      have hD : va_D A (wv z ad E (u2 M 4 x2.toNat x3)) := hD
      refine lv_goto (tgt := 169) hx hb d_1_62_89 (by decide) ?_
      obtain rfl := in1 h
      exact W.vret hx hb hr (fun t ht hW => qkA hP hD hS (fun k => k) rfl rfl ht) hS.2.2 d_1_62_169
    have h := ite_f s101_1 h
    by_cases s101_2 : x1 = 2
    · have h := ite_t s101_2 h
      refine nrm (congrArg oI s101_2) ?_
      refine lv_tableIn (off := 158) (tgt := 159) hx hb d_1_62_1 (by decide +kernel) (by decide +kernel) rfl (by decide) ?_
      refine lv_aload_n hx hb d_1_62_159 rfl (lv_at hl 0 rfl) ?_
      refine m_gr (j := 53) (C := "Ballothall") (T := TX11) (N := 14) (ci := 11) (k := 3) hx hb hts iX11 hown hG hP (yi_1 hL) (yt_1 hL) rfl (by decide) w_400 (fun _ h9 => h9) rfl rfl (yr_1_3 hL) d_1_62_160 ?_
      refine lv_iload_n hx hb d_1_62_163 rfl (lv_at hl 1 rfl) ?_
      refine lv_iload_n hx hb d_1_62_164 rfl (lv_at hl 2 rfl) ?_
      refine lv_iload_n hx hb d_1_62_165 rfl (lv_at hl 3 rfl) ?_
      obtain ⟨M103, g103, h⟩ := bd_e h
      refine kVN (As := [.int (oI x1), .int (oI x2), .int (oI x3)]) (rest := []) (s_Li_takeChangeBack l z ad E M x1 x2 x3 M103 hL g103) hx hb hml hown hts w_1503 n_1500 w_1502 w_s_f7e76e w_5 md_b6fc12 ⟨Nat.le_of_ble_eq_true rfl, Nat.le_of_ble_eq_true rfl⟩ hG hZ hP hD hS hA 53 (wv_o (ci := 7) (yi_53 hL) (yt_53 hL)) rfl rfl rfl hl.1 rfl (Nat.le_of_ble_eq_true rfl) d_1_62_166 ⟨Nat.le_of_ble_eq_true rfl, Nat.le_of_ble_eq_true rfl⟩ (fun _ H locs hP hD hS => ?_)
      have hP : va_P z.1 classes (wv z ad E M103) H := hP
      have hD : va_D A (wv z ad E M103) := hD
      refine W.eq (g2 := F0 m 169 ls []) rfl ?_
      obtain rfl := in1 h
      exact W.vret hx hb hr (fun t ht hW => qkA hP hD hS (fun k => k) rfl rfl ht) hS.2.2 d_1_62_169
    have h := ite_f s101_2 h
    by_cases s101_3 : x1 = 3
    · have h := ite_t s101_3 h
      refine nrm (congrArg oI s101_3) ?_
      refine lv_tableIn (off := 91) (tgt := 92) hx hb d_1_62_1 (by decide +kernel) (by decide +kernel) rfl (by decide) ?_
      refine lv_aload_n hx hb d_1_62_92 rfl (lv_at hl 0 rfl) ?_
      refine m_gr (j := 2) (C := "Ballothall") (T := TX11) (N := 14) (ci := 11) (k := 0) hx hb hts iX11 hown hG hP (yi_1 hL) (yt_1 hL) rfl (by decide) w_397 (fun _ h9 => h9) rfl rfl (yr_1_0 hL) d_1_62_93 ?_
      refine lv_iload_n hx hb d_1_62_96 rfl (lv_at hl 2 rfl) ?_
      refine m_piN (C := "Ballothall$BallotBox") (T := TX0) (N := 10) (ci := 0) (k := 3) (ty := .int) hx hb hts iX0 hown hG hP hD hS (yi_2 hL) (yt_2 hL) rfl (by decide) n_58 rfl (fun _ h9 => h9) rfl rfl tyX0_ok nmX0 rfl (by decide +kernel) rfl rfl d_1_62_97 (fun H locs hP hD hS => ?_)
      have hP : va_P z.1 classes (wv z ad E (u2 M 2 3 x2)) H := hP
      have hD : va_D A (wv z ad E (u2 M 2 3 x2)) := hD
      refine lv_goto (tgt := 169) hx hb d_1_62_100 (by decide) ?_
      obtain rfl := in1 h
      exact W.vret hx hb hr (fun t ht hW => qkA hP hD hS (fun k => k) rfl rfl ht) hS.2.2 d_1_62_169
    have h := ite_f s101_3 h
    by_cases s101_4 : x1 = 4
    · have h := ite_t s101_4 h
      refine nrm (congrArg oI s101_4) ?_
      refine lv_tableIn (off := 102) (tgt := 103) hx hb d_1_62_1 (by decide +kernel) (by decide +kernel) rfl (by decide) ?_
      refine lv_aload_n hx hb d_1_62_103 rfl (lv_at hl 0 rfl) ?_
      refine m_gr (j := 2) (C := "Ballothall") (T := TX11) (N := 14) (ci := 11) (k := 0) hx hb hts iX11 hown hG hP (yi_1 hL) (yt_1 hL) rfl (by decide) w_397 (fun _ h9 => h9) rfl rfl (yr_1_0 hL) d_1_62_104 ?_
      refine m_grN (j := 5) (C := "Ballothall$BallotBox") (T := TX0) (N := 10) (ci := 0) (k := 5) hx hb hts iX0 hown hG hP (yi_2 hL) (yt_2 hL) rfl (by decide) n_66 rfl (fun _ h9 => h9) rfl rfl (yr_2_5 hL) d_1_62_107 ?_
      refine lv_iload_n hx hb d_1_62_110 rfl (lv_at hl 2 rfl) ?_
      refine lv_iload_n hx hb d_1_62_111 rfl (lv_at hl 3 rfl) ?_
      obtain ⟨ok104, h⟩ := ck_e h
      refine m_is hx hb hG hP hD hS (yi_5 hL) (yt_5 hL) ok104 d_1_62_112 (fun H locs hP hD hS => ?_)
      have hP : va_P z.1 classes (wv z ad E (u2 M 5 x2.toNat x3)) H := hP
      have hD : va_D A (wv z ad E (u2 M 5 x2.toNat x3)) := hD
      refine lv_goto (tgt := 169) hx hb d_1_62_113 (by decide) ?_
      obtain rfl := in1 h
      exact W.vret hx hb hr (fun t ht hW => qkA hP hD hS (fun k => k) rfl rfl ht) hS.2.2 d_1_62_169
    have h := ite_f s101_4 h
    by_cases s101_5 : x1 = 5
    · have h := ite_t s101_5 h
      refine nrm (congrArg oI s101_5) ?_
      refine lv_tableIn (off := 158) (tgt := 159) hx hb d_1_62_1 (by decide +kernel) (by decide +kernel) rfl (by decide) ?_
      refine lv_aload_n hx hb d_1_62_159 rfl (lv_at hl 0 rfl) ?_
      refine m_gr (j := 53) (C := "Ballothall") (T := TX11) (N := 14) (ci := 11) (k := 3) hx hb hts iX11 hown hG hP (yi_1 hL) (yt_1 hL) rfl (by decide) w_400 (fun _ h9 => h9) rfl rfl (yr_1_3 hL) d_1_62_160 ?_
      refine lv_iload_n hx hb d_1_62_163 rfl (lv_at hl 1 rfl) ?_
      refine lv_iload_n hx hb d_1_62_164 rfl (lv_at hl 2 rfl) ?_
      refine lv_iload_n hx hb d_1_62_165 rfl (lv_at hl 3 rfl) ?_
      obtain ⟨M105, g105, h⟩ := bd_e h
      refine kVN (As := [.int (oI x1), .int (oI x2), .int (oI x3)]) (rest := []) (s_Li_takeChangeBack l z ad E M x1 x2 x3 M105 hL g105) hx hb hml hown hts w_1503 n_1500 w_1502 w_s_f7e76e w_5 md_b6fc12 ⟨Nat.le_of_ble_eq_true rfl, Nat.le_of_ble_eq_true rfl⟩ hG hZ hP hD hS hA 53 (wv_o (ci := 7) (yi_53 hL) (yt_53 hL)) rfl rfl rfl hl.1 rfl (Nat.le_of_ble_eq_true rfl) d_1_62_166 ⟨Nat.le_of_ble_eq_true rfl, Nat.le_of_ble_eq_true rfl⟩ (fun _ H locs hP hD hS => ?_)
      have hP : va_P z.1 classes (wv z ad E M105) H := hP
      have hD : va_D A (wv z ad E M105) := hD
      refine W.eq (g2 := F0 m 169 ls []) rfl ?_
      obtain rfl := in1 h
      exact W.vret hx hb hr (fun t ht hW => qkA hP hD hS (fun k => k) rfl rfl ht) hS.2.2 d_1_62_169
    have h := ite_f s101_5 h
    by_cases s101_6 : x1 = 6
    · have h := ite_t s101_6 h
      refine nrm (congrArg oI s101_6) ?_
      refine lv_tableIn (off := 158) (tgt := 159) hx hb d_1_62_1 (by decide +kernel) (by decide +kernel) rfl (by decide) ?_
      refine lv_aload_n hx hb d_1_62_159 rfl (lv_at hl 0 rfl) ?_
      refine m_gr (j := 53) (C := "Ballothall") (T := TX11) (N := 14) (ci := 11) (k := 3) hx hb hts iX11 hown hG hP (yi_1 hL) (yt_1 hL) rfl (by decide) w_400 (fun _ h9 => h9) rfl rfl (yr_1_3 hL) d_1_62_160 ?_
      refine lv_iload_n hx hb d_1_62_163 rfl (lv_at hl 1 rfl) ?_
      refine lv_iload_n hx hb d_1_62_164 rfl (lv_at hl 2 rfl) ?_
      refine lv_iload_n hx hb d_1_62_165 rfl (lv_at hl 3 rfl) ?_
      obtain ⟨M106, g106, h⟩ := bd_e h
      refine kVN (As := [.int (oI x1), .int (oI x2), .int (oI x3)]) (rest := []) (s_Li_takeChangeBack l z ad E M x1 x2 x3 M106 hL g106) hx hb hml hown hts w_1503 n_1500 w_1502 w_s_f7e76e w_5 md_b6fc12 ⟨Nat.le_of_ble_eq_true rfl, Nat.le_of_ble_eq_true rfl⟩ hG hZ hP hD hS hA 53 (wv_o (ci := 7) (yi_53 hL) (yt_53 hL)) rfl rfl rfl hl.1 rfl (Nat.le_of_ble_eq_true rfl) d_1_62_166 ⟨Nat.le_of_ble_eq_true rfl, Nat.le_of_ble_eq_true rfl⟩ (fun _ H locs hP hD hS => ?_)
      have hP : va_P z.1 classes (wv z ad E M106) H := hP
      have hD : va_D A (wv z ad E M106) := hD
      refine W.eq (g2 := F0 m 169 ls []) rfl ?_
      obtain rfl := in1 h
      exact W.vret hx hb hr (fun t ht hW => qkA hP hD hS (fun k => k) rfl rfl ht) hS.2.2 d_1_62_169
    have h := ite_f s101_6 h
    by_cases s101_7 : x1 = 7
    · have h := ite_t s101_7 h
      refine nrm (congrArg oI s101_7) ?_
      refine lv_tableIn (off := 158) (tgt := 159) hx hb d_1_62_1 (by decide +kernel) (by decide +kernel) rfl (by decide) ?_
      refine lv_aload_n hx hb d_1_62_159 rfl (lv_at hl 0 rfl) ?_
      refine m_gr (j := 53) (C := "Ballothall") (T := TX11) (N := 14) (ci := 11) (k := 3) hx hb hts iX11 hown hG hP (yi_1 hL) (yt_1 hL) rfl (by decide) w_400 (fun _ h9 => h9) rfl rfl (yr_1_3 hL) d_1_62_160 ?_
      refine lv_iload_n hx hb d_1_62_163 rfl (lv_at hl 1 rfl) ?_
      refine lv_iload_n hx hb d_1_62_164 rfl (lv_at hl 2 rfl) ?_
      refine lv_iload_n hx hb d_1_62_165 rfl (lv_at hl 3 rfl) ?_
      obtain ⟨M107, g107, h⟩ := bd_e h
      refine kVN (As := [.int (oI x1), .int (oI x2), .int (oI x3)]) (rest := []) (s_Li_takeChangeBack l z ad E M x1 x2 x3 M107 hL g107) hx hb hml hown hts w_1503 n_1500 w_1502 w_s_f7e76e w_5 md_b6fc12 ⟨Nat.le_of_ble_eq_true rfl, Nat.le_of_ble_eq_true rfl⟩ hG hZ hP hD hS hA 53 (wv_o (ci := 7) (yi_53 hL) (yt_53 hL)) rfl rfl rfl hl.1 rfl (Nat.le_of_ble_eq_true rfl) d_1_62_166 ⟨Nat.le_of_ble_eq_true rfl, Nat.le_of_ble_eq_true rfl⟩ (fun _ H locs hP hD hS => ?_)
      have hP : va_P z.1 classes (wv z ad E M107) H := hP
      have hD : va_D A (wv z ad E M107) := hD
      refine W.eq (g2 := F0 m 169 ls []) rfl ?_
      obtain rfl := in1 h
      exact W.vret hx hb hr (fun t ht hW => qkA hP hD hS (fun k => k) rfl rfl ht) hS.2.2 d_1_62_169
    have h := ite_f s101_7 h
    by_cases s101_8 : x1 = 8
    · have h := ite_t s101_8 h
      refine nrm (congrArg oI s101_8) ?_
      refine lv_tableIn (off := 158) (tgt := 159) hx hb d_1_62_1 (by decide +kernel) (by decide +kernel) rfl (by decide) ?_
      refine lv_aload_n hx hb d_1_62_159 rfl (lv_at hl 0 rfl) ?_
      refine m_gr (j := 53) (C := "Ballothall") (T := TX11) (N := 14) (ci := 11) (k := 3) hx hb hts iX11 hown hG hP (yi_1 hL) (yt_1 hL) rfl (by decide) w_400 (fun _ h9 => h9) rfl rfl (yr_1_3 hL) d_1_62_160 ?_
      refine lv_iload_n hx hb d_1_62_163 rfl (lv_at hl 1 rfl) ?_
      refine lv_iload_n hx hb d_1_62_164 rfl (lv_at hl 2 rfl) ?_
      refine lv_iload_n hx hb d_1_62_165 rfl (lv_at hl 3 rfl) ?_
      obtain ⟨M108, g108, h⟩ := bd_e h
      refine kVN (As := [.int (oI x1), .int (oI x2), .int (oI x3)]) (rest := []) (s_Li_takeChangeBack l z ad E M x1 x2 x3 M108 hL g108) hx hb hml hown hts w_1503 n_1500 w_1502 w_s_f7e76e w_5 md_b6fc12 ⟨Nat.le_of_ble_eq_true rfl, Nat.le_of_ble_eq_true rfl⟩ hG hZ hP hD hS hA 53 (wv_o (ci := 7) (yi_53 hL) (yt_53 hL)) rfl rfl rfl hl.1 rfl (Nat.le_of_ble_eq_true rfl) d_1_62_166 ⟨Nat.le_of_ble_eq_true rfl, Nat.le_of_ble_eq_true rfl⟩ (fun _ H locs hP hD hS => ?_)
      have hP : va_P z.1 classes (wv z ad E M108) H := hP
      have hD : va_D A (wv z ad E M108) := hD
      refine W.eq (g2 := F0 m 169 ls []) rfl ?_
      obtain rfl := in1 h
      exact W.vret hx hb hr (fun t ht hW => qkA hP hD hS (fun k => k) rfl rfl ht) hS.2.2 d_1_62_169
    have h := ite_f s101_8 h
    by_cases s101_9 : x1 = 9
    · have h := ite_t s101_9 h
      refine nrm (congrArg oI s101_9) ?_
      refine lv_tableIn (off := 115) (tgt := 116) hx hb d_1_62_1 (by decide +kernel) (by decide +kernel) rfl (by decide) ?_
      refine lv_aload_n hx hb d_1_62_116 rfl (lv_at hl 0 rfl) ?_
      refine m_gr (j := 179) (C := "Ballothall") (T := TX11) (N := 14) (ci := 11) (k := 4) hx hb hts iX11 hown hG hP (yi_1 hL) (yt_1 hL) rfl (by decide) w_401 (fun _ h9 => h9) rfl rfl (yr_1_4 hL) d_1_62_117 ?_
      obtain ⟨M109, g109, h⟩ := bd_e h
      refine kVN (As := []) (rest := []) (s_Co_goBack l z ad E M M109 hL g109) hx hb hml hown hts w_1499 n_1496 w_1498 w_s_aea976 w_8 md_1d44b6 ⟨Nat.le_of_ble_eq_true rfl, Nat.le_of_ble_eq_true rfl⟩ hG hZ hP hD hS hA 179 (wv_o (ci := 3) (yi_179 hL) (yt_179 hL)) rfl rfl rfl hl.1 rfl (Nat.le_of_ble_eq_true rfl) d_1_62_120 ⟨Nat.le_of_ble_eq_true rfl, Nat.le_of_ble_eq_true rfl⟩ (fun _ H locs hP hD hS => ?_)
      have hP : va_P z.1 classes (wv z ad E M109) H := hP
      have hD : va_D A (wv z ad E M109) := hD
      refine W.eq (g2 := F0 m 123 ls []) rfl ?_
      refine lv_goto (tgt := 169) hx hb d_1_62_123 (by decide) ?_
      obtain rfl := in1 h
      exact W.vret hx hb hr (fun t ht hW => qkA hP hD hS (fun k => k) rfl rfl ht) hS.2.2 d_1_62_169
    have h := ite_f s101_9 h
    by_cases s101_10 : x1 = 10
    · have h := ite_t s101_10 h
      refine nrm (congrArg oI s101_10) ?_
      refine lv_tableIn (off := 125) (tgt := 126) hx hb d_1_62_1 (by decide +kernel) (by decide +kernel) rfl (by decide) ?_
      refine lv_aload_n hx hb d_1_62_126 rfl (lv_at hl 0 rfl) ?_
      refine m_gr (j := 219) (C := "Ballothall") (T := TX11) (N := 14) (ci := 11) (k := 5) hx hb hts iX11 hown hG hP (yi_1 hL) (yt_1 hL) rfl (by decide) w_402 (fun _ h9 => h9) rfl rfl (yr_1_5 hL) d_1_62_127 ?_
      refine lv_iload_n hx hb d_1_62_130 rfl (lv_at hl 2 rfl) ?_
      refine m_piN (C := "Ballothall$Wards") (T := TX10) (N := 5) (ci := 10) (k := 0) (ty := .int) hx hb hts iX10 hown hG hP hD hS (yi_219 hL) (yt_219 hL) rfl (by decide) n_359 rfl (fun _ h9 => h9) rfl rfl tyX10_ok nmX10 rfl (by decide +kernel) rfl rfl d_1_62_131 (fun H locs hP hD hS => ?_)
      have hP : va_P z.1 classes (wv z ad E (u2 M 219 0 x2)) H := hP
      have hD : va_D A (wv z ad E (u2 M 219 0 x2)) := hD
      refine lv_goto (tgt := 169) hx hb d_1_62_134 (by decide) ?_
      obtain rfl := in1 h
      exact W.vret hx hb hr (fun t ht hW => qkA hP hD hS (fun k => k) rfl rfl ht) hS.2.2 d_1_62_169
    have h := ite_f s101_10 h
    by_cases s101_11 : x1 = 11
    · have h := ite_t s101_11 h
      refine nrm (congrArg oI s101_11) ?_
      refine lv_tableIn (off := 136) (tgt := 137) hx hb d_1_62_1 (by decide +kernel) (by decide +kernel) rfl (by decide) ?_
      refine lv_aload_n hx hb d_1_62_137 rfl (lv_at hl 0 rfl) ?_
      refine m_gr (j := 243) (C := "Ballothall") (T := TX11) (N := 14) (ci := 11) (k := 6) hx hb hts iX11 hown hG hP (yi_1 hL) (yt_1 hL) rfl (by decide) w_403 (fun _ h9 => h9) rfl rfl (yr_1_6 hL) d_1_62_138 ?_
      refine lv_iload_n hx hb d_1_62_141 rfl (lv_at hl 2 rfl) ?_
      refine m_piN (C := "Ballothall$Council") (T := TX1) (N := 4) (ci := 1) (k := 0) (ty := .int) hx hb hts iX1 hown hG hP hD hS (yi_243 hL) (yt_243 hL) rfl (by decide) n_383 rfl (fun _ h9 => h9) rfl rfl tyX1_ok nmX1 rfl (by decide +kernel) rfl rfl d_1_62_142 (fun H locs hP hD hS => ?_)
      have hP : va_P z.1 classes (wv z ad E (u2 M 243 0 x2)) H := hP
      have hD : va_D A (wv z ad E (u2 M 243 0 x2)) := hD
      refine lv_goto (tgt := 169) hx hb d_1_62_145 (by decide) ?_
      obtain rfl := in1 h
      exact W.vret hx hb hr (fun t ht hW => qkA hP hD hS (fun k => k) rfl rfl ht) hS.2.2 d_1_62_169
    have h := ite_f s101_11 h
    by_cases s101_12 : x1 = 12
    · have h := ite_t s101_12 h
      refine nrm (congrArg oI s101_12) ?_
      refine lv_tableIn (off := 147) (tgt := 148) hx hb d_1_62_1 (by decide +kernel) (by decide +kernel) rfl (by decide) ?_
      refine lv_aload_n hx hb d_1_62_148 rfl (lv_at hl 0 rfl) ?_
      refine m_gr (j := 243) (C := "Ballothall") (T := TX11) (N := 14) (ci := 11) (k := 6) hx hb hts iX11 hown hG hP (yi_1 hL) (yt_1 hL) rfl (by decide) w_403 (fun _ h9 => h9) rfl rfl (yr_1_6 hL) d_1_62_149 ?_
      refine lv_iload_n hx hb d_1_62_152 rfl (lv_at hl 3 rfl) ?_
      refine m_piN (C := "Ballothall$Council") (T := TX1) (N := 4) (ci := 1) (k := 1) (ty := .int) hx hb hts iX1 hown hG hP hD hS (yi_243 hL) (yt_243 hL) rfl (by decide) n_385 rfl (fun _ h9 => h9) rfl rfl tyX1_ok nmX1 rfl (by decide +kernel) rfl rfl d_1_62_153 (fun H locs hP hD hS => ?_)
      have hP : va_P z.1 classes (wv z ad E (u2 M 243 1 x3)) H := hP
      have hD : va_D A (wv z ad E (u2 M 243 1 x3)) := hD
      refine lv_goto (tgt := 169) hx hb d_1_62_156 (by decide) ?_
      obtain rfl := in1 h
      exact W.vret hx hb hr (fun t ht hW => qkA hP hD hS (fun k => k) rfl rfl ht) hS.2.2 d_1_62_169
    have h := ite_f s101_12 h
    refine lv_tableOut (tgt := 159) hx hb d_1_62_1 (tb_out ok100 (by omega)) (by decide) ?_
    refine lv_aload_n hx hb d_1_62_159 rfl (lv_at hl 0 rfl) ?_
    refine m_gr (j := 53) (C := "Ballothall") (T := TX11) (N := 14) (ci := 11) (k := 3) hx hb hts iX11 hown hG hP (yi_1 hL) (yt_1 hL) rfl (by decide) w_400 (fun _ h9 => h9) rfl rfl (yr_1_3 hL) d_1_62_160 ?_
    refine lv_iload_n hx hb d_1_62_163 rfl (lv_at hl 1 rfl) ?_
    refine lv_iload_n hx hb d_1_62_164 rfl (lv_at hl 2 rfl) ?_
    refine lv_iload_n hx hb d_1_62_165 rfl (lv_at hl 3 rfl) ?_
    obtain ⟨M110, g110, h⟩ := bd_e h
    refine kVN (As := [.int (oI x1), .int (oI x2), .int (oI x3)]) (rest := []) (s_Li_takeChangeBack l z ad E M x1 x2 x3 M110 hL g110) hx hb hml hown hts w_1503 n_1500 w_1502 w_s_f7e76e w_5 md_b6fc12 ⟨Nat.le_of_ble_eq_true rfl, Nat.le_of_ble_eq_true rfl⟩ hG hZ hP hD hS hA 53 (wv_o (ci := 7) (yi_53 hL) (yt_53 hL)) rfl rfl rfl hl.1 rfl (Nat.le_of_ble_eq_true rfl) d_1_62_166 ⟨Nat.le_of_ble_eq_true rfl, Nat.le_of_ble_eq_true rfl⟩ (fun _ H locs hP hD hS => ?_)
    have hP : va_P z.1 classes (wv z ad E M110) H := hP
    have hD : va_D A (wv z ad E M110) := hD
    refine W.eq (g2 := F0 m 169 ls []) rfl ?_
    obtain rfl := in1 h
    exact W.vret hx hb hr (fun t ht hW => qkA hP hD hS (fun k => k) rfl rfl ht) hS.2.2 d_1_62_169
  exact key _ _ _ hts hP hS
set_option maxRecDepth 100000 in
set_option maxHeartbeats 4000000 in
theorem s_B_undo (l : Launch) (z : Zz) (ad : Nat → Nat) (E : Ev) (M : Mm) (r : Int) (N : Mm) (hL : Lay E) (h : f_B_undo E M = some (r, N)) : CT l z ⟨"Ballothall", "undo", "()I"⟩ prog_1_method_50_code 1 (some .int) [.ref (ad 1)] (wv z ad E M) 2 66 0 0 (fun _ => some (.int (oI r))) (fun _ => (wv z ad E N)) := by
  refine CT.of (own := "Ballothall") (by decide +kernel) (Nat.le_of_ble_eq_true rfl) rfl (fun p e s m below meth c A ls hx hb hml hr hts hown hlocks hin hA hG hZ hP hD hS hl => ?_)
  have hl : lv_has ls 1 [(0, .ref (ad 1))] := hl
  have key : ∀ (H : Heap) (locs : List Loc) (args : Array Value), (∀ w ∈ WG, w.before args s = true) → va_P z.1 classes (wv z ad E M) H → va_S A s.heap H locs → W p l e (rmK 2 66 0 0) s m args below meth c H locs 0 0 (MQ below (QK z A (fun _ => some (.int (oI r))) (fun _ => (wv z ad E N))) args s 0 0 A) (F0 m 0 ls []) := by
    intro H locs args hts hP hS
    unfold f_B_undo at h
    refine lv_aload_n hx hb d_1_50_0 rfl (lv_at hl 0 rfl) ?_
    refine m_gi (C := "Ballothall") (T := TX11) (N := 14) (ci := 11) (k := 11) hx hb hts iX11 hown hG hP (yi_1 hL) (yt_1 hL) rfl (by decide) w_408 (fun _ h9 => h9) rfl rfl d_1_50_1 ?_
    obtain ⟨ok100, h⟩ := ck_e h
    refine lv_if_ne (tgt := 9) hx hb d_1_50_4 (by decide) (fun c9 => ?_) (fun c9 => ?_)
    · have h := ite_f (fun q => c9 ((oI_eq0 ok100).mpr q)) h
      refine lv_aload_n hx hb d_1_50_9 rfl (lv_at hl 0 rfl) ?_
      refine lv_aload_n hx hb d_1_50_10 rfl (lv_at hl 0 rfl) ?_
      refine m_gr (j := 246) (C := "Ballothall") (T := TX11) (N := 14) (ci := 11) (k := 7) hx hb hts iX11 hown hG hP (yi_1 hL) (yt_1 hL) rfl (by decide) w_404 (fun _ h9 => h9) rfl rfl (yr_1_7 hL) d_1_50_11 ?_
      refine lv_aload_n hx hb d_1_50_14 rfl (lv_at hl 0 rfl) ?_
      refine m_gi (C := "Ballothall") (T := TX11) (N := 14) (ci := 11) (k := 10) hx hb hts iX11 hown hG hP (yi_1 hL) (yt_1 hL) rfl (by decide) w_407 (fun _ h9 => h9) rfl rfl d_1_50_15 ?_
      obtain ⟨ok101, h⟩ := ck_e h
      refine m_ia hx hb hG hP (yi_246 hL) (yt_246 hL) ok101 d_1_50_18 ?_
      refine lv_aload_n hx hb d_1_50_19 rfl (lv_at hl 0 rfl) ?_
      refine m_gr (j := 247) (C := "Ballothall") (T := TX11) (N := 14) (ci := 11) (k := 8) hx hb hts iX11 hown hG hP (yi_1 hL) (yt_1 hL) rfl (by decide) w_405 (fun _ h9 => h9) rfl rfl (yr_1_8 hL) d_1_50_20 ?_
      refine lv_aload_n hx hb d_1_50_23 rfl (lv_at hl 0 rfl) ?_
      refine m_gi (C := "Ballothall") (T := TX11) (N := 14) (ci := 11) (k := 10) hx hb hts iX11 hown hG hP (yi_1 hL) (yt_1 hL) rfl (by decide) w_407 (fun _ h9 => h9) rfl rfl d_1_50_24 ?_
      refine m_ia hx hb hG hP (yi_247 hL) (yt_247 hL) ok101 d_1_50_27 ?_
      refine lv_aload_n hx hb d_1_50_28 rfl (lv_at hl 0 rfl) ?_
      refine m_gr (j := 248) (C := "Ballothall") (T := TX11) (N := 14) (ci := 11) (k := 9) hx hb hts iX11 hown hG hP (yi_1 hL) (yt_1 hL) rfl (by decide) w_406 (fun _ h9 => h9) rfl rfl (yr_1_9 hL) d_1_50_29 ?_
      refine lv_aload_n hx hb d_1_50_32 rfl (lv_at hl 0 rfl) ?_
      refine m_gi (C := "Ballothall") (T := TX11) (N := 14) (ci := 11) (k := 10) hx hb hts iX11 hown hG hP (yi_1 hL) (yt_1 hL) rfl (by decide) w_407 (fun _ h9 => h9) rfl rfl d_1_50_33 ?_
      refine m_ia hx hb hG hP (yi_248 hL) (yt_248 hL) ok101 d_1_50_36 ?_
      obtain ⟨M102, g102, h⟩ := bd_e h
      refine kV (As := [.int (oI (M 246 (M 1 10).toNat)), .int (oI (M 247 (M 1 10).toNat)), .int (oI (M 248 (M 1 10).toNat))]) (rest := []) (s_B_takeChangeBack l z ad E M (M 246 (M 1 10).toNat) (M 247 (M 1 10).toNat) (M 248 (M 1 10).toNat) M102 hL g102) hx hb hml hown hts w_1495 w_1492 w_1494 w_s_46a037 w_1 md_d03cf9 ⟨Nat.le_of_ble_eq_true rfl, Nat.le_of_ble_eq_true rfl⟩ hG hZ hP hD hS hA 1 (wv_o (ci := 11) (yi_1 hL) (yt_1 hL)) rfl rfl rfl hl.1 rfl (Nat.le_of_ble_eq_true rfl) d_1_50_37 ⟨Nat.le_of_ble_eq_true rfl, Nat.le_of_ble_eq_true rfl⟩ (fun _ H locs hP hD hS => ?_)
      have hP : va_P z.1 classes (wv z ad E M102) H := hP
      have hD : va_D A (wv z ad E M102) := hD
      refine W.eq (g2 := F0 m 40 ls []) rfl ?_
      refine lv_aload_n hx hb d_1_50_40 rfl (lv_at hl 0 rfl) ?_
      refine lv_aload_n hx hb d_1_50_41 rfl (lv_at hl 0 rfl) ?_
      refine m_gi (C := "Ballothall") (T := TX11) (N := 14) (ci := 11) (k := 10) hx hb hts iX11 hown hG hP (yi_1 hL) (yt_1 hL) rfl (by decide) w_407 (fun _ h9 => h9) rfl rfl d_1_50_42 ?_
      refine lv_bipush (v := oI 20) hx hb d_1_50_45 (by decide +kernel) ?_
      refine lv_iadd hx hb d_1_50_47 ?_
      refine nrm (oI_add _ _) ?_
      refine lv_iconst (v := oI 1) hx hb d_1_50_48 (by decide +kernel) ?_
      refine lv_isub hx hb d_1_50_49 ?_
      refine nrm (oI_sub _ _) ?_
      refine lv_bipush (v := oI 20) hx hb d_1_50_50 (by decide +kernel) ?_
      obtain ⟨ok103, h⟩ := ck_e h
      refine lv_irem hx hb d_1_50_52 (oI_nz (show psI 20 by decide).1 (show psI 20 by decide).2) ?_
      refine nrm (oI_rem (a := (((M102 1 10) + 20) - 1)) (b := (20 : Int)) ok103.1 ok103.2 (show psI 20 by decide).1 (show psI 20 by decide).2) ?_
      refine m_pi (C := "Ballothall") (T := TX11) (N := 14) (ci := 11) (k := 10) (ty := .int) hx hb hts iX11 hown hG hP hD hS (yi_1 hL) (yt_1 hL) rfl (by decide) w_407 (fun _ h9 => h9) rfl rfl tyX11_ok nmX11 rfl (by decide +kernel) rfl rfl d_1_50_53 (fun H locs hP hD hS => ?_)
      have hP : va_P z.1 classes (wv z ad E (u2 M102 1 10 ((((M102 1 10) + 20) - 1) % 20))) H := hP
      have hD : va_D A (wv z ad E (u2 M102 1 10 ((((M102 1 10) + 20) - 1) % 20))) := hD
      refine lv_aload_n hx hb d_1_50_56 rfl (lv_at hl 0 rfl) ?_
      refine lv_dup hx hb d_1_50_57 rfl ?_
      refine m_gi (C := "Ballothall") (T := TX11) (N := 14) (ci := 11) (k := 11) hx hb hts iX11 hown hG hP (yi_1 hL) (yt_1 hL) rfl (by decide) w_408 (fun _ h9 => h9) rfl rfl d_1_50_58 ?_
      refine lv_iconst (v := oI 1) hx hb d_1_50_61 (by decide +kernel) ?_
      refine lv_isub hx hb d_1_50_62 ?_
      refine nrm (oI_sub _ _) ?_
      refine m_pi (C := "Ballothall") (T := TX11) (N := 14) (ci := 11) (k := 11) (ty := .int) hx hb hts iX11 hown hG hP hD hS (yi_1 hL) (yt_1 hL) rfl (by decide) w_408 (fun _ h9 => h9) rfl rfl tyX11_ok nmX11 rfl (by decide +kernel) rfl rfl d_1_50_63 (fun H locs hP hD hS => ?_)
      have hP : va_P z.1 classes (wv z ad E (u2 (u2 M102 1 10 ((((M102 1 10) + 20) - 1) % 20)) 1 11 (((u2 M102 1 10 ((((M102 1 10) + 20) - 1) % 20)) 1 11) - 1))) H := hP
      have hD : va_D A (wv z ad E (u2 (u2 M102 1 10 ((((M102 1 10) + 20) - 1) % 20)) 1 11 (((u2 M102 1 10 ((((M102 1 10) + 20) - 1) % 20)) 1 11) - 1))) := hD
      obtain ⟨M104, e104, h⟩ := nb_e h
      rw [← e104] at hP hD
      refine lv_aload_n hx hb d_1_50_66 rfl (lv_at hl 0 rfl) ?_
      refine m_gi (C := "Ballothall") (T := TX11) (N := 14) (ci := 11) (k := 11) hx hb hts iX11 hown hG hP (yi_1 hL) (yt_1 hL) rfl (by decide) w_408 (fun _ h9 => h9) rfl rfl d_1_50_67 ?_
      obtain ⟨rfl, rfl⟩ := in2 h
      exact W.iret hx hb hr (fun t ht hW => qkA hP hD hS (fun k => k) rfl rfl ht) hS.2.2 d_1_50_70
    · have h := ite_t ((oI_eq0 ok100).mp c9) h
      refine lv_iconst (v := oI (-1)) hx hb d_1_50_7 (by decide +kernel) ?_
      obtain ⟨rfl, rfl⟩ := in2 h
      exact W.iret hx hb hr (fun t ht hW => qkA hP hD hS (fun k => k) rfl rfl ht) hS.2.2 d_1_50_8
  exact key _ _ _ hts hP hS
set_option maxRecDepth 100000 in
set_option maxHeartbeats 4000000 in
theorem b_La_gains_40b (l : Launch) (z : Zz) (E0 : Ev) (ad0 : Nat → Nat) (ad : Nat → Nat) (E : Ev) (M : Mm) (q1 : Nat) (x3 : Int) (x4 : Int) (x5 : Int) (q6 : Nat) (x7 : Int) (t : Nat) (w7 : Int) (F : Ev) (N : Mm) {Q : State → Prop} {p : Program} {e : Env} {s : State} {m : MethodId} {below : List Frame} {meth : Method} {c : Code} {A : Nat → Prop} {args : Array Value} (hx : p.tables.exec = Jvm.exec) (hb : c.code = method_9_code) (hml : c.maxLocals = 11) (hts : ∀ w ∈ WG, w.before args s = true) (hown : s.vm.findClass "BallothallLaw" = some m.cls) (hlocks : meth.locks = false) (hA : ∀ q, s.heap.size ≤ q → A q) (hG : KG z s) (hZ : FZ z A s) (mc ms c0 s0 c1 s1 : Nat) (hc : c0 + 0 ≤ c1) (hs : s0 + 0 ≤ s1) (hm : c1 ≤ mc) (hm2 : s1 ≤ ms) (hag0 : ∀ i, i < nE E0 → ad i = ad0 i) (hE0 : nE E0 ≤ nE E) (h : La_gains_40b E M q1 x3 x4 x5 q6 x7 = some (t, w7, F, N)) (k0 : ∀ (ad1 : Nat → Nat), (∀ i, i < nE E0 → ad1 i = ad0 i) → nE E0 ≤ nE F → t = 0 → ∀ (H : Heap) (locs : List Loc) (ls : Array Slot), va_P z.1 classes (wv z ad1 F N) H → va_D A (wv z ad1 F N) → va_S A s.heap H locs → lv_has ls 11 [(0, .ref (ad1 1)), (1, .ref (ad1 q1)), (3, .int (oI x3)), (4, .int (oI x4)), (5, .int (oI x5)), (6, .ref (ad1 q6)), (7, .int (oI w7))] → W p l e (rmK 8 207 mc ms) s m args below meth c H locs c1 s1 Q (F0 m 40 ls [])) (k1 : ∀ (ad1 : Nat → Nat), (∀ i, i < nE E0 → ad1 i = ad0 i) → nE E0 ≤ nE F → t = 1 → ∀ (H : Heap) (locs : List Loc) (ls : Array Slot), va_P z.1 classes (wv z ad1 F N) H → va_D A (wv z ad1 F N) → va_S A s.heap H locs → lv_has ls 11 [(0, .ref (ad1 1)), (3, .int (oI x3)), (4, .int (oI x4)), (5, .int (oI x5)), (6, .ref (ad1 q6))] → W p l e (rmK 8 207 mc ms) s m args below meth c H locs c1 s1 Q (F0 m 88 ls [])) : ∀ (H : Heap) (locs : List Loc) (ls : Array Slot), va_P z.1 classes (wv z ad E M) H → va_D A (wv z ad E M) → va_S A s.heap H locs → lv_has ls 11 [(0, .ref (ad 1)), (1, .ref (ad q1)), (3, .int (oI x3)), (4, .int (oI x4)), (5, .int (oI x5)), (6, .ref (ad q6)), (7, .int (oI x7))] → W p l e (rmK 8 207 mc ms) s m args below meth c H locs c0 s0 Q (F0 m 40 ls []) := by
  intro H locs ls hP hD hS hl
  unfold La_gains_40b at h
  obtain ⟨hL, h⟩ := ck_e h
  obtain ⟨h_q1, h⟩ := ck_e h
  obtain ⟨h_q6, h⟩ := ck_e h
  refine lv_iload hx hb d_L9_40 (lv_at hl 6 rfl) ?_
  refine lv_aload_n hx hb d_L9_42 rfl (lv_at hl 1 rfl) ?_
  refine m_giN (C := "BallothallLaw$Box") (T := TX12) (N := 4) (ci := 12) (k := 0) hx hb hts iX12 hown hG hP h_q1.1 h_q1.2 rfl (by decide) n_775 rfl (fun _ h9 => h9) rfl rfl d_L9_43 ?_
  obtain ⟨ok106, h⟩ := ck_e h
  obtain ⟨ok107, h⟩ := ck_e h
  refine lv_icmp_ge (tgt := 88) hx hb d_L9_46 (by decide) (fun c9 => ?_) (fun c9 => ?_)
  · have h := ite_t ((oI_le (a := (M q1 0)) (b := x7) ok107 ok106).mp c9) h
    obtain ⟨rfl, rfl, rfl, rfl⟩ := in4 h
    exact W.wide (by omega) (by omega) (k1 ad hag0 hE0 rfl H locs ls hP hD hS (lv_sub hl [0, 2, 3, 4, 5] rfl))
  · have h := ite_f (fun q => c9 ((oI_le (a := (M q1 0)) (b := x7) ok107 ok106).mpr q)) h
    refine lv_aload hx hb d_L9_49 (lv_at hl 5 rfl) ?_
    refine lv_iload hx hb d_L9_51 (lv_at hl 6 rfl) ?_
    refine lv_if_ne (tgt := 61) hx hb d_L9_53 (by decide) (fun c9 => ?_) (fun c9 => ?_)
    · have h := ite_f (fun q => c9 ((oI_eq0 ok106).mpr q)) h
      refine va_ldcS hx hb hown hG.2.2.2.2.2.1 d_L9_61 ?_
      obtain ⟨⟨r108, M108⟩, g108, h⟩ := bd_e h
      refine kV (As := [.ref (z.2 101)]) (rest := []) (s_Sb_appendS_C1 l z ad E M q6 r108 M108 hL g108) hx hb hml hown hts w_1444 w_1441 w_1442 w_1443 w_19 md_341141 ⟨Nat.le_of_ble_eq_true rfl, Nat.le_of_ble_eq_true rfl⟩ hG hZ hP hD hS hA q6 (wv_o (ci := 14) h_q6.1 h_q6.2) rfl rfl rfl hl.1 rfl (Nat.le_of_ble_eq_true rfl) d_L9_63 ⟨(show _ ≤ mc by omega), (show _ ≤ ms by omega)⟩ (fun _ H locs hP hD hS => ?_)
      have hP : va_P z.1 classes (wv z ad E M108) H := hP
      have hD : va_D A (wv z ad E M108) := hD
      obtain ⟨h_r108, h⟩ := ck_e h
      refine W.eq (g2 := F0 m 66 ls [.ref (ad r108)]) rfl ?_
      refine lv_bipush (v := oI 65) hx hb d_L9_66 (by decide +kernel) ?_
      refine lv_aload_n hx hb d_L9_68 rfl (lv_at hl 0 rfl) ?_
      refine lv_iload_n hx hb d_L9_69 rfl (lv_at hl 2 rfl) ?_
      refine lv_iload hx hb d_L9_70 (lv_at hl 6 rfl) ?_
      obtain ⟨⟨r109, M109⟩, g109, h⟩ := bd_e h
      refine kV (As := [.int (oI x3), .int (oI x7)]) (rest := [.int (oI 65), .ref (ad r108)]) (s_B_gainAt l z ad E M108 x3 x7 r109 M109 hL g109) hx hb hml hown hts w_1483 w_1480 w_1481 w_1482 w_1 md_4c9505 ⟨Nat.le_of_ble_eq_true rfl, Nat.le_of_ble_eq_true rfl⟩ hG hZ hP hD hS hA 1 (wv_o (ci := 11) (yi_1 hL) (yt_1 hL)) rfl rfl rfl hl.1 rfl (Nat.le_of_ble_eq_true rfl) d_L9_72 ⟨(show _ ≤ mc by omega), (show _ ≤ ms by omega)⟩ (fun _ H locs hP hD hS => ?_)
      have hP : va_P z.1 classes (wv z ad E M109) H := hP
      have hD : va_D A (wv z ad E M109) := hD
      refine W.eq (g2 := F0 m 75 ls [.int (oI r109), .int (oI 65), .ref (ad r108)]) rfl ?_
      refine lv_iadd hx hb d_L9_75 ?_
      refine nrm (oI_add _ _) ?_
      obtain ⟨ok110, h⟩ := ck_e h
      refine lv_i2c (v := oI (65 + r109)) hx hb d_L9_76 (oI_c ok110) ?_
      obtain ⟨⟨r111, M111⟩, g111, h⟩ := bd_e h
      refine kV (As := [.int (oI (65 + r109))]) (rest := []) (s_Sb_appendC l z ad E M109 r108 (65 + r109) r111 M111 hL g111) hx hb hml hown hts w_836 w_833 w_834 w_835 w_19 md_515737 ⟨Nat.le_of_ble_eq_true rfl, Nat.le_of_ble_eq_true rfl⟩ hG hZ hP hD hS hA r108 (wv_o (ci := 14) h_r108.1 h_r108.2) rfl rfl rfl hl.1 rfl (Nat.le_of_ble_eq_true rfl) d_L9_77 ⟨(show _ ≤ mc by omega), (show _ ≤ ms by omega)⟩ (fun _ H locs hP hD hS => ?_)
      have hP : va_P z.1 classes (wv z ad E M111) H := hP
      have hD : va_D A (wv z ad E M111) := hD
      obtain ⟨h_r111, h⟩ := ck_e h
      refine W.eq (g2 := F0 m 80 ls [.ref (ad r111)]) rfl ?_
      refine lv_astore (lv' := [(8, .ref (ad r111)), (0, .ref (ad 1)), (1, .ref (ad q1)), (3, .int (oI x3)), (4, .int (oI x4)), (5, .int (oI x5)), (6, .ref (ad q6)), (7, .int (oI x7))]) hx hb d_L9_80 hl (by decide) rfl (fun ls hl => ?_)
      refine lv_iinc (v := oI (x7 + 1)) (lv' := [(7, .int (oI (x7 + 1))), (8, .ref (ad r111)), (0, .ref (ad 1)), (1, .ref (ad q1)), (3, .int (oI x3)), (4, .int (oI x4)), (5, .int (oI x5)), (6, .ref (ad q6))]) hx hb d_L9_82 hl (k := 7) rfl (oI_add x7 1) (by decide) rfl (fun ls hl => ?_)
      refine lv_goto (tgt := 40) hx hb d_L9_85 (by decide) ?_
      obtain ⟨rfl, rfl, rfl, rfl⟩ := in4 h
      exact W.wide (by omega) (by omega) (k0 ad hag0 hE0 rfl H locs ls hP hD hS (lv_sub hl [2, 3, 4, 5, 6, 7, 0] rfl))
    · have h := ite_t ((oI_eq0 ok106).mp c9) h
      refine va_ldcS hx hb hown hG.2.2.2.2.1 d_L9_56 ?_
      refine lv_goto (tgt := 63) hx hb d_L9_58 (by decide) ?_
      obtain ⟨⟨r112, M112⟩, g112, h⟩ := bd_e h
      refine kV (As := [.ref (z.2 100)]) (rest := []) (s_Sb_appendS_C0 l z ad E M q6 r112 M112 hL g112) hx hb hml hown hts w_1444 w_1441 w_1442 w_1443 w_19 md_341141 ⟨Nat.le_of_ble_eq_true rfl, Nat.le_of_ble_eq_true rfl⟩ hG hZ hP hD hS hA q6 (wv_o (ci := 14) h_q6.1 h_q6.2) rfl rfl rfl hl.1 rfl (Nat.le_of_ble_eq_true rfl) d_L9_63 ⟨(show _ ≤ mc by omega), (show _ ≤ ms by omega)⟩ (fun _ H locs hP hD hS => ?_)
      have hP : va_P z.1 classes (wv z ad E M112) H := hP
      have hD : va_D A (wv z ad E M112) := hD
      obtain ⟨h_r112, h⟩ := ck_e h
      refine W.eq (g2 := F0 m 66 ls [.ref (ad r112)]) rfl ?_
      refine lv_bipush (v := oI 65) hx hb d_L9_66 (by decide +kernel) ?_
      refine lv_aload_n hx hb d_L9_68 rfl (lv_at hl 0 rfl) ?_
      refine lv_iload_n hx hb d_L9_69 rfl (lv_at hl 2 rfl) ?_
      refine lv_iload hx hb d_L9_70 (lv_at hl 6 rfl) ?_
      obtain ⟨⟨r113, M113⟩, g113, h⟩ := bd_e h
      refine kV (As := [.int (oI x3), .int (oI x7)]) (rest := [.int (oI 65), .ref (ad r112)]) (s_B_gainAt l z ad E M112 x3 x7 r113 M113 hL g113) hx hb hml hown hts w_1483 w_1480 w_1481 w_1482 w_1 md_4c9505 ⟨Nat.le_of_ble_eq_true rfl, Nat.le_of_ble_eq_true rfl⟩ hG hZ hP hD hS hA 1 (wv_o (ci := 11) (yi_1 hL) (yt_1 hL)) rfl rfl rfl hl.1 rfl (Nat.le_of_ble_eq_true rfl) d_L9_72 ⟨(show _ ≤ mc by omega), (show _ ≤ ms by omega)⟩ (fun _ H locs hP hD hS => ?_)
      have hP : va_P z.1 classes (wv z ad E M113) H := hP
      have hD : va_D A (wv z ad E M113) := hD
      refine W.eq (g2 := F0 m 75 ls [.int (oI r113), .int (oI 65), .ref (ad r112)]) rfl ?_
      refine lv_iadd hx hb d_L9_75 ?_
      refine nrm (oI_add _ _) ?_
      obtain ⟨ok114, h⟩ := ck_e h
      refine lv_i2c (v := oI (65 + r113)) hx hb d_L9_76 (oI_c ok114) ?_
      obtain ⟨⟨r115, M115⟩, g115, h⟩ := bd_e h
      refine kV (As := [.int (oI (65 + r113))]) (rest := []) (s_Sb_appendC l z ad E M113 r112 (65 + r113) r115 M115 hL g115) hx hb hml hown hts w_836 w_833 w_834 w_835 w_19 md_515737 ⟨Nat.le_of_ble_eq_true rfl, Nat.le_of_ble_eq_true rfl⟩ hG hZ hP hD hS hA r112 (wv_o (ci := 14) h_r112.1 h_r112.2) rfl rfl rfl hl.1 rfl (Nat.le_of_ble_eq_true rfl) d_L9_77 ⟨(show _ ≤ mc by omega), (show _ ≤ ms by omega)⟩ (fun _ H locs hP hD hS => ?_)
      have hP : va_P z.1 classes (wv z ad E M115) H := hP
      have hD : va_D A (wv z ad E M115) := hD
      obtain ⟨h_r115, h⟩ := ck_e h
      refine W.eq (g2 := F0 m 80 ls [.ref (ad r115)]) rfl ?_
      refine lv_astore (lv' := [(8, .ref (ad r115)), (0, .ref (ad 1)), (1, .ref (ad q1)), (3, .int (oI x3)), (4, .int (oI x4)), (5, .int (oI x5)), (6, .ref (ad q6)), (7, .int (oI x7))]) hx hb d_L9_80 hl (by decide) rfl (fun ls hl => ?_)
      refine lv_iinc (v := oI (x7 + 1)) (lv' := [(7, .int (oI (x7 + 1))), (8, .ref (ad r115)), (0, .ref (ad 1)), (1, .ref (ad q1)), (3, .int (oI x3)), (4, .int (oI x4)), (5, .int (oI x5)), (6, .ref (ad q6))]) hx hb d_L9_82 hl (k := 7) rfl (oI_add x7 1) (by decide) rfl (fun ls hl => ?_)
      refine lv_goto (tgt := 40) hx hb d_L9_85 (by decide) ?_
      obtain ⟨rfl, rfl, rfl, rfl⟩ := in4 h
      exact W.wide (by omega) (by omega) (k0 ad hag0 hE0 rfl H locs ls hP hD hS (lv_sub hl [2, 3, 4, 5, 6, 7, 0] rfl))
set_option maxRecDepth 100000 in
set_option maxHeartbeats 4000000 in
theorem s_La_gains_40 (l : Launch) (z : Zz) (E0 : Ev) (ad0 : Nat → Nat) (q1 : Nat) (x3 : Int) (x4 : Int) (x5 : Int) (q6 : Nat) {Q : State → Prop} {p : Program} {e : Env} {s : State} {m : MethodId} {below : List Frame} {meth : Method} {c : Code} {A : Nat → Prop} {args : Array Value} (hx : p.tables.exec = Jvm.exec) (hb : c.code = method_9_code) (hml : c.maxLocals = 11) (hts : ∀ w ∈ WG, w.before args s = true) (hown : s.vm.findClass "BallothallLaw" = some m.cls) (hlocks : meth.locks = false) (hA : ∀ q, s.heap.size ≤ q → A q) (hG : KG z s) (hZ : FZ z A s) (mc ms c1 s1 : Nat) (hm : c1 ≤ mc) (hm2 : s1 ≤ ms) : ∀ (fu c0 s0 : Nat) (ad : Nat → Nat) (E : Ev) (M : Mm) (x7 : Int) (t : Nat) (w7 : Int) (F : Ev) (N : Mm), c0 + fu * 0 ≤ c1 → s0 + fu * 0 ≤ s1 → (∀ i, i < nE E0 → ad i = ad0 i) → nE E0 ≤ nE E → l_La_gains_40 q1 x3 x4 x5 q6 fu E M x7 = some (t, w7, F, N) → (∀ (ad1 : Nat → Nat), (∀ i, i < nE E0 → ad1 i = ad0 i) → nE E0 ≤ nE F → t = 1 → ∀ (H : Heap) (locs : List Loc) (ls : Array Slot), va_P z.1 classes (wv z ad1 F N) H → va_D A (wv z ad1 F N) → va_S A s.heap H locs → lv_has ls 11 [(0, .ref (ad1 1)), (3, .int (oI x3)), (4, .int (oI x4)), (5, .int (oI x5)), (6, .ref (ad1 q6))] → W p l e (rmK 8 207 mc ms) s m args below meth c H locs c1 s1 Q (F0 m 88 ls [])) → ∀ (H : Heap) (locs : List Loc) (ls : Array Slot), va_P z.1 classes (wv z ad E M) H → va_D A (wv z ad E M) → va_S A s.heap H locs → lv_has ls 11 [(0, .ref (ad 1)), (1, .ref (ad q1)), (3, .int (oI x3)), (4, .int (oI x4)), (5, .int (oI x5)), (6, .ref (ad q6)), (7, .int (oI x7))] → W p l e (rmK 8 207 mc ms) s m args below meth c H locs c0 s0 Q (F0 m 40 ls []) := by
  intro fu
  induction fu with
  | zero =>
    intro c0 s0 ad E M x7 t w7 F N hc hs hag0 hE0 h
    have h : (none : Option (Nat × Int × Ev × Mm)) = some _ := h
    cases h
  | succ fu ih =>
    intro c0 s0 ad E M x7 t w7 F N hc hs hag0 hE0 h k1 H locs ls hP hD hS hl
    obtain ⟨⟨t0, w70, F9, N9⟩, g0, h⟩ := bd_e h
    refine W.wide (Nat.le_refl _) (Nat.le_refl _) (b_La_gains_40b l z E0 ad0 ad E M q1 x3 x4 x5 q6 x7 t0 w70 F9 N9 hx hb hml hts hown hlocks hA hG hZ mc ms c0 s0 (c0 + 0) (s0 + 0) (Nat.le_refl _) (Nat.le_refl _) (by omega) (by omega) hag0 hE0 g0 (fun ad1 ha he e0 => ?_) (fun ad1 ha he e0 => ?_) H locs ls hP hD hS hl)
    · subst e0
      have h := ite_t rfl h
      exact ih (c0 + 0) (s0 + 0) ad1 F9 N9 w70 t w7 F N (by omega) (by omega) ha he h k1
    · subst e0
      have h := ite_f (by decide) h
      obtain ⟨rfl, rfl, rfl, rfl⟩ := in4 h
      exact fun H locs ls hP hD hS hl => W.wide (by omega) (by omega) (k1 ad1 ha he rfl H locs ls hP hD hS hl)
set_option maxRecDepth 100000 in
set_option maxHeartbeats 4000000 in
theorem s_La_gains (l : Launch) (z : Zz) (ad : Nat → Nat) (E : Ev) (M : Mm) (p1 : Nat) (p2 : Nat) (r : Int) (F : Ev) (N : Mm) (h : f_La_gains E M p1 p2 = some (r, F, N)) : CT l z ⟨"BallothallLaw", "gains", "(LBallothall;LBallothallLaw$Box;[I)Z"⟩ method_9_code 11 (some .boolean) [.ref (ad 1), .ref (ad p1), .ref (ad p2)] (wv z ad E M) 8 207 4 136 (fun u => some (.int (oI r))) (fun u => wv z (adj E ad u) F N) := by
  refine CT.of (own := "BallothallLaw") (by decide +kernel) (Nat.le_of_ble_eq_true rfl) rfl (fun p e s m below meth c A ls hx hb hml hr hts hown hlocks hin hA hG hZ hP hD hS hl => ?_)
  have hl : lv_has ls 11 [(0, .ref (ad 1)), (1, .ref (ad p1)), (2, .ref (ad p2))] := hl
  have key : ∀ (E0 : Ev) (ad0 : Nat → Nat) (mc ms c0 s0 c1 s1 : Nat) (H : Heap) (locs : List Loc) (args : Array Value), c0 + 4 ≤ c1 → s0 + 136 ≤ s1 → c1 ≤ mc → s1 ≤ ms → (∀ i, i < nE E0 → ad i = ad0 i) → nE E0 ≤ nE E → (∀ w ∈ WG, w.before args s = true) → va_P z.1 classes (wv z ad E M) H → va_S A s.heap H locs → W p l e (rmK 8 207 mc ms) s m args below meth c H locs c0 s0 (MQ below (QK z A (fun u => some (.int (oI r))) (fun u => wv z (adj E0 ad0 u) F N)) args s c1 s1 A) (F0 m 0 ls []) := by
    intro E0 ad0 mc ms c0 s0 c1 s1 H locs args hc hs hm hm2 hag0 hE0 hts hP hS
    unfold f_La_gains at h
    obtain ⟨hL, h⟩ := ck_e h
    obtain ⟨h_p1, h⟩ := ck_e h
    obtain ⟨h_p2, h⟩ := ck_e h
    refine lv_aload_n hx hb d_L9_0 rfl (lv_at hl 2 rfl) ?_
    refine lv_iconst (v := oI 5) hx hb d_L9_1 (by decide +kernel) ?_
    obtain ⟨⟨r100, M100⟩, g100, h⟩ := bd_e h
    refine kS (As := [.ref (ad p2), .int (oI 5)]) (rest := []) (s_La_next l z ad E M p2 5 r100 M100 hL g100) hx hb hml hown hts w_797 w_795 w_796 w_0 md_199d8f ⟨Nat.le_of_ble_eq_true rfl, Nat.le_of_ble_eq_true rfl⟩ hG hZ hP hD hS hA rfl hl.1 rfl (Nat.le_of_ble_eq_true rfl) d_L9_2 ⟨(show _ ≤ mc by omega), (show _ ≤ ms by omega)⟩ (fun _ H locs hP hD hS => ?_)
    have hP : va_P z.1 classes (wv z ad E M100) H := hP
    have hD : va_D A (wv z ad E M100) := hD
    refine W.eq (g2 := F0 m 5 ls [.int (oI r100)]) rfl ?_
    refine lv_istore_n (lv' := [(3, .int (oI r100)), (0, .ref (ad 1)), (1, .ref (ad p1)), (2, .ref (ad p2))]) hx hb d_L9_5 rfl hl (by decide) rfl (fun ls hl => ?_)
    refine lv_aload_n hx hb d_L9_6 rfl (lv_at hl 1 rfl) ?_
    refine lv_iload_n hx hb d_L9_7 rfl (lv_at hl 0 rfl) ?_
    obtain ⟨⟨r101, M101⟩, g101, h⟩ := bd_e h
    refine kV (As := [.int (oI r100)]) (rest := []) (s_B_gain l z ad E M100 r100 r101 M101 hL g101) hx hb hml hown hts w_1359 w_1356 w_1357 w_1358 w_1 md_fbcadc ⟨Nat.le_of_ble_eq_true rfl, Nat.le_of_ble_eq_true rfl⟩ hG hZ hP hD hS hA 1 (wv_o (ci := 11) (yi_1 hL) (yt_1 hL)) rfl rfl rfl hl.1 rfl (Nat.le_of_ble_eq_true rfl) d_L9_8 ⟨(show _ ≤ mc by omega), (show _ ≤ ms by omega)⟩ (fun _ H locs hP hD hS => ?_)
    have hP : va_P z.1 classes (wv z ad E M101) H := hP
    have hD : va_D A (wv z ad E M101) := hD
    refine W.eq (g2 := F0 m 11 ls [.int (oI r101)]) rfl ?_
    refine lv_istore (lv' := [(4, .int (oI r101)), (3, .int (oI r100)), (0, .ref (ad 1)), (1, .ref (ad p1)), (2, .ref (ad p2))]) hx hb d_L9_11 hl (by decide) rfl (fun ls hl => ?_)
    refine lv_iload hx hb d_L9_13 (lv_at hl 0 rfl) ?_
    refine lv_iconst (v := oI (-1)) hx hb d_L9_15 (by decide +kernel) ?_
    obtain ⟨ok102, h⟩ := ck_e h
    refine lv_icmp_ne (tgt := 21) hx hb d_L9_16 (by decide) (fun c9 => ?_) (fun c9 => ?_)
    · have h := ite_f (fun q => c9 ((oI_eq (a := r101) (b := (-1 : Int)) ok102 (by decide)).mpr q)) h
      refine lv_aload_n hx hb d_L9_21 rfl (lv_at hl 2 rfl) ?_
      refine lv_iload_n hx hb d_L9_22 rfl (lv_at hl 1 rfl) ?_
      obtain ⟨⟨r103, M103⟩, g103, h⟩ := bd_e h
      refine kV (As := [.int (oI r100)]) (rest := []) (s_B_winner l z ad E M101 r100 r103 M103 hL g103) hx hb hml hown hts w_1437 w_1434 w_1435 w_1436 w_1 md_54b855 ⟨Nat.le_of_ble_eq_true rfl, Nat.le_of_ble_eq_true rfl⟩ hG hZ hP hD hS hA 1 (wv_o (ci := 11) (yi_1 hL) (yt_1 hL)) rfl rfl rfl hl.1 rfl (Nat.le_of_ble_eq_true rfl) d_L9_23 ⟨(show _ ≤ mc by omega), (show _ ≤ ms by omega)⟩ (fun _ H locs hP hD hS => ?_)
      have hP : va_P z.1 classes (wv z ad E M103) H := hP
      have hD : va_D A (wv z ad E M103) := hD
      refine W.eq (g2 := F0 m 26 ls [.int (oI r103)]) rfl ?_
      refine lv_istore (lv' := [(5, .int (oI r103)), (4, .int (oI r101)), (3, .int (oI r100)), (0, .ref (ad 1)), (1, .ref (ad p1)), (2, .ref (ad p2))]) hx hb d_L9_26 hl (by decide) rfl (fun ls hl => ?_)
      obtain ⟨p104, ep104, h⟩ := nb_e h
      obtain ⟨E104, eE104, h⟩ := nb_e h
      obtain ⟨M104, eM104, h⟩ := nb_e h
      refine m_newO (ci := 14) (C := "java/lang/StringBuilder") (T := TX14) (n := 4) hx hb hts iX14 tyX14_ok hown w_802 w_803 w_19 rfl (fun _ => fsX14) hG hP hD hS hA (show _ ≤ mc by omega) (show _ ≤ ms by omega) d_L9_28 (fun ad104 H hag104 hP hD hS => ?_)
      have hP : va_P z.1 classes (wv z ad104 E104 M104) H := by rw [eE104, eM104]; exact hP
      have hD : va_D A (wv z ad104 E104 M104) := by rw [eE104, eM104]; exact hD
      refine W.eq (g2 := F0 m 31 ls (.ref (ad104 p104) :: [])) (by rw [ep104] <;> rfl) ?_
      have hl : lv_has ls 11 [(5, .int (oI r103)), (4, .int (oI r101)), (3, .int (oI r100)), (0, .ref (ad104 1)), (1, .ref (ad104 p1)), (2, .ref (ad104 p2))] := by rw [hag104 1 (yi_1 hL), hag104 p1 h_p1.1, hag104 p2 h_p2.1]; exact hl
      have hgw104 : Gw E E104 := by rw [eE104]; exact gw_new _ _
      have hL104 : Lay E104 := by rw [eE104]; exact lay_new hL
      have hag0 : ∀ i, i < nE E0 → ad104 i = ad0 i := fun i hi => (hag104 i (Nat.lt_of_lt_of_le hi hE0)).trans (hag0 i hi)
      have hE0 : nE E0 ≤ nE E104 := Nat.le_trans hE0 hgw104.1
      have hL : Lay E104 := hL104
      have h_p1 : isO 12 E104 p1 := isO_up hgw104 h_p1
      have h_p2 : isIA E104 p2 := isA_up hgw104 h_p2
      have h_p104 : isO 14 E104 p104 := by rw [ep104, eE104]; exact ⟨new_i _ _, new_T _ _⟩
      refine lv_dup hx hb d_L9_31 rfl ?_
      obtain ⟨⟨E105, M105⟩, g105, h⟩ := bd_e h
      obtain ⟨hgw105, h⟩ := ck_e h
      refine kI (As := []) (rest := [.ref (ad104 p104)]) (s_Sb_init l z ad104 E104 M104 p104 E105 M105 g105) hx hb hml hown hts w_806 w_804 w_805 rfl w_19 md_9cd983 ⟨Nat.le_of_ble_eq_true rfl, Nat.le_of_ble_eq_true rfl⟩ hG hZ hP hD hS hA rfl hl.1 rfl (Nat.le_of_ble_eq_true rfl) d_L9_32 ⟨(show _ ≤ mc by omega), (show _ ≤ ms by omega)⟩ (fun u105 H locs hP hD hS => ?_)
      obtain ⟨ad105, had105⟩ : ∃ q, q = adj E104 ad104 u105 := ⟨_, rfl⟩
      have hP : va_P z.1 classes (wv z ad105 E105 M105) H := by rw [had105]; exact hP
      have hD : va_D A (wv z ad105 E105 M105) := by rw [had105]; exact hD
      have hag105 : ∀ i, i < nE E104 → ad105 i = ad104 i := fun i hi => by rw [had105]; exact adj_lt hi
      have hl : lv_has ls 11 [(5, .int (oI r103)), (4, .int (oI r101)), (3, .int (oI r100)), (0, .ref (ad105 1)), (1, .ref (ad105 p1)), (2, .ref (ad105 p2))] := by rw [hag105 1 (yi_1 hL), hag105 p1 h_p1.1, hag105 p2 h_p2.1]; exact hl
      refine W.eq (g2 := F0 m 35 ls [.ref (ad105 p104)]) (by rw [hag105 p104 h_p104.1] <;> rfl) ?_
      have hag0 : ∀ i, i < nE E0 → ad105 i = ad0 i := fun i hi => (hag105 i (Nat.lt_of_lt_of_le hi hE0)).trans (hag0 i hi)
      have hE0 : nE E0 ≤ nE E105 := Nat.le_trans hE0 hgw105.1
      obtain ⟨hL, h⟩ := ck_e h
      have h_p1 : isO 12 E105 p1 := isO_up hgw105 h_p1
      have h_p2 : isIA E105 p2 := isA_up hgw105 h_p2
      have h_p104 : isO 14 E105 p104 := isO_up hgw105 h_p104
      refine lv_astore (lv' := [(6, .ref (ad105 p104)), (5, .int (oI r103)), (4, .int (oI r101)), (3, .int (oI r100)), (0, .ref (ad105 1)), (1, .ref (ad105 p1)), (2, .ref (ad105 p2))]) hx hb d_L9_35 hl (by decide) rfl (fun ls hl => ?_)
      refine lv_iconst (v := oI 0) hx hb d_L9_37 (by decide +kernel) ?_
      refine lv_istore (lv' := [(7, .int (oI 0)), (6, .ref (ad105 p104)), (5, .int (oI r103)), (4, .int (oI r101)), (3, .int (oI r100)), (0, .ref (ad105 1)), (1, .ref (ad105 p1)), (2, .ref (ad105 p2))]) hx hb d_L9_38 hl (by decide) rfl (fun ls hl => ?_)
      obtain ⟨⟨t116, v116_7, E116, M116⟩, g116, h⟩ := bd_e h
      obtain ⟨hgw116, h⟩ := ck_e h
      obtain ⟨hL116, h⟩ := ck_e h
      obtain ⟨ok116, h⟩ := ck_e h
      refine s_La_gains_40 l z E105 ad105 p1 r100 r101 r103 p104 hx hb hml hts hown hlocks hA hG hZ mc ms (c0 + 2) (s0 + 68) (by omega) (by omega) 5000 _ _ ad105 E105 M105 0 t116 v116_7 E116 M116 (by omega) (by omega) (fun _ _ => rfl) (Nat.le_refl _) g116 (fun ad116 hag116 hEE116 e116 H locs ls hP hD hS hl => ?_) H locs ls hP hD hS (lv_sub hl [5, 6, 4, 3, 2, 1, 0] rfl)
      have hag0 : ∀ i, i < nE E0 → ad116 i = ad0 i := fun i hi => (hag116 i (Nat.lt_of_lt_of_le hi hE0)).trans (hag0 i hi)
      have hE0 : nE E0 ≤ nE E116 := Nat.le_trans hE0 hgw116.1
      have hL : Lay E116 := hL116
      have h_p104 : isO 14 E116 p104 := isO_up hgw116 h_p104
      refine lv_aload_n hx hb d_L9_88 rfl (lv_at hl 0 rfl) ?_
      refine lv_iload hx hb d_L9_89 (lv_at hl 2 rfl) ?_
      refine lv_iconst (v := oI 1) hx hb d_L9_91 (by decide +kernel) ?_
      obtain ⟨⟨r117, M117⟩, g117, h⟩ := bd_e h
      refine kV (As := [.int (oI r101), .int (oI 1)]) (rest := []) (s_B_takeBack l z ad116 E116 M116 r101 1 r117 M117 hL g117) hx hb hml hown hts w_1487 w_1484 w_1485 w_1486 w_1 md_d05815 ⟨Nat.le_of_ble_eq_true rfl, Nat.le_of_ble_eq_true rfl⟩ hG hZ hP hD hS hA 1 (wv_o (ci := 11) (yi_1 hL) (yt_1 hL)) rfl rfl rfl hl.1 rfl (Nat.le_of_ble_eq_true rfl) d_L9_92 ⟨(show _ ≤ mc by omega), (show _ ≤ ms by omega)⟩ (fun _ H locs hP hD hS => ?_)
      have hP : va_P z.1 classes (wv z ad116 E116 M117) H := hP
      have hD : va_D A (wv z ad116 E116 M117) := hD
      refine W.eq (g2 := F0 m 95 ls [.int (oI r117)]) rfl ?_
      refine lv_istore (lv' := [(7, .int (oI r117)), (0, .ref (ad116 1)), (3, .int (oI r100)), (4, .int (oI r101)), (5, .int (oI r103)), (6, .ref (ad116 p104))]) hx hb d_L9_95 hl (by decide) rfl (fun ls hl => ?_)
      refine lv_aload_n hx hb d_L9_97 rfl (lv_at hl 1 rfl) ?_
      refine lv_aload hx hb d_L9_98 (lv_at hl 5 rfl) ?_
      obtain ⟨⟨r118, E118, M118⟩, g118, h⟩ := bd_e h
      obtain ⟨hgw118, h⟩ := ck_e h
      refine kV (As := []) (rest := [.ref (ad116 1)]) (s_Sb_toString l z ad116 E116 M117 p104 r118 E118 M118 g118) hx hb hml hown hts w_925 w_922 w_923 w_924 w_19 md_a8ce1c ⟨Nat.le_of_ble_eq_true rfl, Nat.le_of_ble_eq_true rfl⟩ hG hZ hP hD hS hA p104 (wv_o (ci := 14) h_p104.1 h_p104.2) rfl rfl rfl hl.1 rfl (Nat.le_of_ble_eq_true rfl) d_L9_100 ⟨(show _ ≤ mc by omega), (show _ ≤ ms by omega)⟩ (fun u118 H locs hP hD hS => ?_)
      obtain ⟨ad118, had118⟩ : ∃ q, q = adj E116 ad116 u118 := ⟨_, rfl⟩
      have hP : va_P z.1 classes (wv z ad118 E118 M118) H := by rw [had118]; exact hP
      have hD : va_D A (wv z ad118 E118 M118) := by rw [had118]; exact hD
      have hag118 : ∀ i, i < nE E116 → ad118 i = ad116 i := fun i hi => by rw [had118]; exact adj_lt hi
      have hl : lv_has ls 11 [(7, .int (oI r117)), (0, .ref (ad118 1)), (3, .int (oI r100)), (4, .int (oI r101)), (5, .int (oI r103)), (6, .ref (ad118 p104))] := by rw [hag118 1 (yi_1 hL), hag118 p104 h_p104.1]; exact hl
      refine W.eq (g2 := F0 m 103 ls (.ref (ad118 r118) :: [.ref (ad118 1)])) (by rw [hag118 1 (yi_1 hL), had118] <;> rfl) ?_
      have hag0 : ∀ i, i < nE E0 → ad118 i = ad0 i := fun i hi => (hag118 i (Nat.lt_of_lt_of_le hi hE0)).trans (hag0 i hi)
      have hE0 : nE E0 ≤ nE E118 := Nat.le_trans hE0 hgw118.1
      obtain ⟨hL, h⟩ := ck_e h
      have h_p104 : isO 14 E118 p104 := isO_up hgw118 h_p104
      obtain ⟨h_r118, h⟩ := ck_e h
      obtain ⟨M119, g119, h⟩ := bd_e h
      refine kS (As := [.ref (ad118 1), .ref (ad118 r118)]) (rest := []) (s_La_type l z ad118 E118 M118 r118 M119 hL g119) hx hb hml hown hts w_985 w_983 w_984 w_0 md_7e8d41 ⟨Nat.le_of_ble_eq_true rfl, Nat.le_of_ble_eq_true rfl⟩ hG hZ hP hD hS hA rfl hl.1 rfl (Nat.le_of_ble_eq_true rfl) d_L9_103 ⟨(show _ ≤ mc by omega), (show _ ≤ ms by omega)⟩ (fun _ H locs hP hD hS => ?_)
      have hP : va_P z.1 classes (wv z ad118 E118 M119) H := hP
      have hD : va_D A (wv z ad118 E118 M119) := hD
      refine W.eq (g2 := F0 m 106 ls []) rfl ?_
      refine lv_aload_n hx hb d_L9_106 rfl (lv_at hl 1 rfl) ?_
      refine lv_iconst (v := oI 1) hx hb d_L9_107 (by decide +kernel) ?_
      obtain ⟨⟨r120, M120⟩, g120, h⟩ := bd_e h
      refine kV (As := [.int (oI 1)]) (rest := []) (s_B_ballots l z ad118 E118 M119 1 r120 M120 hL g120) hx hb hml hown hts w_1021 w_1018 w_1019 w_1020 w_1 md_7edbe8 ⟨Nat.le_of_ble_eq_true rfl, Nat.le_of_ble_eq_true rfl⟩ hG hZ hP hD hS hA 1 (wv_o (ci := 11) (yi_1 hL) (yt_1 hL)) rfl rfl rfl hl.1 rfl (Nat.le_of_ble_eq_true rfl) d_L9_108 ⟨(show _ ≤ mc by omega), (show _ ≤ ms by omega)⟩ (fun _ H locs hP hD hS => ?_)
      have hP : va_P z.1 classes (wv z ad118 E118 M120) H := hP
      have hD : va_D A (wv z ad118 E118 M120) := hD
      refine W.eq (g2 := F0 m 111 ls [.int (oI r120)]) rfl ?_
      refine lv_istore (lv' := [(8, .int (oI r120)), (7, .int (oI r117)), (0, .ref (ad118 1)), (3, .int (oI r100)), (4, .int (oI r101)), (5, .int (oI r103)), (6, .ref (ad118 p104))]) hx hb d_L9_111 hl (by decide) rfl (fun ls hl => ?_)
      refine lv_aload_n hx hb d_L9_113 rfl (lv_at hl 2 rfl) ?_
      refine lv_iload_n hx hb d_L9_114 rfl (lv_at hl 3 rfl) ?_
      obtain ⟨⟨r121, M121⟩, g121, h⟩ := bd_e h
      refine kV (As := [.int (oI r100)]) (rest := []) (s_B_winner l z ad118 E118 M120 r100 r121 M121 hL g121) hx hb hml hown hts w_1437 w_1434 w_1435 w_1436 w_1 md_54b855 ⟨Nat.le_of_ble_eq_true rfl, Nat.le_of_ble_eq_true rfl⟩ hG hZ hP hD hS hA 1 (wv_o (ci := 11) (yi_1 hL) (yt_1 hL)) rfl rfl rfl hl.1 rfl (Nat.le_of_ble_eq_true rfl) d_L9_115 ⟨(show _ ≤ mc by omega), (show _ ≤ ms by omega)⟩ (fun _ H locs hP hD hS => ?_)
      have hP : va_P z.1 classes (wv z ad118 E118 M121) H := hP
      have hD : va_D A (wv z ad118 E118 M121) := hD
      refine W.eq (g2 := F0 m 118 ls [.int (oI r121)]) rfl ?_
      refine lv_istore (lv' := [(9, .int (oI r121)), (8, .int (oI r120)), (7, .int (oI r117)), (0, .ref (ad118 1)), (3, .int (oI r100)), (4, .int (oI r101)), (5, .int (oI r103)), (6, .ref (ad118 p104))]) hx hb d_L9_118 hl (by decide) rfl (fun ls hl => ?_)
      refine lv_aload_n hx hb d_L9_120 rfl (lv_at hl 3 rfl) ?_
      obtain ⟨⟨r122, M122⟩, g122, h⟩ := bd_e h
      refine kV (As := []) (rest := []) (s_B_undo l z ad118 E118 M121 r122 M122 hL g122) hx hb hml hown hts w_1491 w_1488 w_1489 w_1490 w_1 md_dc8747 ⟨Nat.le_of_ble_eq_true rfl, Nat.le_of_ble_eq_true rfl⟩ hG hZ hP hD hS hA 1 (wv_o (ci := 11) (yi_1 hL) (yt_1 hL)) rfl rfl rfl hl.1 rfl (Nat.le_of_ble_eq_true rfl) d_L9_121 ⟨(show _ ≤ mc by omega), (show _ ≤ ms by omega)⟩ (fun _ H locs hP hD hS => ?_)
      have hP : va_P z.1 classes (wv z ad118 E118 M122) H := hP
      have hD : va_D A (wv z ad118 E118 M122) := hD
      refine W.eq (g2 := F0 m 124 ls [.int (oI r122)]) rfl ?_
      refine lv_aload_n hx hb d_L9_124 rfl (lv_at hl 3 rfl) ?_
      obtain ⟨⟨r123, M123⟩, g123, h⟩ := bd_e h
      refine kV (As := []) (rest := [.int (oI r122)]) (s_B_undo l z ad118 E118 M122 r123 M123 hL g123) hx hb hml hown hts w_1491 w_1488 w_1489 w_1490 w_1 md_dc8747 ⟨Nat.le_of_ble_eq_true rfl, Nat.le_of_ble_eq_true rfl⟩ hG hZ hP hD hS hA 1 (wv_o (ci := 11) (yi_1 hL) (yt_1 hL)) rfl rfl rfl hl.1 rfl (Nat.le_of_ble_eq_true rfl) d_L9_125 ⟨(show _ ≤ mc by omega), (show _ ≤ ms by omega)⟩ (fun _ H locs hP hD hS => ?_)
      have hP : va_P z.1 classes (wv z ad118 E118 M123) H := hP
      have hD : va_D A (wv z ad118 E118 M123) := hD
      refine W.eq (g2 := F0 m 128 ls [.int (oI r123), .int (oI r122)]) rfl ?_
      refine lv_iadd hx hb d_L9_128 ?_
      refine nrm (oI_add _ _) ?_
      refine lv_istore (lv' := [(10, .int (oI (r122 + r123))), (9, .int (oI r121)), (8, .int (oI r120)), (7, .int (oI r117)), (0, .ref (ad118 1)), (3, .int (oI r100)), (4, .int (oI r101)), (5, .int (oI r103)), (6, .ref (ad118 p104))]) hx hb d_L9_129 hl (by decide) rfl (fun ls hl => ?_)
      refine lv_iload hx hb d_L9_131 (lv_at hl 2 rfl) ?_
      obtain ⟨ok124, h⟩ := ck_e h
      refine lv_if_lt (tgt := 171) hx hb d_L9_133 (by decide) (fun c9 => ?_) (fun c9 => ?_)
      · have h := ite_t ((oI_lt0 ok124).mp c9) h
        refine lv_iconst (v := oI 0) hx hb d_L9_171 (by decide +kernel) ?_
        refine W.wide (k := c1) (n := s1) (by omega) (by omega) ?_
        obtain ⟨rfl, rfl, rfl⟩ := in3 h
        exact W.zret hx hb hr rfl (fun t ht hW => qkA hP hD hS ad118 (congrArg (fun q => wv z q E118 M123) (adj_self hag0).symm) rfl ht) hS.2.2 d_L9_172
      · have h := ite_f (fun q => c9 ((oI_lt0 ok124).mpr q)) h
        refine lv_aload_n hx hb d_L9_136 rfl (lv_at hl 4 rfl) ?_
        refine lv_iload hx hb d_L9_137 (lv_at hl 6 rfl) ?_
        refine lv_iload hx hb d_L9_139 (lv_at hl 1 rfl) ?_
        refine lv_iconst (v := oI 1) hx hb d_L9_141 (by decide +kernel) ?_
        obtain ⟨r125, g125, h⟩ := bd_e h
        refine kV (As := [.int (oI r101), .int (oI r121), .int (oI 1)]) (rest := []) (s_B_kindAt l z ad118 E118 M123 r101 r121 1 r125 hL g125) hx hb hml hown hts w_1058 w_1055 w_1056 w_1057 w_1 md_b67c3a ⟨Nat.le_of_ble_eq_true rfl, Nat.le_of_ble_eq_true rfl⟩ hG hZ hP hD hS hA 1 (wv_o (ci := 11) (yi_1 hL) (yt_1 hL)) rfl rfl rfl hl.1 rfl (Nat.le_of_ble_eq_true rfl) d_L9_142 ⟨(show _ ≤ mc by omega), (show _ ≤ ms by omega)⟩ (fun _ H locs hP hD hS => ?_)
        have hP : va_P z.1 classes (wv z ad118 E118 M123) H := hP
        have hD : va_D A (wv z ad118 E118 M123) := hD
        refine W.eq (g2 := F0 m 145 ls [.int (oI r125)]) rfl ?_
        refine lv_aload_n hx hb d_L9_145 rfl (lv_at hl 4 rfl) ?_
        refine lv_iload hx hb d_L9_146 (lv_at hl 6 rfl) ?_
        refine lv_iload hx hb d_L9_148 (lv_at hl 7 rfl) ?_
        refine lv_iconst (v := oI 1) hx hb d_L9_150 (by decide +kernel) ?_
        obtain ⟨r126, g126, h⟩ := bd_e h
        refine kV (As := [.int (oI r101), .int (oI r103), .int (oI 1)]) (rest := [.int (oI r125)]) (s_B_kindAt l z ad118 E118 M123 r101 r103 1 r126 hL g126) hx hb hml hown hts w_1058 w_1055 w_1056 w_1057 w_1 md_b67c3a ⟨Nat.le_of_ble_eq_true rfl, Nat.le_of_ble_eq_true rfl⟩ hG hZ hP hD hS hA 1 (wv_o (ci := 11) (yi_1 hL) (yt_1 hL)) rfl rfl rfl hl.1 rfl (Nat.le_of_ble_eq_true rfl) d_L9_151 ⟨(show _ ≤ mc by omega), (show _ ≤ ms by omega)⟩ (fun _ H locs hP hD hS => ?_)
        have hP : va_P z.1 classes (wv z ad118 E118 M123) H := hP
        have hD : va_D A (wv z ad118 E118 M123) := hD
        refine W.eq (g2 := F0 m 154 ls [.int (oI r126), .int (oI r125)]) rfl ?_
        obtain ⟨ok127, h⟩ := ck_e h
        obtain ⟨ok128, h⟩ := ck_e h
        refine lv_icmp_ge (tgt := 171) hx hb d_L9_154 (by decide) (fun c9 => ?_) (fun c9 => ?_)
        · have h := ite_t ((oI_le (a := r126) (b := r125) ok128 ok127).mp c9) h
          refine lv_iconst (v := oI 0) hx hb d_L9_171 (by decide +kernel) ?_
          refine W.wide (k := c1) (n := s1) (by omega) (by omega) ?_
          obtain ⟨rfl, rfl, rfl⟩ := in3 h
          exact W.zret hx hb hr rfl (fun t ht hW => qkA hP hD hS ad118 (congrArg (fun q => wv z q E118 M123) (adj_self hag0).symm) rfl ht) hS.2.2 d_L9_172
        · have h := ite_f (fun q => c9 ((oI_le (a := r126) (b := r125) ok128 ok127).mpr q)) h
          refine lv_aload_n hx hb d_L9_157 rfl (lv_at hl 4 rfl) ?_
          refine lv_iload_n hx hb d_L9_158 rfl (lv_at hl 5 rfl) ?_
          obtain ⟨⟨r129, M129⟩, g129, h⟩ := bd_e h
          refine kV (As := [.int (oI r100)]) (rest := []) (s_B_winner l z ad118 E118 M123 r100 r129 M129 hL g129) hx hb hml hown hts w_1437 w_1434 w_1435 w_1436 w_1 md_54b855 ⟨Nat.le_of_ble_eq_true rfl, Nat.le_of_ble_eq_true rfl⟩ hG hZ hP hD hS hA 1 (wv_o (ci := 11) (yi_1 hL) (yt_1 hL)) rfl rfl rfl hl.1 rfl (Nat.le_of_ble_eq_true rfl) d_L9_159 ⟨(show _ ≤ mc by omega), (show _ ≤ ms by omega)⟩ (fun _ H locs hP hD hS => ?_)
          have hP : va_P z.1 classes (wv z ad118 E118 M129) H := hP
          have hD : va_D A (wv z ad118 E118 M129) := hD
          refine W.eq (g2 := F0 m 162 ls [.int (oI r129)]) rfl ?_
          refine lv_iload hx hb d_L9_162 (lv_at hl 7 rfl) ?_
          obtain ⟨ok130, h⟩ := ck_e h
          obtain ⟨ok131, h⟩ := ck_e h
          refine lv_icmp_ne (tgt := 171) hx hb d_L9_164 (by decide) (fun c9 => ?_) (fun c9 => ?_)
          · have h := ite_f (fun q => c9 ((oI_eq (a := r129) (b := r103) ok130 ok131).mpr q)) h
            refine lv_iconst (v := oI 0) hx hb d_L9_171 (by decide +kernel) ?_
            refine W.wide (k := c1) (n := s1) (by omega) (by omega) ?_
            obtain ⟨rfl, rfl, rfl⟩ := in3 h
            exact W.zret hx hb hr rfl (fun t ht hW => qkA hP hD hS ad118 (congrArg (fun q => wv z q E118 M129) (adj_self hag0).symm) rfl ht) hS.2.2 d_L9_172
          · have h := ite_t ((oI_eq (a := r129) (b := r103) ok130 ok131).mp c9) h
            refine lv_iconst (v := oI 1) hx hb d_L9_167 (by decide +kernel) ?_
            refine lv_goto (tgt := 172) hx hb d_L9_168 (by decide) ?_
            refine W.wide (k := c1) (n := s1) (by omega) (by omega) ?_
            obtain ⟨rfl, rfl, rfl⟩ := in3 h
            exact W.zret hx hb hr rfl (fun t ht hW => qkA hP hD hS ad118 (congrArg (fun q => wv z q E118 M129) (adj_self hag0).symm) rfl ht) hS.2.2 d_L9_172
    · have h := ite_t ((oI_eq (a := r101) (b := (-1 : Int)) ok102 (by decide)).mp c9) h
      refine lv_iconst (v := oI 1) hx hb d_L9_19 (by decide +kernel) ?_
      refine W.wide (k := c1) (n := s1) (by omega) (by omega) ?_
      obtain ⟨rfl, rfl, rfl⟩ := in3 h
      exact W.zret hx hb hr rfl (fun t ht hW => qkA hP hD hS ad (congrArg (fun q => wv z q E M101) (adj_self hag0).symm) rfl ht) hS.2.2 d_L9_20
  exact key E ad 4 136 0 0 4 136 _ _ _ (by decide) (by decide) (by decide) (by decide) (fun _ _ => rfl) (Nat.le_refl _) hts hP hS
set_option maxRecDepth 100000 in
set_option maxHeartbeats 4000000 in
theorem s_Li_latest (l : Launch) (z : Zz) (ad : Nat → Nat) (E : Ev) (M : Mm) (r : Nat)  (hL : Lay E) (h : f_Li_latest E M = some r) : CT l z ⟨"Ballothall$Lists", "latest", "()LBallothall$KeptSeats;"⟩ prog_9_method_3_code 1 (some (.object "Ballothall$KeptSeats")) [.ref (ad 53)] (wv z ad E M) 0 20 0 0 (fun _ => some (.ref (ad r))) (fun _ => (wv z ad E M)) := by
  refine CT.of (own := "Ballothall$Lists") (by decide +kernel) (Nat.le_of_ble_eq_true rfl) rfl (fun p e s m below meth c A ls hx hb hml hr hts hown hlocks hin hA hG hZ hP hD hS hl => ?_)
  have hl : lv_has ls 1 [(0, .ref (ad 53))] := hl
  have key : ∀ (H : Heap) (locs : List Loc) (args : Array Value), (∀ w ∈ WG, w.before args s = true) → va_P z.1 classes (wv z ad E M) H → va_S A s.heap H locs → W p l e (rmK 0 20 0 0) s m args below meth c H locs 0 0 (MQ below (QK z A (fun _ => some (.ref (ad r))) (fun _ => (wv z ad E M))) args s 0 0 A) (F0 m 0 ls []) := by
    intro H locs args hts hP hS
    unfold f_Li_latest at h
    refine lv_aload_n hx hb d_9_3_0 rfl (lv_at hl 0 rfl) ?_
    refine m_gr (j := 73) (C := "Ballothall$Lists") (T := TX7) (N := 11) (ci := 7) (k := 9) hx hb hts iX7 hown hG hP (yi_53 hL) (yt_53 hL) rfl (by decide) w_254 (fun _ h9 => h9) rfl rfl (yr_53_9 hL) d_9_3_1 ?_
    refine lv_aload_n hx hb d_9_3_4 rfl (lv_at hl 0 rfl) ?_
    refine m_gi (C := "Ballothall$Lists") (T := TX7) (N := 11) (ci := 7) (k := 10) hx hb hts iX7 hown hG hP (yi_53 hL) (yt_53 hL) rfl (by decide) w_255 (fun _ h9 => h9) rfl rfl d_9_3_5 ?_
    obtain ⟨ok100, h⟩ := ck_e h
    refine m_aa (k := (74 + 5 * (M 53 10).toNat)) (t := 3) (C := "Ballothall$KeptSeats") hx hb hG hP (yi_73 hL) (yt_73 hL) rfl rfl ok100 (ya_73 hL (inb_lt ok100)) d_9_3_8 ?_
    obtain rfl := in1 h
    exact W.aret hx hb hr (Or.inl ⟨_, rfl⟩) (Or.inr ⟨_, rfl⟩) (fun t ht hW => qkA hP hD hS (fun k => k) rfl rfl ht) hS.2.2 d_9_3_9
  exact key _ _ _ hts hP hS
