set_option maxRecDepth 100000 in
set_option maxHeartbeats 4000000 in
theorem b_Po_open_44b (l : Launch) (z : Zz) (ad : Nat → Nat) (E : Ev) (M : Mm) (x2 : Int) (t : Nat) (w2 : Int) (N : Mm) {Q : State → Prop} {p : Program} {e : Env} {s : State} {m : MethodId} {below : List Frame} {meth : Method} {c : Code} {A : Nat → Prop} {args : Array Value} (hx : p.tables.exec = Jvm.exec) (hb : c.code = prog_11_method_2_code) (hml : c.maxLocals = 3) (hts : ∀ w ∈ WG, w.before args s = true) (hown : s.vm.findClass "Ballothall$Poll" = some m.cls) (hlocks : meth.locks = false) (hA : ∀ q, s.heap.size ≤ q → A q) (hG : KG z s) (hZ : FZ z A s) (hL : Lay E) (h : Po_open_44b E M x2 = some (t, w2, N)) (k0 : t = 0 → ∀ (H : Heap) (locs : List Loc) (ls : Array Slot), va_P z.1 classes (wv z ad E N) H → va_D A (wv z ad E N) → va_S A s.heap H locs → lv_has ls 3 [(0, .ref (ad 41)), (2, .int (oI w2))] → W p l e (rmK 3 93 0 0) s m args below meth c H locs 0 0 Q (F0 m 44 ls [])) (k1 : t = 1 → ∀ (H : Heap) (locs : List Loc) (ls : Array Slot), va_P z.1 classes (wv z ad E N) H → va_D A (wv z ad E N) → va_S A s.heap H locs → lv_has ls 3 [] → W p l e (rmK 3 93 0 0) s m args below meth c H locs 0 0 Q (F0 m 75 ls [])) : ∀ (H : Heap) (locs : List Loc) (ls : Array Slot), va_P z.1 classes (wv z ad E M) H → va_D A (wv z ad E M) → va_S A s.heap H locs → lv_has ls 3 [(0, .ref (ad 41)), (2, .int (oI x2))] → W p l e (rmK 3 93 0 0) s m args below meth c H locs 0 0 Q (F0 m 44 ls []) := by
  intro H locs ls hP hD hS hl
  unfold Po_open_44b at h
  refine lv_iload_n hx hb d_11_2_44 rfl (lv_at hl 1 rfl) ?_
  refine lv_aload_n hx hb d_11_2_45 rfl (lv_at hl 0 rfl) ?_
  refine m_gr (j := 2) (C := "Ballothall$Poll") (T := TX9) (N := 12) (ci := 9) (k := 0) hx hb hts iX9 hown hG hP (yi_41 hL) (yt_41 hL) rfl (by decide) w_107 (fun _ h9 => h9) rfl rfl (yr_41_0 hL) d_11_2_46 ?_
  refine m_giN (C := "Ballothall$BallotBox") (T := TX0) (N := 10) (ci := 0) (k := 3) hx hb hts iX0 hown hG hP (yi_2 hL) (yt_2 hL) rfl (by decide) n_57 rfl (fun _ h9 => h9) rfl rfl d_11_2_49 ?_
  obtain ⟨ok104, h⟩ := ck_e h
  obtain ⟨ok105, h⟩ := ck_e h
  refine lv_icmp_ge (tgt := 75) hx hb d_11_2_52 (by decide) (fun c9 => ?_) (fun c9 => ?_)
  · have h := ite_t ((oI_le (a := (M 2 3)) (b := x2) ok105 ok104).mp c9) h
    obtain ⟨rfl, rfl, rfl⟩ := in3 h
    exact k1 rfl H locs ls hP hD hS (lv_sub hl [] rfl)
  · have h := ite_f (fun q => c9 ((oI_le (a := (M 2 3)) (b := x2) ok105 ok104).mpr q)) h
    refine lv_aload_n hx hb d_11_2_55 rfl (lv_at hl 0 rfl) ?_
    refine lv_iload_n hx hb d_11_2_56 rfl (lv_at hl 1 rfl) ?_
    refine lv_aload_n hx hb d_11_2_57 rfl (lv_at hl 0 rfl) ?_
    refine m_gr (j := 2) (C := "Ballothall$Poll") (T := TX9) (N := 12) (ci := 9) (k := 0) hx hb hts iX9 hown hG hP (yi_41 hL) (yt_41 hL) rfl (by decide) w_107 (fun _ h9 => h9) rfl rfl (yr_41_0 hL) d_11_2_58 ?_
    refine m_grN (j := 5) (C := "Ballothall$BallotBox") (T := TX0) (N := 10) (ci := 0) (k := 5) hx hb hts iX0 hown hG hP (yi_2 hL) (yt_2 hL) rfl (by decide) n_65 rfl (fun _ h9 => h9) rfl rfl (yr_2_5 hL) d_11_2_61 ?_
    refine lv_iload_n hx hb d_11_2_64 rfl (lv_at hl 1 rfl) ?_
    obtain ⟨ok106, h⟩ := ck_e h
    refine m_ia hx hb hG hP (yi_5 hL) (yt_5 hL) ok106 d_11_2_65 ?_
    obtain ⟨M107, g107, h⟩ := bd_e h
    refine kV (As := [.int (oI x2), .int (oI (M 5 x2.toNat))]) (rest := []) (s_Po_change l z ad E M x2 (M 5 x2.toNat) M107 hL g107) hx hb hml hown hts w_677 w_674 w_676 w_s_d035ed w_3 md_d775df ⟨Nat.le_of_ble_eq_true rfl, Nat.le_of_ble_eq_true rfl⟩ hG hZ hP hD hS hA 41 (wv_o (ci := 9) (yi_41 hL) (yt_41 hL)) rfl rfl rfl hl.1 rfl (Nat.le_of_ble_eq_true rfl) d_11_2_66 ⟨Nat.le_of_ble_eq_true rfl, Nat.le_of_ble_eq_true rfl⟩ (fun _ H locs hP hD hS => ?_)
    have hP : va_P z.1 classes (wv z ad E M107) H := hP
    have hD : va_D A (wv z ad E M107) := hD
    refine W.eq (g2 := F0 m 69 ls []) rfl ?_
    refine lv_iinc (v := oI (x2 + 1)) (lv' := [(2, .int (oI (x2 + 1))), (0, .ref (ad 41))]) hx hb d_11_2_69 hl (k := 1) rfl (oI_add x2 1) (by decide) rfl (fun ls hl => ?_)
    refine lv_goto (tgt := 44) hx hb d_11_2_72 (by decide) ?_
    obtain ⟨rfl, rfl, rfl⟩ := in3 h
    exact k0 rfl H locs ls hP hD hS (lv_sub hl [1, 0] rfl)
set_option maxRecDepth 100000 in
set_option maxHeartbeats 4000000 in
theorem s_Po_open_44 (l : Launch) (z : Zz) (ad : Nat → Nat) (E : Ev) {Q : State → Prop} {p : Program} {e : Env} {s : State} {m : MethodId} {below : List Frame} {meth : Method} {c : Code} {A : Nat → Prop} {args : Array Value} (hx : p.tables.exec = Jvm.exec) (hb : c.code = prog_11_method_2_code) (hml : c.maxLocals = 3) (hts : ∀ w ∈ WG, w.before args s = true) (hown : s.vm.findClass "Ballothall$Poll" = some m.cls) (hlocks : meth.locks = false) (hA : ∀ q, s.heap.size ≤ q → A q) (hG : KG z s) (hZ : FZ z A s) (hL : Lay E) : ∀ (fu : Nat) (M : Mm) (x2 : Int) (t : Nat) (w2 : Int) (N : Mm), l_Po_open_44 E fu M x2 = some (t, w2, N) → (t = 1 → ∀ (H : Heap) (locs : List Loc) (ls : Array Slot), va_P z.1 classes (wv z ad E N) H → va_D A (wv z ad E N) → va_S A s.heap H locs → lv_has ls 3 [] → W p l e (rmK 3 93 0 0) s m args below meth c H locs 0 0 Q (F0 m 75 ls [])) → ∀ (H : Heap) (locs : List Loc) (ls : Array Slot), va_P z.1 classes (wv z ad E M) H → va_D A (wv z ad E M) → va_S A s.heap H locs → lv_has ls 3 [(0, .ref (ad 41)), (2, .int (oI x2))] → W p l e (rmK 3 93 0 0) s m args below meth c H locs 0 0 Q (F0 m 44 ls []) := by
  intro fu
  induction fu with
  | zero =>
    intro M x2 t w2 N h
    have h : (none : Option (Nat × Int × Mm)) = some _ := h
    cases h
  | succ fu ih =>
    intro M x2 t w2 N h k1 H locs ls hP hD hS hl
    obtain ⟨⟨t0, w20, N9⟩, g0, h⟩ := bd_e h
    refine b_Po_open_44b l z ad E M x2 t0 w20 N9 hx hb hml hts hown hlocks hA hG hZ hL g0 (fun e0 => ?_) (fun e0 => ?_) H locs ls hP hD hS hl
    · subst e0
      have h := ite_t rfl h
      exact ih N9 w20 t w2 N h k1
    · subst e0
      have h := ite_f (by decide) h
      obtain ⟨rfl, rfl, rfl⟩ := in3 h
      exact k1 rfl
set_option maxRecDepth 100000 in
set_option maxHeartbeats 4000000 in
theorem s_Po_open (l : Launch) (z : Zz) (ad : Nat → Nat) (E : Ev) (M : Mm) (x1 : Int) (N : Mm) (hL : Lay E) (h : f_Po_open E M x1 = some N) : CT l z ⟨"Ballothall$Poll", "open", "(I)V"⟩ prog_11_method_2_code 3 none [.ref (ad 41), .int (oI x1)] (wv z ad E M) 3 93 0 0 (fun _ => none) (fun _ => (wv z ad E N)) := by
  refine CT.of (own := "Ballothall$Poll") (by decide +kernel) (Nat.le_of_ble_eq_true rfl) rfl (fun p e s m below meth c A ls hx hb hml hr hts hown hlocks hin hA hG hZ hP hD hS hl => ?_)
  have hl : lv_has ls 3 [(0, .ref (ad 41)), (1, .int (oI x1))] := hl
  have key : ∀ (H : Heap) (locs : List Loc) (args : Array Value), (∀ w ∈ WG, w.before args s = true) → va_P z.1 classes (wv z ad E M) H → va_S A s.heap H locs → W p l e (rmK 3 93 0 0) s m args below meth c H locs 0 0 (MQ below (QK z A (fun _ => none) (fun _ => (wv z ad E N))) args s 0 0 A) (F0 m 0 ls []) := by
    intro H locs args hts hP hS
    unfold f_Po_open at h
    refine lv_aload_n hx hb d_11_2_0 rfl (lv_at hl 0 rfl) ?_
    refine lv_iload_n hx hb d_11_2_1 rfl (lv_at hl 1 rfl) ?_
    refine m_pi (C := "Ballothall$Poll") (T := TX9) (N := 12) (ci := 9) (k := 1) (ty := .int) hx hb hts iX9 hown hG hP hD hS (yi_41 hL) (yt_41 hL) rfl (by decide) w_108 (fun _ h9 => h9) rfl rfl tyX9_ok nmX9 rfl (by decide +kernel) rfl rfl d_11_2_2 (fun H locs hP hD hS => ?_)
    have hP : va_P z.1 classes (wv z ad E (u2 M 41 1 x1)) H := hP
    have hD : va_D A (wv z ad E (u2 M 41 1 x1)) := hD
    refine lv_aload_n hx hb d_11_2_5 rfl (lv_at hl 0 rfl) ?_
    refine lv_iconst (v := oI 0) hx hb d_11_2_6 (by decide +kernel) ?_
    refine m_pi (C := "Ballothall$Poll") (T := TX9) (N := 12) (ci := 9) (k := 2) (ty := .int) hx hb hts iX9 hown hG hP hD hS (yi_41 hL) (yt_41 hL) rfl (by decide) w_109 (fun _ h9 => h9) rfl rfl tyX9_ok nmX9 rfl (by decide +kernel) rfl rfl d_11_2_7 (fun H locs hP hD hS => ?_)
    have hP : va_P z.1 classes (wv z ad E (u2 (u2 M 41 1 x1) 41 2 0)) H := hP
    have hD : va_D A (wv z ad E (u2 (u2 M 41 1 x1) 41 2 0)) := hD
    refine lv_aload_n hx hb d_11_2_10 rfl (lv_at hl 0 rfl) ?_
    refine m_gr (j := 42) (C := "Ballothall$Poll") (T := TX9) (N := 12) (ci := 9) (k := 3) hx hb hts iX9 hown hG hP (yi_41 hL) (yt_41 hL) rfl (by decide) w_110 (fun _ h9 => h9) rfl rfl (yr_41_3 hL) d_11_2_11 ?_
    refine lv_iconst (v := oI 0) hx hb d_11_2_14 (by decide +kernel) ?_
    obtain ⟨M100, g100, h⟩ := bd_e h
    refine kS (As := [.ref (ad 42), .int (oI 0)]) (rest := []) (s_Ar_fillI l z ad E (u2 (u2 M 41 1 x1) 41 2 0) 42 0 M100 hL g100) hx hb hml hown hts w_653 w_673 w_652 w_23 md_e8f65d ⟨Nat.le_of_ble_eq_true rfl, Nat.le_of_ble_eq_true rfl⟩ hG hZ hP hD hS hA rfl hl.1 rfl (Nat.le_of_ble_eq_true rfl) d_11_2_15 ⟨Nat.le_of_ble_eq_true rfl, Nat.le_of_ble_eq_true rfl⟩ (fun _ H locs hP hD hS => ?_)
    have hP : va_P z.1 classes (wv z ad E M100) H := hP
    have hD : va_D A (wv z ad E M100) := hD
    refine W.eq (g2 := F0 m 18 ls []) rfl ?_
    refine lv_aload_n hx hb d_11_2_18 rfl (lv_at hl 0 rfl) ?_
    refine m_gr (j := 43) (C := "Ballothall$Poll") (T := TX9) (N := 12) (ci := 9) (k := 4) hx hb hts iX9 hown hG hP (yi_41 hL) (yt_41 hL) rfl (by decide) w_111 (fun _ h9 => h9) rfl rfl (yr_41_4 hL) d_11_2_19 ?_
    refine lv_iconst (v := oI 0) hx hb d_11_2_22 (by decide +kernel) ?_
    obtain ⟨M101, g101, h⟩ := bd_e h
    refine kS (As := [.ref (ad 43), .int (oI 0)]) (rest := []) (s_Ar_fillI l z ad E M100 43 0 M101 hL g101) hx hb hml hown hts w_653 w_673 w_652 w_23 md_e8f65d ⟨Nat.le_of_ble_eq_true rfl, Nat.le_of_ble_eq_true rfl⟩ hG hZ hP hD hS hA rfl hl.1 rfl (Nat.le_of_ble_eq_true rfl) d_11_2_23 ⟨Nat.le_of_ble_eq_true rfl, Nat.le_of_ble_eq_true rfl⟩ (fun _ H locs hP hD hS => ?_)
    have hP : va_P z.1 classes (wv z ad E M101) H := hP
    have hD : va_D A (wv z ad E M101) := hD
    refine W.eq (g2 := F0 m 26 ls []) rfl ?_
    refine lv_aload_n hx hb d_11_2_26 rfl (lv_at hl 0 rfl) ?_
    refine m_gr (j := 44) (C := "Ballothall$Poll") (T := TX9) (N := 12) (ci := 9) (k := 5) hx hb hts iX9 hown hG hP (yi_41 hL) (yt_41 hL) rfl (by decide) w_112 (fun _ h9 => h9) rfl rfl (yr_41_5 hL) d_11_2_27 ?_
    refine lv_iconst (v := oI 0) hx hb d_11_2_30 (by decide +kernel) ?_
    obtain ⟨M102, g102, h⟩ := bd_e h
    refine kS (As := [.ref (ad 44), .int (oI 0)]) (rest := []) (s_Ar_fillI l z ad E M101 44 0 M102 hL g102) hx hb hml hown hts w_653 w_673 w_652 w_23 md_e8f65d ⟨Nat.le_of_ble_eq_true rfl, Nat.le_of_ble_eq_true rfl⟩ hG hZ hP hD hS hA rfl hl.1 rfl (Nat.le_of_ble_eq_true rfl) d_11_2_31 ⟨Nat.le_of_ble_eq_true rfl, Nat.le_of_ble_eq_true rfl⟩ (fun _ H locs hP hD hS => ?_)
    have hP : va_P z.1 classes (wv z ad E M102) H := hP
    have hD : va_D A (wv z ad E M102) := hD
    refine W.eq (g2 := F0 m 34 ls []) rfl ?_
    refine lv_aload_n hx hb d_11_2_34 rfl (lv_at hl 0 rfl) ?_
    refine m_gr (j := 45) (C := "Ballothall$Poll") (T := TX9) (N := 12) (ci := 9) (k := 6) hx hb hts iX9 hown hG hP (yi_41 hL) (yt_41 hL) rfl (by decide) w_113 (fun _ h9 => h9) rfl rfl (yr_41_6 hL) d_11_2_35 ?_
    refine lv_iconst (v := oI 0) hx hb d_11_2_38 (by decide +kernel) ?_
    obtain ⟨M103, g103, h⟩ := bd_e h
    refine kS (As := [.ref (ad 45), .int (oI 0)]) (rest := []) (s_Ar_fillI l z ad E M102 45 0 M103 hL g103) hx hb hml hown hts w_653 w_673 w_652 w_23 md_e8f65d ⟨Nat.le_of_ble_eq_true rfl, Nat.le_of_ble_eq_true rfl⟩ hG hZ hP hD hS hA rfl hl.1 rfl (Nat.le_of_ble_eq_true rfl) d_11_2_39 ⟨Nat.le_of_ble_eq_true rfl, Nat.le_of_ble_eq_true rfl⟩ (fun _ H locs hP hD hS => ?_)
    have hP : va_P z.1 classes (wv z ad E M103) H := hP
    have hD : va_D A (wv z ad E M103) := hD
    refine W.eq (g2 := F0 m 42 ls []) rfl ?_
    refine lv_iconst (v := oI 0) hx hb d_11_2_42 (by decide +kernel) ?_
    refine lv_istore_n (lv' := [(2, .int (oI 0)), (0, .ref (ad 41)), (1, .int (oI x1))]) hx hb d_11_2_43 rfl hl (by decide) rfl (fun ls hl => ?_)
    obtain ⟨⟨t108, v108_2, M108⟩, g108, h⟩ := bd_e h
    obtain ⟨ok108, h⟩ := ck_e h
    refine s_Po_open_44 l z ad E hx hb hml hts hown hlocks hA hG hZ hL FU M103 0 t108 v108_2 M108 g108 (fun e108 H locs ls hP hD hS hl => ?_) H locs ls hP hD hS (lv_sub hl [1, 0] rfl)
    obtain rfl := in1 h
    exact W.vret hx hb hr (fun t ht hW => qkA hP hD hS (fun k => k) rfl rfl ht) hS.2.2 d_11_2_75
  exact key _ _ _ hts hP hS
set_option maxRecDepth 100000 in
set_option maxHeartbeats 4000000 in
theorem s_Po_pair (l : Launch) (z : Zz) (ad : Nat → Nat) (E : Ev) (M : Mm) (x1 : Int) (x2 : Int) (r : Int)  (hL : Lay E) (h : f_Po_pair E M x1 x2 = some r) : CT l z ⟨"Ballothall$Poll", "pair", "(II)I"⟩ prog_11_method_5_code 3 (some .int) [.ref (ad 41), .int (oI x1), .int (oI x2)] (wv z ad E M) 0 20 0 0 (fun _ => some (.int (oI r))) (fun _ => (wv z ad E M)) := by
  refine CT.of (own := "Ballothall$Poll") (by decide +kernel) (Nat.le_of_ble_eq_true rfl) rfl (fun p e s m below meth c A ls hx hb hml hr hts hown hlocks hin hA hG hZ hP hD hS hl => ?_)
  have hl : lv_has ls 3 [(0, .ref (ad 41)), (1, .int (oI x1)), (2, .int (oI x2))] := hl
  have key : ∀ (H : Heap) (locs : List Loc) (args : Array Value), (∀ w ∈ WG, w.before args s = true) → va_P z.1 classes (wv z ad E M) H → va_S A s.heap H locs → W p l e (rmK 0 20 0 0) s m args below meth c H locs 0 0 (MQ below (QK z A (fun _ => some (.int (oI r))) (fun _ => (wv z ad E M))) args s 0 0 A) (F0 m 0 ls []) := by
    intro H locs args hts hP hS
    unfold f_Po_pair at h
    refine lv_aload_n hx hb d_11_5_0 rfl (lv_at hl 0 rfl) ?_
    refine m_gr (j := 45) (C := "Ballothall$Poll") (T := TX9) (N := 12) (ci := 9) (k := 6) hx hb hts iX9 hown hG hP (yi_41 hL) (yt_41 hL) rfl (by decide) w_113 (fun _ h9 => h9) rfl rfl (yr_41_6 hL) d_11_5_1 ?_
    refine lv_iload_n hx hb d_11_5_4 rfl (lv_at hl 1 rfl) ?_
    refine lv_bipush (v := oI 8) hx hb d_11_5_5 (by decide +kernel) ?_
    refine lv_imul hx hb d_11_5_7 ?_
    refine nrm (oI_mul _ _) ?_
    refine lv_iload_n hx hb d_11_5_8 rfl (lv_at hl 2 rfl) ?_
    refine lv_iadd hx hb d_11_5_9 ?_
    refine nrm (oI_add _ _) ?_
    obtain ⟨ok100, h⟩ := ck_e h
    refine m_ia hx hb hG hP (yi_45 hL) (yt_45 hL) ok100 d_11_5_10 ?_
    obtain rfl := in1 h
    exact W.iret hx hb hr (fun t ht hW => qkA hP hD hS (fun k => k) rfl rfl ht) hS.2.2 d_11_5_11
  exact key _ _ _ hts hP hS
set_option maxRecDepth 100000 in
set_option maxHeartbeats 4000000 in
theorem s_B_ahead (l : Launch) (z : Zz) (ad : Nat → Nat) (E : Ev) (M : Mm) (x1 : Int) (x2 : Int) (r : Int) (N : Mm) (hL : Lay E) (h : f_B_ahead E M x1 x2 = some (r, N)) : CT l z ⟨"Ballothall", "ahead", "(II)I"⟩ prog_1_method_25_code 3 (some .int) [.ref (ad 1), .int (oI x1), .int (oI x2)] (wv z ad E M) 4 115 0 0 (fun _ => some (.int (oI r))) (fun _ => (wv z ad E N)) := by
  refine CT.of (own := "Ballothall") (by decide +kernel) (Nat.le_of_ble_eq_true rfl) rfl (fun p e s m below meth c A ls hx hb hml hr hts hown hlocks hin hA hG hZ hP hD hS hl => ?_)
  have hl : lv_has ls 3 [(0, .ref (ad 1)), (1, .int (oI x1)), (2, .int (oI x2))] := hl
  have key : ∀ (H : Heap) (locs : List Loc) (args : Array Value), (∀ w ∈ WG, w.before args s = true) → va_P z.1 classes (wv z ad E M) H → va_S A s.heap H locs → W p l e (rmK 4 115 0 0) s m args below meth c H locs 0 0 (MQ below (QK z A (fun _ => some (.int (oI r))) (fun _ => (wv z ad E N))) args s 0 0 A) (F0 m 0 ls []) := by
    intro H locs args hts hP hS
    unfold f_B_ahead at h
    refine lv_iload_n hx hb d_1_25_0 rfl (lv_at hl 1 rfl) ?_
    refine lv_aload_n hx hb d_1_25_1 rfl (lv_at hl 0 rfl) ?_
    refine m_gr (j := 2) (C := "Ballothall") (T := TX11) (N := 14) (ci := 11) (k := 0) hx hb hts iX11 hown hG hP (yi_1 hL) (yt_1 hL) rfl (by decide) w_397 (fun _ h9 => h9) rfl rfl (yr_1_0 hL) d_1_25_2 ?_
    refine m_giN (C := "Ballothall$BallotBox") (T := TX0) (N := 10) (ci := 0) (k := 2) hx hb hts iX0 hown hG hP (yi_2 hL) (yt_2 hL) rfl (by decide) n_52 rfl (fun _ h9 => h9) rfl rfl d_1_25_5 ?_
    obtain ⟨_, g100, h⟩ := bd_e h
    refine kS (As := [.int (oI x1), .int (oI (M 2 2))]) (rest := []) (s_B_needIndex l z ad E M x1 (M 2 2) hL g100) hx hb hml hown hts w_529 w_527 w_528 w_1 md_6cb26b ⟨Nat.le_of_ble_eq_true rfl, Nat.le_of_ble_eq_true rfl⟩ hG hZ hP hD hS hA rfl hl.1 rfl (Nat.le_of_ble_eq_true rfl) d_1_25_8 ⟨Nat.le_of_ble_eq_true rfl, Nat.le_of_ble_eq_true rfl⟩ (fun _ H locs hP hD hS => ?_)
    have hP : va_P z.1 classes (wv z ad E M) H := hP
    have hD : va_D A (wv z ad E M) := hD
    refine W.eq (g2 := F0 m 11 ls []) rfl ?_
    refine lv_iload_n hx hb d_1_25_11 rfl (lv_at hl 2 rfl) ?_
    refine lv_aload_n hx hb d_1_25_12 rfl (lv_at hl 0 rfl) ?_
    refine m_gr (j := 2) (C := "Ballothall") (T := TX11) (N := 14) (ci := 11) (k := 0) hx hb hts iX11 hown hG hP (yi_1 hL) (yt_1 hL) rfl (by decide) w_397 (fun _ h9 => h9) rfl rfl (yr_1_0 hL) d_1_25_13 ?_
    refine m_giN (C := "Ballothall$BallotBox") (T := TX0) (N := 10) (ci := 0) (k := 2) hx hb hts iX0 hown hG hP (yi_2 hL) (yt_2 hL) rfl (by decide) n_52 rfl (fun _ h9 => h9) rfl rfl d_1_25_16 ?_
    obtain ⟨_, g101, h⟩ := bd_e h
    refine kS (As := [.int (oI x2), .int (oI (M 2 2))]) (rest := []) (s_B_needIndex l z ad E M x2 (M 2 2) hL g101) hx hb hml hown hts w_529 w_527 w_528 w_1 md_6cb26b ⟨Nat.le_of_ble_eq_true rfl, Nat.le_of_ble_eq_true rfl⟩ hG hZ hP hD hS hA rfl hl.1 rfl (Nat.le_of_ble_eq_true rfl) d_1_25_19 ⟨Nat.le_of_ble_eq_true rfl, Nat.le_of_ble_eq_true rfl⟩ (fun _ H locs hP hD hS => ?_)
    have hP : va_P z.1 classes (wv z ad E M) H := hP
    have hD : va_D A (wv z ad E M) := hD
    refine W.eq (g2 := F0 m 22 ls []) rfl ?_
    refine lv_aload_n hx hb d_1_25_22 rfl (lv_at hl 0 rfl) ?_
    refine m_gr (j := 41) (C := "Ballothall") (T := TX11) (N := 14) (ci := 11) (k := 1) hx hb hts iX11 hown hG hP (yi_1 hL) (yt_1 hL) rfl (by decide) w_398 (fun _ h9 => h9) rfl rfl (yr_1_1 hL) d_1_25_23 ?_
    refine lv_aload_n hx hb d_1_25_26 rfl (lv_at hl 0 rfl) ?_
    refine m_gr (j := 2) (C := "Ballothall") (T := TX11) (N := 14) (ci := 11) (k := 0) hx hb hts iX11 hown hG hP (yi_1 hL) (yt_1 hL) rfl (by decide) w_397 (fun _ h9 => h9) rfl rfl (yr_1_0 hL) d_1_25_27 ?_
    obtain ⟨r102, g102, h⟩ := bd_e h
    refine kVN (As := []) (rest := [.ref (ad 41)]) (s_Bx_everybody l z ad E M r102 hL g102) hx hb hml hown hts w_668 n_665 w_667 w_s_8b8b67 w_2 md_b59579 ⟨Nat.le_of_ble_eq_true rfl, Nat.le_of_ble_eq_true rfl⟩ hG hZ hP hD hS hA 2 (wv_o (ci := 0) (yi_2 hL) (yt_2 hL)) rfl rfl rfl hl.1 rfl (Nat.le_of_ble_eq_true rfl) d_1_25_30 ⟨Nat.le_of_ble_eq_true rfl, Nat.le_of_ble_eq_true rfl⟩ (fun _ H locs hP hD hS => ?_)
    have hP : va_P z.1 classes (wv z ad E M) H := hP
    have hD : va_D A (wv z ad E M) := hD
    refine W.eq (g2 := F0 m 33 ls [.int (oI r102), .ref (ad 41)]) rfl ?_
    obtain ⟨M103, g103, h⟩ := bd_e h
    refine kVN (As := [.int (oI r102)]) (rest := []) (s_Po_open l z ad E M r102 M103 hL g103) hx hb hml hown hts w_672 n_669 w_671 w_s_229dc4 w_3 md_60bc9b ⟨Nat.le_of_ble_eq_true rfl, Nat.le_of_ble_eq_true rfl⟩ hG hZ hP hD hS hA 41 (wv_o (ci := 9) (yi_41 hL) (yt_41 hL)) rfl rfl rfl hl.1 rfl (Nat.le_of_ble_eq_true rfl) d_1_25_33 ⟨Nat.le_of_ble_eq_true rfl, Nat.le_of_ble_eq_true rfl⟩ (fun _ H locs hP hD hS => ?_)
    have hP : va_P z.1 classes (wv z ad E M103) H := hP
    have hD : va_D A (wv z ad E M103) := hD
    refine W.eq (g2 := F0 m 36 ls []) rfl ?_
    refine lv_aload_n hx hb d_1_25_36 rfl (lv_at hl 0 rfl) ?_
    refine m_gr (j := 41) (C := "Ballothall") (T := TX11) (N := 14) (ci := 11) (k := 1) hx hb hts iX11 hown hG hP (yi_1 hL) (yt_1 hL) rfl (by decide) w_398 (fun _ h9 => h9) rfl rfl (yr_1_1 hL) d_1_25_37 ?_
    refine lv_iload_n hx hb d_1_25_40 rfl (lv_at hl 1 rfl) ?_
    refine lv_iload_n hx hb d_1_25_41 rfl (lv_at hl 2 rfl) ?_
    obtain ⟨r104, g104, h⟩ := bd_e h
    refine kVN (As := [.int (oI x1), .int (oI x2)]) (rest := []) (s_Po_pair l z ad E M103 x1 x2 r104 hL g104) hx hb hml hown hts w_709 n_1309 w_708 w_s_776300 w_3 md_5a94c2 ⟨Nat.le_of_ble_eq_true rfl, Nat.le_of_ble_eq_true rfl⟩ hG hZ hP hD hS hA 41 (wv_o (ci := 9) (yi_41 hL) (yt_41 hL)) rfl rfl rfl hl.1 rfl (Nat.le_of_ble_eq_true rfl) d_1_25_42 ⟨Nat.le_of_ble_eq_true rfl, Nat.le_of_ble_eq_true rfl⟩ (fun _ H locs hP hD hS => ?_)
    have hP : va_P z.1 classes (wv z ad E M103) H := hP
    have hD : va_D A (wv z ad E M103) := hD
    refine W.eq (g2 := F0 m 45 ls [.int (oI r104)]) rfl ?_
    obtain ⟨rfl, rfl⟩ := in2 h
    exact W.iret hx hb hr (fun t ht hW => qkA hP hD hS (fun k => k) rfl rfl ht) hS.2.2 d_1_25_45
  exact key _ _ _ hts hP hS
set_option maxRecDepth 100000 in
set_option maxHeartbeats 4000000 in
theorem b_Lb_ahead_5b (l : Launch) (z : Zz) (ad : Nat → Nat) (E : Ev) (M : Mm) (q0 : Nat) (x1 : Int) (x2 : Int) (x3 : Int) (x4 : Int) (t : Nat) (w3 : Int) (w4 : Int)  {Q : State → Prop} {p : Program} {e : Env} {s : State} {m : MethodId} {below : List Frame} {meth : Method} {c : Code} {A : Nat → Prop} {args : Array Value} (hx : p.tables.exec = Jvm.exec) (hb : c.code = prog_14_method_2_code) (hml : c.maxLocals = 5) (hts : ∀ w ∈ WG, w.before args s = true) (hown : s.vm.findClass "BallothallLaw$Box" = some m.cls) (hlocks : meth.locks = false) (hA : ∀ q, s.heap.size ≤ q → A q) (hG : KG z s) (hZ : FZ z A s) (hL : Lay E) (h : Lb_ahead_5b E M q0 x1 x2 x3 x4 = some (t, w3, w4)) (k0 : t = 0 → ∀ (H : Heap) (locs : List Loc) (ls : Array Slot), va_P z.1 classes (wv z ad E M) H → va_D A (wv z ad E M) → va_S A s.heap H locs → lv_has ls 5 [(0, .ref (ad q0)), (1, .int (oI x1)), (2, .int (oI x2)), (3, .int (oI w3)), (4, .int (oI w4))] → W p l e (rmK 0 20 0 0) s m args below meth c H locs 0 0 Q (F0 m 5 ls [])) (k1 : t = 1 → ∀ (H : Heap) (locs : List Loc) (ls : Array Slot), va_P z.1 classes (wv z ad E M) H → va_D A (wv z ad E M) → va_S A s.heap H locs → lv_has ls 5 [(3, .int (oI w3))] → W p l e (rmK 0 20 0 0) s m args below meth c H locs 0 0 Q (F0 m 55 ls [])) : ∀ (H : Heap) (locs : List Loc) (ls : Array Slot), va_P z.1 classes (wv z ad E M) H → va_D A (wv z ad E M) → va_S A s.heap H locs → lv_has ls 5 [(0, .ref (ad q0)), (1, .int (oI x1)), (2, .int (oI x2)), (3, .int (oI x3)), (4, .int (oI x4))] → W p l e (rmK 0 20 0 0) s m args below meth c H locs 0 0 Q (F0 m 5 ls []) := by
  intro H locs ls hP hD hS hl
  unfold Lb_ahead_5b at h
  obtain ⟨h_q0, h⟩ := ck_e h
  refine lv_iload hx hb d_14_2_5 (lv_at hl 4 rfl) ?_
  refine lv_aload_n hx hb d_14_2_7 rfl (lv_at hl 0 rfl) ?_
  refine m_gi (C := "BallothallLaw$Box") (T := TX12) (N := 4) (ci := 12) (k := 3) hx hb hts iX12 hown hG hP h_q0.1 h_q0.2 rfl (by decide) w_780 (fun _ h9 => h9) rfl rfl d_14_2_8 ?_
  obtain ⟨ok100, h⟩ := ck_e h
  obtain ⟨ok101, h⟩ := ck_e h
  refine lv_icmp_ge (tgt := 55) hx hb d_14_2_11 (by decide) (fun c9 => ?_) (fun c9 => ?_)
  · have h := ite_t ((oI_le (a := (M q0 3)) (b := x4) ok101 ok100).mp c9) h
    obtain ⟨rfl, rfl, rfl⟩ := in3 h
    exact k1 rfl H locs ls hP hD hS (lv_sub hl [3] rfl)
  · have h := ite_f (fun q => c9 ((oI_le (a := (M q0 3)) (b := x4) ok101 ok100).mpr q)) h
    refine lv_iload_n hx hb d_14_2_14 rfl (lv_at hl 3 rfl) ?_
    refine lv_aload_n hx hb d_14_2_15 rfl (lv_at hl 0 rfl) ?_
    obtain ⟨p102, g102, h⟩ := bd_e h
    obtain ⟨h_p102, h⟩ := ck_e h
    refine m_gr (j := p102) (C := "BallothallLaw$Box") (T := TX12) (N := 4) (ci := 12) (k := 1) hx hb hts iX12 hown hG hP h_q0.1 h_q0.2 rfl (by decide) w_776 (fun _ h9 => h9) rfl rfl g102 d_14_2_16 ?_
    refine lv_iload hx hb d_14_2_19 (lv_at hl 4 rfl) ?_
    obtain ⟨ok103, h⟩ := ck_e h
    obtain ⟨p104, g104, h⟩ := bd_e h
    obtain ⟨h_p104, h⟩ := ck_e h
    refine m_ar (k := p104) hx hb hG hP h_p102.1 (isQ_T h_p102) ok103 g104 d_14_2_21 ?_
    refine lv_iload_n hx hb d_14_2_22 rfl (lv_at hl 1 rfl) ?_
    obtain ⟨ok105, h⟩ := ck_e h
    refine m_ia hx hb hG hP h_p104.1 (isIA_T h_p104) ok105 d_14_2_23 ?_
    refine lv_aload_n hx hb d_14_2_24 rfl (lv_at hl 0 rfl) ?_
    obtain ⟨p106, g106, h⟩ := bd_e h
    obtain ⟨h_p106, h⟩ := ck_e h
    refine m_gr (j := p106) (C := "BallothallLaw$Box") (T := TX12) (N := 4) (ci := 12) (k := 1) hx hb hts iX12 hown hG hP h_q0.1 h_q0.2 rfl (by decide) w_776 (fun _ h9 => h9) rfl rfl g106 d_14_2_25 ?_
    refine lv_iload hx hb d_14_2_28 (lv_at hl 4 rfl) ?_
    obtain ⟨ok107, h⟩ := ck_e h
    obtain ⟨p108, g108, h⟩ := bd_e h
    obtain ⟨h_p108, h⟩ := ck_e h
    refine m_ar (k := p108) hx hb hG hP h_p106.1 (isQ_T h_p106) ok107 g108 d_14_2_30 ?_
    refine lv_iload_n hx hb d_14_2_31 rfl (lv_at hl 2 rfl) ?_
    obtain ⟨ok109, h⟩ := ck_e h
    refine m_ia hx hb hG hP h_p108.1 (isIA_T h_p108) ok109 d_14_2_32 ?_
    obtain ⟨ok110, h⟩ := ck_e h
    obtain ⟨ok111, h⟩ := ck_e h
    refine lv_icmp_ge (tgt := 46) hx hb d_14_2_33 (by decide) (fun c9 => ?_) (fun c9 => ?_)
    · have h := ite_t ((oI_le (a := (M p108 x2.toNat)) (b := (M p104 x1.toNat)) ok111 ok110).mp c9) h
      refine lv_iconst (v := oI 0) hx hb d_14_2_46 (by decide +kernel) ?_
      refine lv_iadd hx hb d_14_2_47 ?_
      refine nrm (oI_add _ _) ?_
      refine lv_istore_n (lv' := [(3, .int (oI (x3 + 0))), (0, .ref (ad q0)), (1, .int (oI x1)), (2, .int (oI x2)), (4, .int (oI x4))]) hx hb d_14_2_48 rfl hl (by decide) rfl (fun ls hl => ?_)
      refine lv_iinc (v := oI (x4 + 1)) (lv' := [(4, .int (oI (x4 + 1))), (3, .int (oI (x3 + 0))), (0, .ref (ad q0)), (1, .int (oI x1)), (2, .int (oI x2))]) hx hb d_14_2_49 hl (k := 4) rfl (oI_add x4 1) (by decide) rfl (fun ls hl => ?_)
      refine lv_goto (tgt := 5) hx hb d_14_2_52 (by decide) ?_
      obtain ⟨rfl, rfl, rfl⟩ := in3 h
      exact k0 rfl H locs ls hP hD hS (lv_sub hl [2, 3, 4, 1, 0] rfl)
    · have h := ite_f (fun q => c9 ((oI_le (a := (M p108 x2.toNat)) (b := (M p104 x1.toNat)) ok111 ok110).mpr q)) h
      refine lv_aload_n hx hb d_14_2_36 rfl (lv_at hl 0 rfl) ?_
      obtain ⟨p112, g112, h⟩ := bd_e h
      obtain ⟨h_p112, h⟩ := ck_e h
      refine m_gr (j := p112) (C := "BallothallLaw$Box") (T := TX12) (N := 4) (ci := 12) (k := 2) hx hb hts iX12 hown hG hP h_q0.1 h_q0.2 rfl (by decide) w_778 (fun _ h9 => h9) rfl rfl g112 d_14_2_37 ?_
      refine lv_iload hx hb d_14_2_40 (lv_at hl 4 rfl) ?_
      obtain ⟨ok113, h⟩ := ck_e h
      refine m_ia hx hb hG hP h_p112.1 (isIA_T h_p112) ok113 d_14_2_42 ?_
      refine lv_goto (tgt := 47) hx hb d_14_2_43 (by decide) ?_
      refine lv_iadd hx hb d_14_2_47 ?_
      refine nrm (oI_add _ _) ?_
      refine lv_istore_n (lv' := [(3, .int (oI (x3 + (M p112 x4.toNat)))), (0, .ref (ad q0)), (1, .int (oI x1)), (2, .int (oI x2)), (4, .int (oI x4))]) hx hb d_14_2_48 rfl hl (by decide) rfl (fun ls hl => ?_)
      refine lv_iinc (v := oI (x4 + 1)) (lv' := [(4, .int (oI (x4 + 1))), (3, .int (oI (x3 + (M p112 x4.toNat)))), (0, .ref (ad q0)), (1, .int (oI x1)), (2, .int (oI x2))]) hx hb d_14_2_49 hl (k := 4) rfl (oI_add x4 1) (by decide) rfl (fun ls hl => ?_)
      refine lv_goto (tgt := 5) hx hb d_14_2_52 (by decide) ?_
      obtain ⟨rfl, rfl, rfl⟩ := in3 h
      exact k0 rfl H locs ls hP hD hS (lv_sub hl [2, 3, 4, 1, 0] rfl)
set_option maxRecDepth 100000 in
set_option maxHeartbeats 4000000 in
theorem s_Lb_ahead_5 (l : Launch) (z : Zz) (ad : Nat → Nat) (E : Ev) (q0 : Nat) (x1 : Int) (x2 : Int) {Q : State → Prop} {p : Program} {e : Env} {s : State} {m : MethodId} {below : List Frame} {meth : Method} {c : Code} {A : Nat → Prop} {args : Array Value} (hx : p.tables.exec = Jvm.exec) (hb : c.code = prog_14_method_2_code) (hml : c.maxLocals = 5) (hts : ∀ w ∈ WG, w.before args s = true) (hown : s.vm.findClass "BallothallLaw$Box" = some m.cls) (hlocks : meth.locks = false) (hA : ∀ q, s.heap.size ≤ q → A q) (hG : KG z s) (hZ : FZ z A s) (hL : Lay E) : ∀ (fu : Nat) (M : Mm) (x3 : Int) (x4 : Int) (t : Nat) (w3 : Int) (w4 : Int), l_Lb_ahead_5 E q0 x1 x2 fu M x3 x4 = some (t, w3, w4) → (t = 1 → ∀ (H : Heap) (locs : List Loc) (ls : Array Slot), va_P z.1 classes (wv z ad E M) H → va_D A (wv z ad E M) → va_S A s.heap H locs → lv_has ls 5 [(3, .int (oI w3))] → W p l e (rmK 0 20 0 0) s m args below meth c H locs 0 0 Q (F0 m 55 ls [])) → ∀ (H : Heap) (locs : List Loc) (ls : Array Slot), va_P z.1 classes (wv z ad E M) H → va_D A (wv z ad E M) → va_S A s.heap H locs → lv_has ls 5 [(0, .ref (ad q0)), (1, .int (oI x1)), (2, .int (oI x2)), (3, .int (oI x3)), (4, .int (oI x4))] → W p l e (rmK 0 20 0 0) s m args below meth c H locs 0 0 Q (F0 m 5 ls []) := by
  intro fu
  induction fu with
  | zero =>
    intro M x3 x4 t w3 w4 h
    have h : (none : Option (Nat × Int × Int)) = some _ := h
    cases h
  | succ fu ih =>
    intro M x3 x4 t w3 w4 h k1 H locs ls hP hD hS hl
    obtain ⟨⟨t0, w30, w40⟩, g0, h⟩ := bd_e h
    refine b_Lb_ahead_5b l z ad E M q0 x1 x2 x3 x4 t0 w30 w40 hx hb hml hts hown hlocks hA hG hZ hL g0 (fun e0 => ?_) (fun e0 => ?_) H locs ls hP hD hS hl
    · subst e0
      have h := ite_t rfl h
      exact ih M w30 w40 t w3 w4 h k1
    · subst e0
      have h := ite_f (by decide) h
      obtain ⟨rfl, rfl, rfl⟩ := in3 h
      exact k1 rfl
set_option maxRecDepth 100000 in
set_option maxHeartbeats 4000000 in
theorem s_Lb_ahead (l : Launch) (z : Zz) (ad : Nat → Nat) (E : Ev) (M : Mm) (p0 : Nat) (x1 : Int) (x2 : Int) (r : Int)  (hL : Lay E) (h : f_Lb_ahead E M p0 x1 x2 = some r) : CT l z ⟨"BallothallLaw$Box", "ahead", "(II)I"⟩ prog_14_method_2_code 5 (some .int) [.ref (ad p0), .int (oI x1), .int (oI x2)] (wv z ad E M) 0 20 0 0 (fun _ => some (.int (oI r))) (fun _ => (wv z ad E M)) := by
  refine CT.of (own := "BallothallLaw$Box") (by decide +kernel) (Nat.le_of_ble_eq_true rfl) rfl (fun p e s m below meth c A ls hx hb hml hr hts hown hlocks hin hA hG hZ hP hD hS hl => ?_)
  have hl : lv_has ls 5 [(0, .ref (ad p0)), (1, .int (oI x1)), (2, .int (oI x2))] := hl
  have key : ∀ (H : Heap) (locs : List Loc) (args : Array Value), (∀ w ∈ WG, w.before args s = true) → va_P z.1 classes (wv z ad E M) H → va_S A s.heap H locs → W p l e (rmK 0 20 0 0) s m args below meth c H locs 0 0 (MQ below (QK z A (fun _ => some (.int (oI r))) (fun _ => (wv z ad E M))) args s 0 0 A) (F0 m 0 ls []) := by
    intro H locs args hts hP hS
    unfold f_Lb_ahead at h
    obtain ⟨h_p0, h⟩ := ck_e h
    refine lv_iconst (v := oI 0) hx hb d_14_2_0 (by decide +kernel) ?_
    refine lv_istore_n (lv' := [(3, .int (oI 0)), (0, .ref (ad p0)), (1, .int (oI x1)), (2, .int (oI x2))]) hx hb d_14_2_1 rfl hl (by decide) rfl (fun ls hl => ?_)
    refine lv_iconst (v := oI 0) hx hb d_14_2_2 (by decide +kernel) ?_
    refine lv_istore (lv' := [(4, .int (oI 0)), (3, .int (oI 0)), (0, .ref (ad p0)), (1, .int (oI x1)), (2, .int (oI x2))]) hx hb d_14_2_3 hl (by decide) rfl (fun ls hl => ?_)
    obtain ⟨⟨t114, v114_3, v114_4⟩, g114, h⟩ := bd_e h
    obtain ⟨ok114, h⟩ := ck_e h
    refine s_Lb_ahead_5 l z ad E p0 x1 x2 hx hb hml hts hown hlocks hA hG hZ hL FU M 0 0 t114 v114_3 v114_4 g114 (fun e114 H locs ls hP hD hS hl => ?_) H locs ls hP hD hS (lv_sub hl [2, 3, 4, 1, 0] rfl)
    refine lv_iload_n hx hb d_14_2_55 rfl (lv_at hl 0 rfl) ?_
    obtain rfl := in1 h
    exact W.iret hx hb hr (fun t ht hW => qkA hP hD hS (fun k => k) rfl rfl ht) hS.2.2 d_14_2_56
  exact key _ _ _ hts hP hS
set_option maxRecDepth 100000 in
set_option maxHeartbeats 4000000 in
theorem s_Po_beats (l : Launch) (z : Zz) (ad : Nat → Nat) (E : Ev) (M : Mm) (x1 : Int) (x2 : Int) (r : Int)  (hL : Lay E) (h : f_Po_beats E M x1 x2 = some r) : CT l z ⟨"Ballothall$Poll", "beats", "(II)Z"⟩ prog_11_method_7_code 3 (some .boolean) [.ref (ad 41), .int (oI x1), .int (oI x2)] (wv z ad E M) 1 42 0 0 (fun _ => some (.int (oI r))) (fun _ => (wv z ad E M)) := by
  refine CT.of (own := "Ballothall$Poll") (by decide +kernel) (Nat.le_of_ble_eq_true rfl) rfl (fun p e s m below meth c A ls hx hb hml hr hts hown hlocks hin hA hG hZ hP hD hS hl => ?_)
  have hl : lv_has ls 3 [(0, .ref (ad 41)), (1, .int (oI x1)), (2, .int (oI x2))] := hl
  have key : ∀ (H : Heap) (locs : List Loc) (args : Array Value), (∀ w ∈ WG, w.before args s = true) → va_P z.1 classes (wv z ad E M) H → va_S A s.heap H locs → W p l e (rmK 1 42 0 0) s m args below meth c H locs 0 0 (MQ below (QK z A (fun _ => some (.int (oI r))) (fun _ => (wv z ad E M))) args s 0 0 A) (F0 m 0 ls []) := by
    intro H locs args hts hP hS
    unfold f_Po_beats at h
    refine lv_aload_n hx hb d_11_7_0 rfl (lv_at hl 0 rfl) ?_
    refine lv_iload_n hx hb d_11_7_1 rfl (lv_at hl 1 rfl) ?_
    refine lv_iload_n hx hb d_11_7_2 rfl (lv_at hl 2 rfl) ?_
    obtain ⟨r100, g100, h⟩ := bd_e h
    refine kV (As := [.int (oI x1), .int (oI x2)]) (rest := []) (s_Po_pair l z ad E M x1 x2 r100 hL g100) hx hb hml hown hts w_709 w_706 w_708 w_s_776300 w_3 md_5a94c2 ⟨Nat.le_of_ble_eq_true rfl, Nat.le_of_ble_eq_true rfl⟩ hG hZ hP hD hS hA 41 (wv_o (ci := 9) (yi_41 hL) (yt_41 hL)) rfl rfl rfl hl.1 rfl (Nat.le_of_ble_eq_true rfl) d_11_7_3 ⟨Nat.le_of_ble_eq_true rfl, Nat.le_of_ble_eq_true rfl⟩ (fun _ H locs hP hD hS => ?_)
    have hP : va_P z.1 classes (wv z ad E M) H := hP
    have hD : va_D A (wv z ad E M) := hD
    refine W.eq (g2 := F0 m 6 ls [.int (oI r100)]) rfl ?_
    refine lv_aload_n hx hb d_11_7_6 rfl (lv_at hl 0 rfl) ?_
    refine lv_iload_n hx hb d_11_7_7 rfl (lv_at hl 2 rfl) ?_
    refine lv_iload_n hx hb d_11_7_8 rfl (lv_at hl 1 rfl) ?_
    obtain ⟨r101, g101, h⟩ := bd_e h
    refine kV (As := [.int (oI x2), .int (oI x1)]) (rest := [.int (oI r100)]) (s_Po_pair l z ad E M x2 x1 r101 hL g101) hx hb hml hown hts w_709 w_706 w_708 w_s_776300 w_3 md_5a94c2 ⟨Nat.le_of_ble_eq_true rfl, Nat.le_of_ble_eq_true rfl⟩ hG hZ hP hD hS hA 41 (wv_o (ci := 9) (yi_41 hL) (yt_41 hL)) rfl rfl rfl hl.1 rfl (Nat.le_of_ble_eq_true rfl) d_11_7_9 ⟨Nat.le_of_ble_eq_true rfl, Nat.le_of_ble_eq_true rfl⟩ (fun _ H locs hP hD hS => ?_)
    have hP : va_P z.1 classes (wv z ad E M) H := hP
    have hD : va_D A (wv z ad E M) := hD
    refine W.eq (g2 := F0 m 12 ls [.int (oI r101), .int (oI r100)]) rfl ?_
    obtain ⟨ok102, h⟩ := ck_e h
    obtain ⟨ok103, h⟩ := ck_e h
    refine lv_icmp_le (tgt := 19) hx hb d_11_7_12 (by decide) (fun c9 => ?_) (fun c9 => ?_)
    · have h := ite_t ((oI_le (a := r100) (b := r101) ok102 ok103).mp c9) h
      refine lv_iconst (v := oI 0) hx hb d_11_7_19 (by decide +kernel) ?_
      obtain rfl := in1 h
      exact W.zret hx hb hr rfl (fun t ht hW => qkA hP hD hS (fun k => k) rfl rfl ht) hS.2.2 d_11_7_20
    · have h := ite_f (fun q => c9 ((oI_le (a := r100) (b := r101) ok102 ok103).mpr q)) h
      refine lv_iconst (v := oI 1) hx hb d_11_7_15 (by decide +kernel) ?_
      refine lv_goto (tgt := 20) hx hb d_11_7_16 (by decide) ?_
      obtain rfl := in1 h
      exact W.zret hx hb hr rfl (fun t ht hW => qkA hP hD hS (fun k => k) rfl rfl ht) hS.2.2 d_11_7_20
  exact key _ _ _ hts hP hS
set_option maxRecDepth 100000 in
set_option maxHeartbeats 4000000 in
theorem b_Po_findBeaten_23b (l : Launch) (z : Zz) (ad : Nat → Nat) (E : Ev) (M : Mm) (x1 : Int) (x2 : Int) (t : Nat) (w2 : Int) (N : Mm) {Q : State → Prop} {p : Program} {e : Env} {s : State} {m : MethodId} {below : List Frame} {meth : Method} {c : Code} {A : Nat → Prop} {args : Array Value} (hx : p.tables.exec = Jvm.exec) (hb : c.code = prog_11_method_8_code) (hml : c.maxLocals = 3) (hts : ∀ w ∈ WG, w.before args s = true) (hown : s.vm.findClass "Ballothall$Poll" = some m.cls) (hlocks : meth.locks = false) (hA : ∀ q, s.heap.size ≤ q → A q) (hG : KG z s) (hZ : FZ z A s) (hL : Lay E) (h : Po_findBeaten_23b E M x1 x2 = some (t, w2, N)) (k0 : t = 0 → ∀ (H : Heap) (locs : List Loc) (ls : Array Slot), va_P z.1 classes (wv z ad E N) H → va_D A (wv z ad E N) → va_S A s.heap H locs → lv_has ls 3 [(0, .ref (ad 41)), (1, .int (oI x1)), (2, .int (oI w2))] → W p l e (rmK 2 64 0 0) s m args below meth c H locs 0 0 Q (F0 m 23 ls [])) (k1 : t = 1 → ∀ (H : Heap) (locs : List Loc) (ls : Array Slot), va_P z.1 classes (wv z ad E N) H → va_D A (wv z ad E N) → va_S A s.heap H locs → lv_has ls 3 [(0, .ref (ad 41)), (1, .int (oI x1))] → W p l e (rmK 2 64 0 0) s m args below meth c H locs 0 0 Q (F0 m 61 ls [])) : ∀ (H : Heap) (locs : List Loc) (ls : Array Slot), va_P z.1 classes (wv z ad E M) H → va_D A (wv z ad E M) → va_S A s.heap H locs → lv_has ls 3 [(0, .ref (ad 41)), (1, .int (oI x1)), (2, .int (oI x2))] → W p l e (rmK 2 64 0 0) s m args below meth c H locs 0 0 Q (F0 m 23 ls []) := by
  intro H locs ls hP hD hS hl
  unfold Po_findBeaten_23b at h
  refine lv_iload_n hx hb d_11_8_23 rfl (lv_at hl 2 rfl) ?_
  refine lv_aload_n hx hb d_11_8_24 rfl (lv_at hl 0 rfl) ?_
  refine m_gr (j := 2) (C := "Ballothall$Poll") (T := TX9) (N := 12) (ci := 9) (k := 0) hx hb hts iX9 hown hG hP (yi_41 hL) (yt_41 hL) rfl (by decide) w_107 (fun _ h9 => h9) rfl rfl (yr_41_0 hL) d_11_8_25 ?_
  refine m_giN (C := "Ballothall$BallotBox") (T := TX0) (N := 10) (ci := 0) (k := 2) hx hb hts iX0 hown hG hP (yi_2 hL) (yt_2 hL) rfl (by decide) n_53 rfl (fun _ h9 => h9) rfl rfl d_11_8_28 ?_
  obtain ⟨ok103, h⟩ := ck_e h
  obtain ⟨ok104, h⟩ := ck_e h
  refine lv_icmp_ge (tgt := 61) hx hb d_11_8_31 (by decide) (fun c9 => ?_) (fun c9 => ?_)
  · have h := ite_t ((oI_le (a := (M 2 2)) (b := x2) ok104 ok103).mp c9) h
    obtain ⟨rfl, rfl, rfl⟩ := in3 h
    exact k1 rfl H locs ls hP hD hS (lv_sub hl [0, 1] rfl)
  · have h := ite_f (fun q => c9 ((oI_le (a := (M 2 2)) (b := x2) ok104 ok103).mpr q)) h
    refine lv_aload_n hx hb d_11_8_34 rfl (lv_at hl 0 rfl) ?_
    refine lv_iload_n hx hb d_11_8_35 rfl (lv_at hl 1 rfl) ?_
    refine lv_iload_n hx hb d_11_8_36 rfl (lv_at hl 2 rfl) ?_
    obtain ⟨r105, g105, h⟩ := bd_e h
    refine kV (As := [.int (oI x1), .int (oI x2)]) (rest := []) (s_Po_beats l z ad E M x1 x2 r105 hL g105) hx hb hml hown hts w_705 w_702 w_704 w_s_3a49be w_3 md_755902 ⟨Nat.le_of_ble_eq_true rfl, Nat.le_of_ble_eq_true rfl⟩ hG hZ hP hD hS hA 41 (wv_o (ci := 9) (yi_41 hL) (yt_41 hL)) rfl rfl rfl hl.1 rfl (Nat.le_of_ble_eq_true rfl) d_11_8_37 ⟨Nat.le_of_ble_eq_true rfl, Nat.le_of_ble_eq_true rfl⟩ (fun _ H locs hP hD hS => ?_)
    have hP : va_P z.1 classes (wv z ad E M) H := hP
    have hD : va_D A (wv z ad E M) := hD
    refine W.eq (g2 := F0 m 40 ls [.int (oI r105)]) rfl ?_
    obtain ⟨ok106, h⟩ := ck_e h
    refine lv_if_eq (tgt := 55) hx hb d_11_8_40 (by decide) (fun c9 => ?_) (fun c9 => ?_)
    · have h := ite_t ((oI_eq0 ok106).mp c9) h
      refine lv_iinc (v := oI (x2 + 1)) (lv' := [(2, .int (oI (x2 + 1))), (0, .ref (ad 41)), (1, .int (oI x1))]) hx hb d_11_8_55 hl (k := 2) rfl (oI_add x2 1) (by decide) rfl (fun ls hl => ?_)
      refine lv_goto (tgt := 23) hx hb d_11_8_58 (by decide) ?_
      obtain ⟨rfl, rfl, rfl⟩ := in3 h
      exact k0 rfl H locs ls hP hD hS (lv_sub hl [1, 2, 0] rfl)
    · have h := ite_f (fun q => c9 ((oI_eq0 ok106).mpr q)) h
      refine lv_aload_n hx hb d_11_8_43 rfl (lv_at hl 0 rfl) ?_
      refine m_gr (j := 46) (C := "Ballothall$Poll") (T := TX9) (N := 12) (ci := 9) (k := 7) hx hb hts iX9 hown hG hP (yi_41 hL) (yt_41 hL) rfl (by decide) w_114 (fun _ h9 => h9) rfl rfl (yr_41_7 hL) d_11_8_44 ?_
      refine lv_iload_n hx hb d_11_8_47 rfl (lv_at hl 1 rfl) ?_
      refine lv_dup2_11 hx hb d_11_8_48 rfl rfl ?_
      obtain ⟨ok107, h⟩ := ck_e h
      refine m_ia hx hb hG hP (yi_46 hL) (yt_46 hL) ok107 d_11_8_49 ?_
      refine lv_iconst (v := oI 1) hx hb d_11_8_50 (by decide +kernel) ?_
      refine lv_iload_n hx hb d_11_8_51 rfl (lv_at hl 2 rfl) ?_
      obtain ⟨ok108, h⟩ := ck_e h
      refine lv_ishl hx hb d_11_8_52 ?_
      refine nrm (oI_one_shl ok108) ?_
      obtain ⟨ok109, h⟩ := ck_e h
      obtain ⟨ok110, h⟩ := ck_e h
      refine lv_ior hx hb d_11_8_53 ?_
      refine nrm (oI_or (a := (M 46 x1.toNat)) (b := (2 ^ x2.toNat)) ok109.1 ok109.2 ok110.1 ok110.2) ?_
      obtain ⟨v111, e111, h⟩ := nb_e h
      refine nrm (congrArg oI e111.symm) ?_
      refine m_is hx hb hG hP hD hS (yi_46 hL) (yt_46 hL) ok107 d_11_8_54 (fun H locs hP hD hS => ?_)
      have hP : va_P z.1 classes (wv z ad E (u2 M 46 x1.toNat v111)) H := hP
      have hD : va_D A (wv z ad E (u2 M 46 x1.toNat v111)) := hD
      refine lv_iinc (v := oI (x2 + 1)) (lv' := [(2, .int (oI (x2 + 1))), (0, .ref (ad 41)), (1, .int (oI x1))]) hx hb d_11_8_55 hl (k := 2) rfl (oI_add x2 1) (by decide) rfl (fun ls hl => ?_)
      refine lv_goto (tgt := 23) hx hb d_11_8_58 (by decide) ?_
      obtain ⟨rfl, rfl, rfl⟩ := in3 h
      exact k0 rfl H locs ls hP hD hS (lv_sub hl [1, 2, 0] rfl)
set_option maxRecDepth 100000 in
set_option maxHeartbeats 4000000 in
theorem s_Po_findBeaten_23 (l : Launch) (z : Zz) (ad : Nat → Nat) (E : Ev) (x1 : Int) {Q : State → Prop} {p : Program} {e : Env} {s : State} {m : MethodId} {below : List Frame} {meth : Method} {c : Code} {A : Nat → Prop} {args : Array Value} (hx : p.tables.exec = Jvm.exec) (hb : c.code = prog_11_method_8_code) (hml : c.maxLocals = 3) (hts : ∀ w ∈ WG, w.before args s = true) (hown : s.vm.findClass "Ballothall$Poll" = some m.cls) (hlocks : meth.locks = false) (hA : ∀ q, s.heap.size ≤ q → A q) (hG : KG z s) (hZ : FZ z A s) (hL : Lay E) : ∀ (fu : Nat) (M : Mm) (x2 : Int) (t : Nat) (w2 : Int) (N : Mm), l_Po_findBeaten_23 E x1 fu M x2 = some (t, w2, N) → (t = 1 → ∀ (H : Heap) (locs : List Loc) (ls : Array Slot), va_P z.1 classes (wv z ad E N) H → va_D A (wv z ad E N) → va_S A s.heap H locs → lv_has ls 3 [(0, .ref (ad 41)), (1, .int (oI x1))] → W p l e (rmK 2 64 0 0) s m args below meth c H locs 0 0 Q (F0 m 61 ls [])) → ∀ (H : Heap) (locs : List Loc) (ls : Array Slot), va_P z.1 classes (wv z ad E M) H → va_D A (wv z ad E M) → va_S A s.heap H locs → lv_has ls 3 [(0, .ref (ad 41)), (1, .int (oI x1)), (2, .int (oI x2))] → W p l e (rmK 2 64 0 0) s m args below meth c H locs 0 0 Q (F0 m 23 ls []) := by
  intro fu
  induction fu with
  | zero =>
    intro M x2 t w2 N h
    have h : (none : Option (Nat × Int × Mm)) = some _ := h
    cases h
  | succ fu ih =>
    intro M x2 t w2 N h k1 H locs ls hP hD hS hl
    obtain ⟨⟨t0, w20, N9⟩, g0, h⟩ := bd_e h
    refine b_Po_findBeaten_23b l z ad E M x1 x2 t0 w20 N9 hx hb hml hts hown hlocks hA hG hZ hL g0 (fun e0 => ?_) (fun e0 => ?_) H locs ls hP hD hS hl
    · subst e0
      have h := ite_t rfl h
      exact ih N9 w20 t w2 N h k1
    · subst e0
      have h := ite_f (by decide) h
      obtain ⟨rfl, rfl, rfl⟩ := in3 h
      exact k1 rfl
set_option maxRecDepth 100000 in
set_option maxHeartbeats 4000000 in
theorem b_Po_findBeaten_10b (l : Launch) (z : Zz) (ad : Nat → Nat) (E : Ev) (M : Mm) (x1 : Int) (t : Nat) (w1 : Int) (N : Mm) {Q : State → Prop} {p : Program} {e : Env} {s : State} {m : MethodId} {below : List Frame} {meth : Method} {c : Code} {A : Nat → Prop} {args : Array Value} (hx : p.tables.exec = Jvm.exec) (hb : c.code = prog_11_method_8_code) (hml : c.maxLocals = 3) (hts : ∀ w ∈ WG, w.before args s = true) (hown : s.vm.findClass "Ballothall$Poll" = some m.cls) (hlocks : meth.locks = false) (hA : ∀ q, s.heap.size ≤ q → A q) (hG : KG z s) (hZ : FZ z A s) (hL : Lay E) (h : Po_findBeaten_10b E M x1 = some (t, w1, N)) (k0 : t = 0 → ∀ (H : Heap) (locs : List Loc) (ls : Array Slot), va_P z.1 classes (wv z ad E N) H → va_D A (wv z ad E N) → va_S A s.heap H locs → lv_has ls 3 [(0, .ref (ad 41)), (1, .int (oI w1))] → W p l e (rmK 2 64 0 0) s m args below meth c H locs 0 0 Q (F0 m 10 ls [])) (k1 : t = 1 → ∀ (H : Heap) (locs : List Loc) (ls : Array Slot), va_P z.1 classes (wv z ad E N) H → va_D A (wv z ad E N) → va_S A s.heap H locs → lv_has ls 3 [] → W p l e (rmK 2 64 0 0) s m args below meth c H locs 0 0 Q (F0 m 67 ls [])) : ∀ (H : Heap) (locs : List Loc) (ls : Array Slot), va_P z.1 classes (wv z ad E M) H → va_D A (wv z ad E M) → va_S A s.heap H locs → lv_has ls 3 [(0, .ref (ad 41)), (1, .int (oI x1))] → W p l e (rmK 2 64 0 0) s m args below meth c H locs 0 0 Q (F0 m 10 ls []) := by
  intro H locs ls hP hD hS hl
  unfold Po_findBeaten_10b at h
  refine lv_iload_n hx hb d_11_8_10 rfl (lv_at hl 1 rfl) ?_
  refine lv_aload_n hx hb d_11_8_11 rfl (lv_at hl 0 rfl) ?_
  refine m_gr (j := 2) (C := "Ballothall$Poll") (T := TX9) (N := 12) (ci := 9) (k := 0) hx hb hts iX9 hown hG hP (yi_41 hL) (yt_41 hL) rfl (by decide) w_107 (fun _ h9 => h9) rfl rfl (yr_41_0 hL) d_11_8_12 ?_
  refine m_giN (C := "Ballothall$BallotBox") (T := TX0) (N := 10) (ci := 0) (k := 2) hx hb hts iX0 hown hG hP (yi_2 hL) (yt_2 hL) rfl (by decide) n_53 rfl (fun _ h9 => h9) rfl rfl d_11_8_15 ?_
  obtain ⟨ok101, h⟩ := ck_e h
  obtain ⟨ok102, h⟩ := ck_e h
  refine lv_icmp_ge (tgt := 67) hx hb d_11_8_18 (by decide) (fun c9 => ?_) (fun c9 => ?_)
  · have h := ite_t ((oI_le (a := (M 2 2)) (b := x1) ok102 ok101).mp c9) h
    obtain ⟨rfl, rfl, rfl⟩ := in3 h
    exact k1 rfl H locs ls hP hD hS (lv_sub hl [] rfl)
  · have h := ite_f (fun q => c9 ((oI_le (a := (M 2 2)) (b := x1) ok102 ok101).mpr q)) h
    refine lv_iconst (v := oI 0) hx hb d_11_8_21 (by decide +kernel) ?_
    refine lv_istore_n (lv' := [(2, .int (oI 0)), (0, .ref (ad 41)), (1, .int (oI x1))]) hx hb d_11_8_22 rfl hl (by decide) rfl (fun ls hl => ?_)
    obtain ⟨⟨t112, v112_2, M112⟩, g112, h⟩ := bd_e h
    obtain ⟨ok112, h⟩ := ck_e h
    refine s_Po_findBeaten_23 l z ad E x1 hx hb hml hts hown hlocks hA hG hZ hL FU M 0 t112 v112_2 M112 g112 (fun e112 H locs ls hP hD hS hl => ?_) H locs ls hP hD hS (lv_sub hl [1, 2, 0] rfl)
    refine lv_iinc (v := oI (x1 + 1)) (lv' := [(1, .int (oI (x1 + 1))), (0, .ref (ad 41))]) hx hb d_11_8_61 hl (k := 1) rfl (oI_add x1 1) (by decide) rfl (fun ls hl => ?_)
    refine lv_goto (tgt := 10) hx hb d_11_8_64 (by decide) ?_
    obtain ⟨rfl, rfl, rfl⟩ := in3 h
    exact k0 rfl H locs ls hP hD hS (lv_sub hl [1, 0] rfl)
set_option maxRecDepth 100000 in
set_option maxHeartbeats 4000000 in
theorem s_Po_findBeaten_10 (l : Launch) (z : Zz) (ad : Nat → Nat) (E : Ev) {Q : State → Prop} {p : Program} {e : Env} {s : State} {m : MethodId} {below : List Frame} {meth : Method} {c : Code} {A : Nat → Prop} {args : Array Value} (hx : p.tables.exec = Jvm.exec) (hb : c.code = prog_11_method_8_code) (hml : c.maxLocals = 3) (hts : ∀ w ∈ WG, w.before args s = true) (hown : s.vm.findClass "Ballothall$Poll" = some m.cls) (hlocks : meth.locks = false) (hA : ∀ q, s.heap.size ≤ q → A q) (hG : KG z s) (hZ : FZ z A s) (hL : Lay E) : ∀ (fu : Nat) (M : Mm) (x1 : Int) (t : Nat) (w1 : Int) (N : Mm), l_Po_findBeaten_10 E fu M x1 = some (t, w1, N) → (t = 1 → ∀ (H : Heap) (locs : List Loc) (ls : Array Slot), va_P z.1 classes (wv z ad E N) H → va_D A (wv z ad E N) → va_S A s.heap H locs → lv_has ls 3 [] → W p l e (rmK 2 64 0 0) s m args below meth c H locs 0 0 Q (F0 m 67 ls [])) → ∀ (H : Heap) (locs : List Loc) (ls : Array Slot), va_P z.1 classes (wv z ad E M) H → va_D A (wv z ad E M) → va_S A s.heap H locs → lv_has ls 3 [(0, .ref (ad 41)), (1, .int (oI x1))] → W p l e (rmK 2 64 0 0) s m args below meth c H locs 0 0 Q (F0 m 10 ls []) := by
  intro fu
  induction fu with
  | zero =>
    intro M x1 t w1 N h
    have h : (none : Option (Nat × Int × Mm)) = some _ := h
    cases h
  | succ fu ih =>
    intro M x1 t w1 N h k1 H locs ls hP hD hS hl
    obtain ⟨⟨t0, w10, N9⟩, g0, h⟩ := bd_e h
    refine b_Po_findBeaten_10b l z ad E M x1 t0 w10 N9 hx hb hml hts hown hlocks hA hG hZ hL g0 (fun e0 => ?_) (fun e0 => ?_) H locs ls hP hD hS hl
    · subst e0
      have h := ite_t rfl h
      exact ih N9 w10 t w1 N h k1
    · subst e0
      have h := ite_f (by decide) h
      obtain ⟨rfl, rfl, rfl⟩ := in3 h
      exact k1 rfl
set_option maxRecDepth 100000 in
set_option maxHeartbeats 4000000 in
theorem s_Po_findBeaten (l : Launch) (z : Zz) (ad : Nat → Nat) (E : Ev) (M : Mm) (N : Mm) (hL : Lay E) (h : f_Po_findBeaten E M = some N) : CT l z ⟨"Ballothall$Poll", "findBeaten", "()V"⟩ prog_11_method_8_code 3 none [.ref (ad 41)] (wv z ad E M) 2 64 0 0 (fun _ => none) (fun _ => (wv z ad E N)) := by
  refine CT.of (own := "Ballothall$Poll") (by decide +kernel) (Nat.le_of_ble_eq_true rfl) rfl (fun p e s m below meth c A ls hx hb hml hr hts hown hlocks hin hA hG hZ hP hD hS hl => ?_)
  have hl : lv_has ls 3 [(0, .ref (ad 41))] := hl
  have key : ∀ (H : Heap) (locs : List Loc) (args : Array Value), (∀ w ∈ WG, w.before args s = true) → va_P z.1 classes (wv z ad E M) H → va_S A s.heap H locs → W p l e (rmK 2 64 0 0) s m args below meth c H locs 0 0 (MQ below (QK z A (fun _ => none) (fun _ => (wv z ad E N))) args s 0 0 A) (F0 m 0 ls []) := by
    intro H locs args hts hP hS
    unfold f_Po_findBeaten at h
    refine lv_aload_n hx hb d_11_8_0 rfl (lv_at hl 0 rfl) ?_
    refine m_gr (j := 46) (C := "Ballothall$Poll") (T := TX9) (N := 12) (ci := 9) (k := 7) hx hb hts iX9 hown hG hP (yi_41 hL) (yt_41 hL) rfl (by decide) w_114 (fun _ h9 => h9) rfl rfl (yr_41_7 hL) d_11_8_1 ?_
    refine lv_iconst (v := oI 0) hx hb d_11_8_4 (by decide +kernel) ?_
    obtain ⟨M100, g100, h⟩ := bd_e h
    refine kS (As := [.ref (ad 46), .int (oI 0)]) (rest := []) (s_Ar_fillI l z ad E M 46 0 M100 hL g100) hx hb hml hown hts w_653 w_673 w_652 w_23 md_e8f65d ⟨Nat.le_of_ble_eq_true rfl, Nat.le_of_ble_eq_true rfl⟩ hG hZ hP hD hS hA rfl hl.1 rfl (Nat.le_of_ble_eq_true rfl) d_11_8_5 ⟨Nat.le_of_ble_eq_true rfl, Nat.le_of_ble_eq_true rfl⟩ (fun _ H locs hP hD hS => ?_)
    have hP : va_P z.1 classes (wv z ad E M100) H := hP
    have hD : va_D A (wv z ad E M100) := hD
    refine W.eq (g2 := F0 m 8 ls []) rfl ?_
    refine lv_iconst (v := oI 0) hx hb d_11_8_8 (by decide +kernel) ?_
    refine lv_istore_n (lv' := [(1, .int (oI 0)), (0, .ref (ad 41))]) hx hb d_11_8_9 rfl hl (by decide) rfl (fun ls hl => ?_)
    obtain ⟨⟨t113, v113_1, M113⟩, g113, h⟩ := bd_e h
    obtain ⟨ok113, h⟩ := ck_e h
    refine s_Po_findBeaten_10 l z ad E hx hb hml hts hown hlocks hA hG hZ hL FU M100 0 t113 v113_1 M113 g113 (fun e113 H locs ls hP hD hS hl => ?_) H locs ls hP hD hS (lv_sub hl [1, 0] rfl)
    obtain rfl := in1 h
    exact W.vret hx hb hr (fun t ht hW => qkA hP hD hS (fun k => k) rfl rfl ht) hS.2.2 d_11_8_67
  exact key _ _ _ hts hP hS
set_option maxRecDepth 100000 in
set_option maxHeartbeats 4000000 in
theorem b_Po_isBeatingSet_2b (l : Launch) (z : Zz) (ad : Nat → Nat) (E : Ev) (M : Mm) (x1 : Int) (x2 : Int) (t : Nat) (w2 : Int)  {Q : State → Prop} {p : Program} {e : Env} {s : State} {m : MethodId} {below : List Frame} {meth : Method} {c : Code} {A : Nat → Prop} {args : Array Value} (hx : p.tables.exec = Jvm.exec) (hb : c.code = prog_11_method_11_code) (hml : c.maxLocals = 3) (hts : ∀ w ∈ WG, w.before args s = true) (hown : s.vm.findClass "Ballothall$Poll" = some m.cls) (hlocks : meth.locks = false) (hA : ∀ q, s.heap.size ≤ q → A q) (hG : KG z s) (hZ : FZ z A s) (hL : Lay E) (h : Po_isBeatingSet_2b E M x1 x2 = some (t, w2)) (k0 : t = 0 → ∀ (H : Heap) (locs : List Loc) (ls : Array Slot), va_P z.1 classes (wv z ad E M) H → va_D A (wv z ad E M) → va_S A s.heap H locs → lv_has ls 3 [(0, .ref (ad 41)), (1, .int (oI x1)), (2, .int (oI w2))] → W p l e (rmK 1 41 0 0) s m args below meth c H locs 0 0 Q (F0 m 2 ls [])) (k1 : t = 1 → ∀ (H : Heap) (locs : List Loc) (ls : Array Slot), va_P z.1 classes (wv z ad E M) H → va_D A (wv z ad E M) → va_S A s.heap H locs → lv_has ls 3 [] → W p l e (rmK 1 41 0 0) s m args below meth c H locs 0 0 Q (F0 m 36 ls [])) (k2 : t = 2 → ∀ (H : Heap) (locs : List Loc) (ls : Array Slot), va_P z.1 classes (wv z ad E M) H → va_D A (wv z ad E M) → va_S A s.heap H locs → lv_has ls 3 [] → W p l e (rmK 1 41 0 0) s m args below meth c H locs 0 0 Q (F0 m 44 ls [])) : ∀ (H : Heap) (locs : List Loc) (ls : Array Slot), va_P z.1 classes (wv z ad E M) H → va_D A (wv z ad E M) → va_S A s.heap H locs → lv_has ls 3 [(0, .ref (ad 41)), (1, .int (oI x1)), (2, .int (oI x2))] → W p l e (rmK 1 41 0 0) s m args below meth c H locs 0 0 Q (F0 m 2 ls []) := by
  intro H locs ls hP hD hS hl
  unfold Po_isBeatingSet_2b at h
  refine lv_iload_n hx hb d_11_11_2 rfl (lv_at hl 2 rfl) ?_
  refine lv_aload_n hx hb d_11_11_3 rfl (lv_at hl 0 rfl) ?_
  refine m_gr (j := 2) (C := "Ballothall$Poll") (T := TX9) (N := 12) (ci := 9) (k := 0) hx hb hts iX9 hown hG hP (yi_41 hL) (yt_41 hL) rfl (by decide) w_107 (fun _ h9 => h9) rfl rfl (yr_41_0 hL) d_11_11_4 ?_
  refine m_giN (C := "Ballothall$BallotBox") (T := TX0) (N := 10) (ci := 0) (k := 2) hx hb hts iX0 hown hG hP (yi_2 hL) (yt_2 hL) rfl (by decide) n_53 rfl (fun _ h9 => h9) rfl rfl d_11_11_7 ?_
  obtain ⟨ok100, h⟩ := ck_e h
  obtain ⟨ok101, h⟩ := ck_e h
  refine lv_icmp_ge (tgt := 44) hx hb d_11_11_10 (by decide) (fun c9 => ?_) (fun c9 => ?_)
  · have h := ite_t ((oI_le (a := (M 2 2)) (b := x2) ok101 ok100).mp c9) h
    obtain ⟨rfl, rfl⟩ := in2 h
    exact k2 rfl H locs ls hP hD hS (lv_sub hl [] rfl)
  · have h := ite_f (fun q => c9 ((oI_le (a := (M 2 2)) (b := x2) ok101 ok100).mpr q)) h
    refine lv_iload_n hx hb d_11_11_13 rfl (lv_at hl 1 rfl) ?_
    refine lv_iload_n hx hb d_11_11_14 rfl (lv_at hl 2 rfl) ?_
    obtain ⟨r102, g102, h⟩ := bd_e h
    refine kSN (As := [.int (oI x1), .int (oI x2)]) (rest := []) (s_B_has l z ad E M x1 x2 r102 hL g102) hx hb hml hown hts w_693 n_691 w_692 w_1 md_26545c ⟨Nat.le_of_ble_eq_true rfl, Nat.le_of_ble_eq_true rfl⟩ hG hZ hP hD hS hA rfl hl.1 rfl (Nat.le_of_ble_eq_true rfl) d_11_11_15 ⟨Nat.le_of_ble_eq_true rfl, Nat.le_of_ble_eq_true rfl⟩ (fun _ H locs hP hD hS => ?_)
    have hP : va_P z.1 classes (wv z ad E M) H := hP
    have hD : va_D A (wv z ad E M) := hD
    refine W.eq (g2 := F0 m 18 ls [.int (oI r102)]) rfl ?_
    obtain ⟨ok103, h⟩ := ck_e h
    refine lv_if_eq (tgt := 38) hx hb d_11_11_18 (by decide) (fun c9 => ?_) (fun c9 => ?_)
    · have h := ite_t ((oI_eq0 ok103).mp c9) h
      refine lv_iinc (v := oI (x2 + 1)) (lv' := [(2, .int (oI (x2 + 1))), (0, .ref (ad 41)), (1, .int (oI x1))]) hx hb d_11_11_38 hl (k := 2) rfl (oI_add x2 1) (by decide) rfl (fun ls hl => ?_)
      refine lv_goto (tgt := 2) hx hb d_11_11_41 (by decide) ?_
      obtain ⟨rfl, rfl⟩ := in2 h
      exact k0 rfl H locs ls hP hD hS (lv_sub hl [1, 2, 0] rfl)
    · have h := ite_f (fun q => c9 ((oI_eq0 ok103).mpr q)) h
      refine lv_aload_n hx hb d_11_11_21 rfl (lv_at hl 0 rfl) ?_
      refine m_gr (j := 46) (C := "Ballothall$Poll") (T := TX9) (N := 12) (ci := 9) (k := 7) hx hb hts iX9 hown hG hP (yi_41 hL) (yt_41 hL) rfl (by decide) w_114 (fun _ h9 => h9) rfl rfl (yr_41_7 hL) d_11_11_22 ?_
      refine lv_iload_n hx hb d_11_11_25 rfl (lv_at hl 2 rfl) ?_
      obtain ⟨ok104, h⟩ := ck_e h
      refine m_ia hx hb hG hP (yi_46 hL) (yt_46 hL) ok104 d_11_11_26 ?_
      refine lv_iload_n hx hb d_11_11_27 rfl (lv_at hl 1 rfl) ?_
      obtain ⟨ok105, h⟩ := ck_e h
      obtain ⟨ok106, h⟩ := ck_e h
      refine lv_ior hx hb d_11_11_28 ?_
      refine nrm (oI_or (a := (M 46 x2.toNat)) (b := x1) ok105.1 ok105.2 ok106.1 ok106.2) ?_
      refine lv_aload_n hx hb d_11_11_29 rfl (lv_at hl 0 rfl) ?_
      refine m_gi (C := "Ballothall$Poll") (T := TX9) (N := 12) (ci := 9) (k := 1) hx hb hts iX9 hown hG hP (yi_41 hL) (yt_41 hL) rfl (by decide) w_108 (fun _ h9 => h9) rfl rfl d_11_11_30 ?_
      obtain ⟨ok107, h⟩ := ck_e h
      obtain ⟨ok108, h⟩ := ck_e h
      refine lv_icmp_eq (tgt := 38) hx hb d_11_11_33 (by decide) (fun c9 => ?_) (fun c9 => ?_)
      · have h := ite_t ((oI_eq (a := (orI (M 46 x2.toNat) x1)) (b := (M 41 1)) ok107 ok108).mp c9) h
        refine lv_iinc (v := oI (x2 + 1)) (lv' := [(2, .int (oI (x2 + 1))), (0, .ref (ad 41)), (1, .int (oI x1))]) hx hb d_11_11_38 hl (k := 2) rfl (oI_add x2 1) (by decide) rfl (fun ls hl => ?_)
        refine lv_goto (tgt := 2) hx hb d_11_11_41 (by decide) ?_
        obtain ⟨rfl, rfl⟩ := in2 h
        exact k0 rfl H locs ls hP hD hS (lv_sub hl [1, 2, 0] rfl)
      · have h := ite_f (fun q => c9 ((oI_eq (a := (orI (M 46 x2.toNat) x1)) (b := (M 41 1)) ok107 ok108).mpr q)) h
        obtain ⟨rfl, rfl⟩ := in2 h
        exact k1 rfl H locs ls hP hD hS (lv_sub hl [] rfl)
set_option maxRecDepth 100000 in
set_option maxHeartbeats 4000000 in
theorem s_Po_isBeatingSet_2 (l : Launch) (z : Zz) (ad : Nat → Nat) (E : Ev) (x1 : Int) {Q : State → Prop} {p : Program} {e : Env} {s : State} {m : MethodId} {below : List Frame} {meth : Method} {c : Code} {A : Nat → Prop} {args : Array Value} (hx : p.tables.exec = Jvm.exec) (hb : c.code = prog_11_method_11_code) (hml : c.maxLocals = 3) (hts : ∀ w ∈ WG, w.before args s = true) (hown : s.vm.findClass "Ballothall$Poll" = some m.cls) (hlocks : meth.locks = false) (hA : ∀ q, s.heap.size ≤ q → A q) (hG : KG z s) (hZ : FZ z A s) (hL : Lay E) : ∀ (fu : Nat) (M : Mm) (x2 : Int) (t : Nat) (w2 : Int), l_Po_isBeatingSet_2 E x1 fu M x2 = some (t, w2) → (t = 1 → ∀ (H : Heap) (locs : List Loc) (ls : Array Slot), va_P z.1 classes (wv z ad E M) H → va_D A (wv z ad E M) → va_S A s.heap H locs → lv_has ls 3 [] → W p l e (rmK 1 41 0 0) s m args below meth c H locs 0 0 Q (F0 m 36 ls [])) → (t = 2 → ∀ (H : Heap) (locs : List Loc) (ls : Array Slot), va_P z.1 classes (wv z ad E M) H → va_D A (wv z ad E M) → va_S A s.heap H locs → lv_has ls 3 [] → W p l e (rmK 1 41 0 0) s m args below meth c H locs 0 0 Q (F0 m 44 ls [])) → ∀ (H : Heap) (locs : List Loc) (ls : Array Slot), va_P z.1 classes (wv z ad E M) H → va_D A (wv z ad E M) → va_S A s.heap H locs → lv_has ls 3 [(0, .ref (ad 41)), (1, .int (oI x1)), (2, .int (oI x2))] → W p l e (rmK 1 41 0 0) s m args below meth c H locs 0 0 Q (F0 m 2 ls []) := by
  intro fu
  induction fu with
  | zero =>
    intro M x2 t w2 h
    have h : (none : Option (Nat × Int)) = some _ := h
    cases h
  | succ fu ih =>
    intro M x2 t w2 h k1 k2 H locs ls hP hD hS hl
    obtain ⟨⟨t0, w20⟩, g0, h⟩ := bd_e h
    refine b_Po_isBeatingSet_2b l z ad E M x1 x2 t0 w20 hx hb hml hts hown hlocks hA hG hZ hL g0 (fun e0 => ?_) (fun e0 => ?_) (fun e0 => ?_) H locs ls hP hD hS hl
    · subst e0
      have h := ite_t rfl h
      exact ih M w20 t w2 h k1 k2
    · subst e0
      have h := ite_f (by decide) h
      obtain ⟨rfl, rfl⟩ := in2 h
      exact k1 rfl
    · subst e0
      have h := ite_f (by decide) h
      obtain ⟨rfl, rfl⟩ := in2 h
      exact k2 rfl
set_option maxRecDepth 100000 in
set_option maxHeartbeats 4000000 in
theorem s_Po_isBeatingSet (l : Launch) (z : Zz) (ad : Nat → Nat) (E : Ev) (M : Mm) (x1 : Int) (r : Int)  (hL : Lay E) (h : f_Po_isBeatingSet E M x1 = some r) : CT l z ⟨"Ballothall$Poll", "isBeatingSet", "(I)Z"⟩ prog_11_method_11_code 3 (some .boolean) [.ref (ad 41), .int (oI x1)] (wv z ad E M) 1 41 0 0 (fun _ => some (.int (oI r))) (fun _ => (wv z ad E M)) := by
  refine CT.of (own := "Ballothall$Poll") (by decide +kernel) (Nat.le_of_ble_eq_true rfl) rfl (fun p e s m below meth c A ls hx hb hml hr hts hown hlocks hin hA hG hZ hP hD hS hl => ?_)
  have hl : lv_has ls 3 [(0, .ref (ad 41)), (1, .int (oI x1))] := hl
  have key : ∀ (H : Heap) (locs : List Loc) (args : Array Value), (∀ w ∈ WG, w.before args s = true) → va_P z.1 classes (wv z ad E M) H → va_S A s.heap H locs → W p l e (rmK 1 41 0 0) s m args below meth c H locs 0 0 (MQ below (QK z A (fun _ => some (.int (oI r))) (fun _ => (wv z ad E M))) args s 0 0 A) (F0 m 0 ls []) := by
    intro H locs args hts hP hS
    unfold f_Po_isBeatingSet at h
    refine lv_iconst (v := oI 0) hx hb d_11_11_0 (by decide +kernel) ?_
    refine lv_istore_n (lv' := [(2, .int (oI 0)), (0, .ref (ad 41)), (1, .int (oI x1))]) hx hb d_11_11_1 rfl hl (by decide) rfl (fun ls hl => ?_)
    obtain ⟨⟨t109, v109_2⟩, g109, h⟩ := bd_e h
    refine s_Po_isBeatingSet_2 l z ad E x1 hx hb hml hts hown hlocks hA hG hZ hL FU M 0 t109 v109_2 g109 (fun e109 H locs ls hP hD hS hl => ?_) (fun e109 H locs ls hP hD hS hl => ?_) H locs ls hP hD hS (lv_sub hl [1, 2, 0] rfl)
    · subst e109
      have h := ite_t rfl h
      refine lv_iconst (v := oI 0) hx hb d_11_11_36 (by decide +kernel) ?_
      obtain rfl := in1 h
      exact W.zret hx hb hr rfl (fun t ht hW => qkA hP hD hS (fun k => k) rfl rfl ht) hS.2.2 d_11_11_37
    · subst e109
      have h := ite_f (by decide) h
      have h := ite_t rfl h
      refine lv_iconst (v := oI 1) hx hb d_11_11_44 (by decide +kernel) ?_
      obtain rfl := in1 h
      exact W.zret hx hb hr rfl (fun t ht hW => qkA hP hD hS (fun k => k) rfl rfl ht) hS.2.2 d_11_11_45
  exact key _ _ _ hts hP hS
set_option maxRecDepth 100000 in
set_option maxHeartbeats 4000000 in
theorem b_Po_smallestBeatingSet_11b (l : Launch) (z : Zz) (ad : Nat → Nat) (E : Ev) (M : Mm) (x1 : Int) (x2 : Int) (t : Nat) (w1 : Int) (w2 : Int) (N : Mm) {Q : State → Prop} {p : Program} {e : Env} {s : State} {m : MethodId} {below : List Frame} {meth : Method} {c : Code} {A : Nat → Prop} {args : Array Value} (hx : p.tables.exec = Jvm.exec) (hb : c.code = prog_11_method_10_code) (hml : c.maxLocals = 3) (hts : ∀ w ∈ WG, w.before args s = true) (hown : s.vm.findClass "Ballothall$Poll" = some m.cls) (hlocks : meth.locks = false) (hA : ∀ q, s.heap.size ≤ q → A q) (hG : KG z s) (hZ : FZ z A s) (hL : Lay E) (h : Po_smallestBeatingSet_11b E M x1 x2 = some (t, w1, w2, N)) (k0 : t = 0 → ∀ (H : Heap) (locs : List Loc) (ls : Array Slot), va_P z.1 classes (wv z ad E N) H → va_D A (wv z ad E N) → va_S A s.heap H locs → lv_has ls 3 [(0, .ref (ad 41)), (1, .int (oI w1)), (2, .int (oI w2))] → W p l e (rmK 3 86 0 0) s m args below meth c H locs 0 0 Q (F0 m 11 ls [])) (k1 : t = 1 → ∀ (H : Heap) (locs : List Loc) (ls : Array Slot), va_P z.1 classes (wv z ad E N) H → va_D A (wv z ad E N) → va_S A s.heap H locs → lv_has ls 3 [(1, .int (oI w1))] → W p l e (rmK 3 86 0 0) s m args below meth c H locs 0 0 Q (F0 m 46 ls [])) : ∀ (H : Heap) (locs : List Loc) (ls : Array Slot), va_P z.1 classes (wv z ad E M) H → va_D A (wv z ad E M) → va_S A s.heap H locs → lv_has ls 3 [(0, .ref (ad 41)), (1, .int (oI x1)), (2, .int (oI x2))] → W p l e (rmK 3 86 0 0) s m args below meth c H locs 0 0 Q (F0 m 11 ls []) := by
  intro H locs ls hP hD hS hl
  unfold Po_smallestBeatingSet_11b at h
  refine lv_iload_n hx hb d_11_10_11 rfl (lv_at hl 2 rfl) ?_
  refine lv_aload_n hx hb d_11_10_12 rfl (lv_at hl 0 rfl) ?_
  refine m_gi (C := "Ballothall$Poll") (T := TX9) (N := 12) (ci := 9) (k := 1) hx hb hts iX9 hown hG hP (yi_41 hL) (yt_41 hL) rfl (by decide) w_108 (fun _ h9 => h9) rfl rfl d_11_10_13 ?_
  obtain ⟨ok101, h⟩ := ck_e h
  obtain ⟨ok102, h⟩ := ck_e h
  refine lv_icmp_ge (tgt := 46) hx hb d_11_10_16 (by decide) (fun c9 => ?_) (fun c9 => ?_)
  · have h := ite_t ((oI_le (a := (M 41 1)) (b := x2) ok102 ok101).mp c9) h
    obtain ⟨rfl, rfl, rfl, rfl⟩ := in4 h
    exact k1 rfl H locs ls hP hD hS (lv_sub hl [1] rfl)
  · have h := ite_f (fun q => c9 ((oI_le (a := (M 41 1)) (b := x2) ok102 ok101).mpr q)) h
    refine lv_iload_n hx hb d_11_10_19 rfl (lv_at hl 2 rfl) ?_
    obtain ⟨r103, g103, h⟩ := bd_e h
    refine kS (As := [.int (oI x2)]) (rest := []) (s_In_bitCount l z ad E M x2 r103 hL g103) hx hb hml hown hts w_657 w_1318 w_656 w_30 md_eafe8c ⟨Nat.le_of_ble_eq_true rfl, Nat.le_of_ble_eq_true rfl⟩ hG hZ hP hD hS hA rfl hl.1 rfl (Nat.le_of_ble_eq_true rfl) d_11_10_20 ⟨Nat.le_of_ble_eq_true rfl, Nat.le_of_ble_eq_true rfl⟩ (fun _ H locs hP hD hS => ?_)
    have hP : va_P z.1 classes (wv z ad E M) H := hP
    have hD : va_D A (wv z ad E M) := hD
    refine W.eq (g2 := F0 m 23 ls [.int (oI r103)]) rfl ?_
    refine lv_iload_n hx hb d_11_10_23 rfl (lv_at hl 1 rfl) ?_
    obtain ⟨r104, g104, h⟩ := bd_e h
    refine kS (As := [.int (oI x1)]) (rest := [.int (oI r103)]) (s_In_bitCount l z ad E M x1 r104 hL g104) hx hb hml hown hts w_657 w_1318 w_656 w_30 md_eafe8c ⟨Nat.le_of_ble_eq_true rfl, Nat.le_of_ble_eq_true rfl⟩ hG hZ hP hD hS hA rfl hl.1 rfl (Nat.le_of_ble_eq_true rfl) d_11_10_24 ⟨Nat.le_of_ble_eq_true rfl, Nat.le_of_ble_eq_true rfl⟩ (fun _ H locs hP hD hS => ?_)
    have hP : va_P z.1 classes (wv z ad E M) H := hP
    have hD : va_D A (wv z ad E M) := hD
    refine W.eq (g2 := F0 m 27 ls [.int (oI r104), .int (oI r103)]) rfl ?_
    obtain ⟨ok105, h⟩ := ck_e h
    obtain ⟨ok106, h⟩ := ck_e h
    refine lv_icmp_ge (tgt := 40) hx hb d_11_10_27 (by decide) (fun c9 => ?_) (fun c9 => ?_)
    · have h := ite_t ((oI_le (a := r104) (b := r103) ok106 ok105).mp c9) h
      refine lv_iinc (v := oI (x2 + 1)) (lv' := [(2, .int (oI (x2 + 1))), (0, .ref (ad 41)), (1, .int (oI x1))]) hx hb d_11_10_40 hl (k := 2) rfl (oI_add x2 1) (by decide) rfl (fun ls hl => ?_)
      refine lv_goto (tgt := 11) hx hb d_11_10_43 (by decide) ?_
      obtain ⟨rfl, rfl, rfl, rfl⟩ := in4 h
      exact k0 rfl H locs ls hP hD hS (lv_sub hl [1, 2, 0] rfl)
    · have h := ite_f (fun q => c9 ((oI_le (a := r104) (b := r103) ok106 ok105).mpr q)) h
      refine lv_aload_n hx hb d_11_10_30 rfl (lv_at hl 0 rfl) ?_
      refine lv_iload_n hx hb d_11_10_31 rfl (lv_at hl 2 rfl) ?_
      obtain ⟨r107, g107, h⟩ := bd_e h
      refine kV (As := [.int (oI x2)]) (rest := []) (s_Po_isBeatingSet l z ad E M x2 r107 hL g107) hx hb hml hown hts w_1322 w_1319 w_1321 w_s_b73280 w_3 md_432139 ⟨Nat.le_of_ble_eq_true rfl, Nat.le_of_ble_eq_true rfl⟩ hG hZ hP hD hS hA 41 (wv_o (ci := 9) (yi_41 hL) (yt_41 hL)) rfl rfl rfl hl.1 rfl (Nat.le_of_ble_eq_true rfl) d_11_10_32 ⟨Nat.le_of_ble_eq_true rfl, Nat.le_of_ble_eq_true rfl⟩ (fun _ H locs hP hD hS => ?_)
      have hP : va_P z.1 classes (wv z ad E M) H := hP
      have hD : va_D A (wv z ad E M) := hD
      refine W.eq (g2 := F0 m 35 ls [.int (oI r107)]) rfl ?_
      obtain ⟨ok108, h⟩ := ck_e h
      refine lv_if_eq (tgt := 40) hx hb d_11_10_35 (by decide) (fun c9 => ?_) (fun c9 => ?_)
      · have h := ite_t ((oI_eq0 ok108).mp c9) h
        refine lv_iinc (v := oI (x2 + 1)) (lv' := [(2, .int (oI (x2 + 1))), (0, .ref (ad 41)), (1, .int (oI x1))]) hx hb d_11_10_40 hl (k := 2) rfl (oI_add x2 1) (by decide) rfl (fun ls hl => ?_)
        refine lv_goto (tgt := 11) hx hb d_11_10_43 (by decide) ?_
        obtain ⟨rfl, rfl, rfl, rfl⟩ := in4 h
        exact k0 rfl H locs ls hP hD hS (lv_sub hl [1, 2, 0] rfl)
      · have h := ite_f (fun q => c9 ((oI_eq0 ok108).mpr q)) h
        refine lv_iload_n hx hb d_11_10_38 rfl (lv_at hl 2 rfl) ?_
        refine lv_istore_n (lv' := [(1, .int (oI x2)), (0, .ref (ad 41)), (2, .int (oI x2))]) hx hb d_11_10_39 rfl hl (by decide) rfl (fun ls hl => ?_)
        refine lv_iinc (v := oI (x2 + 1)) (lv' := [(2, .int (oI (x2 + 1))), (1, .int (oI x2)), (0, .ref (ad 41))]) hx hb d_11_10_40 hl (k := 2) rfl (oI_add x2 1) (by decide) rfl (fun ls hl => ?_)
        refine lv_goto (tgt := 11) hx hb d_11_10_43 (by decide) ?_
        obtain ⟨rfl, rfl, rfl, rfl⟩ := in4 h
        exact k0 rfl H locs ls hP hD hS (lv_sub hl [2, 1, 0] rfl)
set_option maxRecDepth 100000 in
set_option maxHeartbeats 4000000 in
theorem s_Po_smallestBeatingSet_11 (l : Launch) (z : Zz) (ad : Nat → Nat) (E : Ev) {Q : State → Prop} {p : Program} {e : Env} {s : State} {m : MethodId} {below : List Frame} {meth : Method} {c : Code} {A : Nat → Prop} {args : Array Value} (hx : p.tables.exec = Jvm.exec) (hb : c.code = prog_11_method_10_code) (hml : c.maxLocals = 3) (hts : ∀ w ∈ WG, w.before args s = true) (hown : s.vm.findClass "Ballothall$Poll" = some m.cls) (hlocks : meth.locks = false) (hA : ∀ q, s.heap.size ≤ q → A q) (hG : KG z s) (hZ : FZ z A s) (hL : Lay E) : ∀ (fu : Nat) (M : Mm) (x1 : Int) (x2 : Int) (t : Nat) (w1 : Int) (w2 : Int) (N : Mm), l_Po_smallestBeatingSet_11 E fu M x1 x2 = some (t, w1, w2, N) → (t = 1 → ∀ (H : Heap) (locs : List Loc) (ls : Array Slot), va_P z.1 classes (wv z ad E N) H → va_D A (wv z ad E N) → va_S A s.heap H locs → lv_has ls 3 [(1, .int (oI w1))] → W p l e (rmK 3 86 0 0) s m args below meth c H locs 0 0 Q (F0 m 46 ls [])) → ∀ (H : Heap) (locs : List Loc) (ls : Array Slot), va_P z.1 classes (wv z ad E M) H → va_D A (wv z ad E M) → va_S A s.heap H locs → lv_has ls 3 [(0, .ref (ad 41)), (1, .int (oI x1)), (2, .int (oI x2))] → W p l e (rmK 3 86 0 0) s m args below meth c H locs 0 0 Q (F0 m 11 ls []) := by
  intro fu
  induction fu with
  | zero =>
    intro M x1 x2 t w1 w2 N h
    have h : (none : Option (Nat × Int × Int × Mm)) = some _ := h
    cases h
  | succ fu ih =>
    intro M x1 x2 t w1 w2 N h k1 H locs ls hP hD hS hl
    obtain ⟨⟨t0, w10, w20, N9⟩, g0, h⟩ := bd_e h
    refine b_Po_smallestBeatingSet_11b l z ad E M x1 x2 t0 w10 w20 N9 hx hb hml hts hown hlocks hA hG hZ hL g0 (fun e0 => ?_) (fun e0 => ?_) H locs ls hP hD hS hl
    · subst e0
      have h := ite_t rfl h
      exact ih N9 w10 w20 t w1 w2 N h k1
    · subst e0
      have h := ite_f (by decide) h
      obtain ⟨rfl, rfl, rfl, rfl⟩ := in4 h
      exact k1 rfl
set_option maxRecDepth 100000 in
set_option maxHeartbeats 4000000 in
theorem s_Po_smallestBeatingSet (l : Launch) (z : Zz) (ad : Nat → Nat) (E : Ev) (M : Mm) (r : Int) (N : Mm) (hL : Lay E) (h : f_Po_smallestBeatingSet E M = some (r, N)) : CT l z ⟨"Ballothall$Poll", "smallestBeatingSet", "()I"⟩ prog_11_method_10_code 3 (some .int) [.ref (ad 41)] (wv z ad E M) 3 86 0 0 (fun _ => some (.int (oI r))) (fun _ => (wv z ad E N)) := by
  refine CT.of (own := "Ballothall$Poll") (by decide +kernel) (Nat.le_of_ble_eq_true rfl) rfl (fun p e s m below meth c A ls hx hb hml hr hts hown hlocks hin hA hG hZ hP hD hS hl => ?_)
  have hl : lv_has ls 3 [(0, .ref (ad 41))] := hl
  have key : ∀ (H : Heap) (locs : List Loc) (args : Array Value), (∀ w ∈ WG, w.before args s = true) → va_P z.1 classes (wv z ad E M) H → va_S A s.heap H locs → W p l e (rmK 3 86 0 0) s m args below meth c H locs 0 0 (MQ below (QK z A (fun _ => some (.int (oI r))) (fun _ => (wv z ad E N))) args s 0 0 A) (F0 m 0 ls []) := by
    intro H locs args hts hP hS
    unfold f_Po_smallestBeatingSet at h
    refine lv_aload_n hx hb d_11_10_0 rfl (lv_at hl 0 rfl) ?_
    obtain ⟨M100, g100, h⟩ := bd_e h
    refine kV (As := []) (rest := []) (s_Po_findBeaten l z ad E M M100 hL g100) hx hb hml hown hts w_701 w_698 w_700 w_s_e198c6 w_3 md_a5c5f2 ⟨Nat.le_of_ble_eq_true rfl, Nat.le_of_ble_eq_true rfl⟩ hG hZ hP hD hS hA 41 (wv_o (ci := 9) (yi_41 hL) (yt_41 hL)) rfl rfl rfl hl.1 rfl (Nat.le_of_ble_eq_true rfl) d_11_10_1 ⟨Nat.le_of_ble_eq_true rfl, Nat.le_of_ble_eq_true rfl⟩ (fun _ H locs hP hD hS => ?_)
    have hP : va_P z.1 classes (wv z ad E M100) H := hP
    have hD : va_D A (wv z ad E M100) := hD
    refine W.eq (g2 := F0 m 4 ls []) rfl ?_
    refine lv_aload_n hx hb d_11_10_4 rfl (lv_at hl 0 rfl) ?_
    refine m_gi (C := "Ballothall$Poll") (T := TX9) (N := 12) (ci := 9) (k := 1) hx hb hts iX9 hown hG hP (yi_41 hL) (yt_41 hL) rfl (by decide) w_108 (fun _ h9 => h9) rfl rfl d_11_10_5 ?_
    refine lv_istore_n (lv' := [(1, .int (oI (M100 41 1))), (0, .ref (ad 41))]) hx hb d_11_10_8 rfl hl (by decide) rfl (fun ls hl => ?_)
    refine lv_iconst (v := oI 1) hx hb d_11_10_9 (by decide +kernel) ?_
    refine lv_istore_n (lv' := [(2, .int (oI 1)), (1, .int (oI (M100 41 1))), (0, .ref (ad 41))]) hx hb d_11_10_10 rfl hl (by decide) rfl (fun ls hl => ?_)
    obtain ⟨⟨t109, v109_1, v109_2, M109⟩, g109, h⟩ := bd_e h
    obtain ⟨ok109, h⟩ := ck_e h
    refine s_Po_smallestBeatingSet_11 l z ad E hx hb hml hts hown hlocks hA hG hZ hL FU M100 (M100 41 1) 1 t109 v109_1 v109_2 M109 g109 (fun e109 H locs ls hP hD hS hl => ?_) H locs ls hP hD hS (lv_sub hl [2, 1, 0] rfl)
    refine lv_iload_n hx hb d_11_10_46 rfl (lv_at hl 0 rfl) ?_
    obtain ⟨rfl, rfl⟩ := in2 h
    exact W.iret hx hb hr (fun t ht hW => qkA hP hD hS (fun k => k) rfl rfl ht) hS.2.2 d_11_10_47
  exact key _ _ _ hts hP hS
set_option maxRecDepth 100000 in
set_option maxHeartbeats 4000000 in
theorem s_B_beatingSet (l : Launch) (z : Zz) (ad : Nat → Nat) (E : Ev) (M : Mm) (r : Int) (N : Mm) (hL : Lay E) (h : f_B_beatingSet E M = some (r, N)) : CT l z ⟨"Ballothall", "beatingSet", "()I"⟩ prog_1_method_29_code 1 (some .int) [.ref (ad 1)] (wv z ad E M) 4 115 0 0 (fun _ => some (.int (oI r))) (fun _ => (wv z ad E N)) := by
  refine CT.of (own := "Ballothall") (by decide +kernel) (Nat.le_of_ble_eq_true rfl) rfl (fun p e s m below meth c A ls hx hb hml hr hts hown hlocks hin hA hG hZ hP hD hS hl => ?_)
  have hl : lv_has ls 1 [(0, .ref (ad 1))] := hl
  have key : ∀ (H : Heap) (locs : List Loc) (args : Array Value), (∀ w ∈ WG, w.before args s = true) → va_P z.1 classes (wv z ad E M) H → va_S A s.heap H locs → W p l e (rmK 4 115 0 0) s m args below meth c H locs 0 0 (MQ below (QK z A (fun _ => some (.int (oI r))) (fun _ => (wv z ad E N))) args s 0 0 A) (F0 m 0 ls []) := by
    intro H locs args hts hP hS
    unfold f_B_beatingSet at h
    refine lv_aload_n hx hb d_1_29_0 rfl (lv_at hl 0 rfl) ?_
    refine m_gr (j := 41) (C := "Ballothall") (T := TX11) (N := 14) (ci := 11) (k := 1) hx hb hts iX11 hown hG hP (yi_1 hL) (yt_1 hL) rfl (by decide) w_398 (fun _ h9 => h9) rfl rfl (yr_1_1 hL) d_1_29_1 ?_
    refine lv_aload_n hx hb d_1_29_4 rfl (lv_at hl 0 rfl) ?_
    refine m_gr (j := 2) (C := "Ballothall") (T := TX11) (N := 14) (ci := 11) (k := 0) hx hb hts iX11 hown hG hP (yi_1 hL) (yt_1 hL) rfl (by decide) w_397 (fun _ h9 => h9) rfl rfl (yr_1_0 hL) d_1_29_5 ?_
    obtain ⟨r100, g100, h⟩ := bd_e h
    refine kVN (As := []) (rest := [.ref (ad 41)]) (s_Bx_everybody l z ad E M r100 hL g100) hx hb hml hown hts w_668 n_665 w_667 w_s_8b8b67 w_2 md_b59579 ⟨Nat.le_of_ble_eq_true rfl, Nat.le_of_ble_eq_true rfl⟩ hG hZ hP hD hS hA 2 (wv_o (ci := 0) (yi_2 hL) (yt_2 hL)) rfl rfl rfl hl.1 rfl (Nat.le_of_ble_eq_true rfl) d_1_29_8 ⟨Nat.le_of_ble_eq_true rfl, Nat.le_of_ble_eq_true rfl⟩ (fun _ H locs hP hD hS => ?_)
    have hP : va_P z.1 classes (wv z ad E M) H := hP
    have hD : va_D A (wv z ad E M) := hD
    refine W.eq (g2 := F0 m 11 ls [.int (oI r100), .ref (ad 41)]) rfl ?_
    obtain ⟨M101, g101, h⟩ := bd_e h
    refine kVN (As := [.int (oI r100)]) (rest := []) (s_Po_open l z ad E M r100 M101 hL g101) hx hb hml hown hts w_672 n_669 w_671 w_s_229dc4 w_3 md_60bc9b ⟨Nat.le_of_ble_eq_true rfl, Nat.le_of_ble_eq_true rfl⟩ hG hZ hP hD hS hA 41 (wv_o (ci := 9) (yi_41 hL) (yt_41 hL)) rfl rfl rfl hl.1 rfl (Nat.le_of_ble_eq_true rfl) d_1_29_11 ⟨Nat.le_of_ble_eq_true rfl, Nat.le_of_ble_eq_true rfl⟩ (fun _ H locs hP hD hS => ?_)
    have hP : va_P z.1 classes (wv z ad E M101) H := hP
    have hD : va_D A (wv z ad E M101) := hD
    refine W.eq (g2 := F0 m 14 ls []) rfl ?_
    refine lv_aload_n hx hb d_1_29_14 rfl (lv_at hl 0 rfl) ?_
    refine m_gr (j := 41) (C := "Ballothall") (T := TX11) (N := 14) (ci := 11) (k := 1) hx hb hts iX11 hown hG hP (yi_1 hL) (yt_1 hL) rfl (by decide) w_398 (fun _ h9 => h9) rfl rfl (yr_1_1 hL) d_1_29_15 ?_
    obtain ⟨⟨r102, M102⟩, g102, h⟩ := bd_e h
    refine kVN (As := []) (rest := []) (s_Po_smallestBeatingSet l z ad E M101 r102 M102 hL g102) hx hb hml hown hts w_1317 n_1314 w_1316 w_s_300997 w_3 md_be21d8 ⟨Nat.le_of_ble_eq_true rfl, Nat.le_of_ble_eq_true rfl⟩ hG hZ hP hD hS hA 41 (wv_o (ci := 9) (yi_41 hL) (yt_41 hL)) rfl rfl rfl hl.1 rfl (Nat.le_of_ble_eq_true rfl) d_1_29_18 ⟨Nat.le_of_ble_eq_true rfl, Nat.le_of_ble_eq_true rfl⟩ (fun _ H locs hP hD hS => ?_)
    have hP : va_P z.1 classes (wv z ad E M102) H := hP
    have hD : va_D A (wv z ad E M102) := hD
    refine W.eq (g2 := F0 m 21 ls [.int (oI r102)]) rfl ?_
    obtain ⟨rfl, rfl⟩ := in2 h
    exact W.iret hx hb hr (fun t ht hW => qkA hP hD hS (fun k => k) rfl rfl ht) hS.2.2 d_1_29_21
  exact key _ _ _ hts hP hS
set_option maxRecDepth 100000 in
set_option maxHeartbeats 4000000 in
theorem b_La_way_D0_6b (l : Launch) (z : Zz) (ad : Nat → Nat) (E : Ev) (M : Mm) (q0 : Nat) (x1 : Int) (x2 : Int) (x3 : Int) (x4 : Int) (x5 : Int) (t : Nat) (w4 : Int) (w5 : Int)  {Q : State → Prop} {p : Program} {e : Env} {s : State} {m : MethodId} {below : List Frame} {meth : Method} {c : Code} {A : Nat → Prop} {args : Array Value} (hx : p.tables.exec = Jvm.exec) (hb : c.code = method_8_code) (hml : c.maxLocals = 7) (hts : ∀ w ∈ WG, w.before args s = true) (hown : s.vm.findClass "BallothallLaw" = some m.cls) (hlocks : meth.locks = false) (hA : ∀ q, s.heap.size ≤ q → A q) (hG : KG z s) (hZ : FZ z A s) (hL : Lay E) (h : La_way_D0_6b E M q0 x1 x2 x3 x4 x5 = some (t, w4, w5)) (k0 : t = 0 → ∀ (H : Heap) (locs : List Loc) (ls : Array Slot), va_P z.1 classes (wv z ad E M) H → va_D A (wv z ad E M) → va_S A s.heap H locs → lv_has ls 7 [(0, .ref (ad q0)), (1, .int (oI x1)), (2, .int (oI x2)), (3, .int (oI x3)), (4, .int (oI w4)), (5, .int (oI w5))] → W p l e (rmK 1 40 0 0) s m args below meth c H locs 0 0 Q (F0 m 6 ls [])) (k1 : t = 1 → ∀ (H : Heap) (locs : List Loc) (ls : Array Slot), va_P z.1 classes (wv z ad E M) H → va_D A (wv z ad E M) → va_S A s.heap H locs → lv_has ls 7 [(0, .ref (ad q0)), (1, .int (oI x1)), (2, .int (oI x2)), (3, .int (oI x3)), (5, .int (oI w5))] → W p l e (rmK 1 40 0 0) s m args below meth c H locs 0 0 Q (F0 m 56 ls [])) (k2 : t = 2 → ∀ (H : Heap) (locs : List Loc) (ls : Array Slot), va_P z.1 classes (wv z ad E M) H → va_D A (wv z ad E M) → va_S A s.heap H locs → lv_has ls 7 [(4, .int (oI w4))] → W p l e (rmK 1 40 0 0) s m args below meth c H locs 0 0 Q (F0 m 95 ls [])) : ∀ (H : Heap) (locs : List Loc) (ls : Array Slot), va_P z.1 classes (wv z ad E M) H → va_D A (wv z ad E M) → va_S A s.heap H locs → lv_has ls 7 [(0, .ref (ad q0)), (1, .int (oI x1)), (2, .int (oI x2)), (3, .int (oI x3)), (4, .int (oI x4)), (5, .int (oI x5))] → W p l e (rmK 1 40 0 0) s m args below meth c H locs 0 0 Q (F0 m 6 ls []) := by
  intro H locs ls hP hD hS hl
  unfold La_way_D0_6b at h
  obtain ⟨h_q0, h⟩ := ck_e h
  refine lv_iload hx hb d_L8_6 (lv_at hl 5 rfl) ?_
  refine lv_aload_n hx hb d_L8_8 rfl (lv_at hl 0 rfl) ?_
  refine m_lenA (v := ((tE E q0).2 : Int)) hx hb hG hP h_q0.1 (isQ_T h_q0) (len_oI _) d_L8_9 ?_
  obtain ⟨ok100, h⟩ := ck_e h
  obtain ⟨ok101, h⟩ := ck_e h
  refine lv_icmp_ge (tgt := 95) hx hb d_L8_10 (by decide) (fun c9 => ?_) (fun c9 => ?_)
  · have h := ite_t ((oI_le (a := ((tE E q0).2 : Int)) (b := x5) ok101 ok100).mp c9) h
    obtain ⟨rfl, rfl, rfl⟩ := in3 h
    exact k2 rfl H locs ls hP hD hS (lv_sub hl [4] rfl)
  · have h := ite_f (fun q => c9 ((oI_le (a := ((tE E q0).2 : Int)) (b := x5) ok101 ok100).mpr q)) h
    refine lv_iload_n hx hb d_L8_13 rfl (lv_at hl 3 rfl) ?_
    refine lv_iload hx hb d_L8_14 (lv_at hl 5 rfl) ?_
    obtain ⟨ok102, h⟩ := ck_e h
    obtain ⟨ok103, h⟩ := ck_e h
    refine lv_ishr hx hb d_L8_16 ?_
    refine nrm (oI_shr (a := x3) ok102 ok103.1 ok103.2) ?_
    refine lv_iconst (v := oI 1) hx hb d_L8_17 (by decide +kernel) ?_
    refine lv_iand hx hb d_L8_18 ?_
    refine nrm (oI_m1 _) ?_
    refine lv_iconst (v := oI 1) hx hb d_L8_19 (by decide +kernel) ?_
    refine lv_icmp_eq (tgt := 89) hx hb d_L8_20 (by decide) (fun c9 => ?_) (fun c9 => ?_)
    · have h := ite_t ((oI_eq (a := ((x3 / 2 ^ x5.toNat) % 2)) (b := (1 : Int)) ⟨by omega, by omega⟩ (by decide)).mp c9) h
      refine lv_iinc (v := oI (x5 + 1)) (lv' := [(5, .int (oI (x5 + 1))), (0, .ref (ad q0)), (1, .int (oI x1)), (2, .int (oI x2)), (3, .int (oI x3)), (4, .int (oI x4))]) hx hb d_L8_89 hl (k := 5) rfl (oI_add x5 1) (by decide) rfl (fun ls hl => ?_)
      refine lv_goto (tgt := 6) hx hb d_L8_92 (by decide) ?_
      obtain ⟨rfl, rfl, rfl⟩ := in3 h
      exact k0 rfl H locs ls hP hD hS (lv_sub hl [1, 2, 3, 4, 5, 0] rfl)
    · have h := ite_f (fun q => c9 ((oI_eq (a := ((x3 / 2 ^ x5.toNat) % 2)) (b := (1 : Int)) ⟨by omega, by omega⟩ (by decide)).mpr q)) h
      refine lv_aload_n hx hb d_L8_23 rfl (lv_at hl 0 rfl) ?_
      refine lv_iload_n hx hb d_L8_24 rfl (lv_at hl 1 rfl) ?_
      obtain ⟨ok104, h⟩ := ck_e h
      obtain ⟨p105, g105, h⟩ := bd_e h
      obtain ⟨h_p105, h⟩ := ck_e h
      refine m_ar (k := p105) hx hb hG hP h_q0.1 (isQ_T h_q0) ok104 g105 d_L8_25 ?_
      refine lv_iload hx hb d_L8_26 (lv_at hl 5 rfl) ?_
      obtain ⟨ok106, h⟩ := ck_e h
      refine m_ia hx hb hG hP h_p105.1 (isIA_T h_p105) ok106 d_L8_28 ?_
      refine lv_aload_n hx hb d_L8_29 rfl (lv_at hl 0 rfl) ?_
      refine lv_iload hx hb d_L8_30 (lv_at hl 5 rfl) ?_
      obtain ⟨ok107, h⟩ := ck_e h
      obtain ⟨p108, g108, h⟩ := bd_e h
      obtain ⟨h_p108, h⟩ := ck_e h
      refine m_ar (k := p108) hx hb hG hP h_q0.1 (isQ_T h_q0) ok107 g108 d_L8_32 ?_
      refine lv_iload_n hx hb d_L8_33 rfl (lv_at hl 1 rfl) ?_
      obtain ⟨ok109, h⟩ := ck_e h
      refine m_ia hx hb hG hP h_p108.1 (isIA_T h_p108) ok109 d_L8_34 ?_
      obtain ⟨ok110, h⟩ := ck_e h
      obtain ⟨ok111, h⟩ := ck_e h
      refine lv_icmp_gt (tgt := 41) hx hb d_L8_35 (by decide) (fun c9 => ?_) (fun c9 => ?_)
      · have h := ite_t ((oI_lt (a := (M p108 x1.toNat)) (b := (M p105 x5.toNat)) ok111 ok110).mp c9) h
        refine lv_iload hx hb d_L8_41 (lv_at hl 5 rfl) ?_
        refine lv_iload_n hx hb d_L8_43 rfl (lv_at hl 2 rfl) ?_
        obtain ⟨ok112, h⟩ := ck_e h
        refine lv_icmp_ne (tgt := 56) hx hb d_L8_44 (by decide) (fun c9 => ?_) (fun c9 => ?_)
        · have h := ite_f (fun q => c9 ((oI_eq (a := x5) (b := x2) ok100 ok112).mpr q)) h
          obtain ⟨rfl, rfl, rfl⟩ := in3 h
          exact k1 rfl H locs ls hP hD hS (lv_sub hl [0, 1, 2, 3, 5] rfl)
        · have h := ite_t ((oI_eq (a := x5) (b := x2) ok100 ok112).mp c9) h
          refine lv_aload_n hx hb d_L8_47 rfl (lv_at hl 0 rfl) ?_
          refine lv_iload_n hx hb d_L8_48 rfl (lv_at hl 1 rfl) ?_
          obtain ⟨p113, g113, h⟩ := bd_e h
          obtain ⟨h_p113, h⟩ := ck_e h
          refine m_ar (k := p113) hx hb hG hP h_q0.1 (isQ_T h_q0) ok104 g113 d_L8_49 ?_
          refine lv_iload hx hb d_L8_50 (lv_at hl 5 rfl) ?_
          obtain ⟨ok114, h⟩ := ck_e h
          refine m_ia hx hb hG hP h_p113.1 (isIA_T h_p113) ok114 d_L8_52 ?_
          refine lv_goto (tgt := 78) hx hb d_L8_53 (by decide) ?_
          refine lv_istore (lv' := [(6, .int (oI (M p113 x5.toNat))), (0, .ref (ad q0)), (1, .int (oI x1)), (2, .int (oI x2)), (3, .int (oI x3)), (4, .int (oI x4)), (5, .int (oI x5))]) hx hb d_L8_78 hl (by decide) rfl (fun ls hl => ?_)
          refine lv_iload hx hb d_L8_80 (lv_at hl 5 rfl) ?_
          refine lv_iload hx hb d_L8_82 (lv_at hl 0 rfl) ?_
          obtain ⟨ok115, h⟩ := ck_e h
          obtain ⟨ok116, h⟩ := ck_e h
          refine va_mmax hx hb (by rw [hml]; exact hl.1.symm) hown (hts _ w_1326) (hts _ w_632) (hts _ w_17) (hts _ w_max) (Nat.le_of_ble_eq_true rfl) (Nat.le_of_ble_eq_true rfl) (Nat.le_of_ble_eq_true rfl) (Nat.le_of_ble_eq_true rfl) d_L8_84 ?_
          refine nrm (mx_oI (a := x4) (b := (M p113 x5.toNat)) ok115 ok116) ?_
          refine lv_istore (lv' := [(4, .int (oI (max x4 (M p113 x5.toNat)))), (6, .int (oI (M p113 x5.toNat))), (0, .ref (ad q0)), (1, .int (oI x1)), (2, .int (oI x2)), (3, .int (oI x3)), (5, .int (oI x5))]) hx hb d_L8_87 hl (by decide) rfl (fun ls hl => ?_)
          refine lv_iinc (v := oI (x5 + 1)) (lv' := [(5, .int (oI (x5 + 1))), (4, .int (oI (max x4 (M p113 x5.toNat)))), (6, .int (oI (M p113 x5.toNat))), (0, .ref (ad q0)), (1, .int (oI x1)), (2, .int (oI x2)), (3, .int (oI x3))]) hx hb d_L8_89 hl (k := 6) rfl (oI_add x5 1) (by decide) rfl (fun ls hl => ?_)
          refine lv_goto (tgt := 6) hx hb d_L8_92 (by decide) ?_
          obtain ⟨rfl, rfl, rfl⟩ := in3 h
          exact k0 rfl H locs ls hP hD hS (lv_sub hl [3, 4, 5, 6, 1, 0] rfl)
      · have h := ite_f (fun q => c9 ((oI_lt (a := (M p108 x1.toNat)) (b := (M p105 x5.toNat)) ok111 ok110).mpr q)) h
        refine lv_goto (tgt := 89) hx hb d_L8_38 (by decide) ?_
        refine lv_iinc (v := oI (x5 + 1)) (lv' := [(5, .int (oI (x5 + 1))), (0, .ref (ad q0)), (1, .int (oI x1)), (2, .int (oI x2)), (3, .int (oI x3)), (4, .int (oI x4))]) hx hb d_L8_89 hl (k := 5) rfl (oI_add x5 1) (by decide) rfl (fun ls hl => ?_)
        refine lv_goto (tgt := 6) hx hb d_L8_92 (by decide) ?_
        obtain ⟨rfl, rfl, rfl⟩ := in3 h
        exact k0 rfl H locs ls hP hD hS (lv_sub hl [1, 2, 3, 4, 5, 0] rfl)
set_option maxRecDepth 100000 in
set_option maxHeartbeats 4000000 in
theorem s_La_way_D0_6 (l : Launch) (z : Zz) (ad : Nat → Nat) (E : Ev) (q0 : Nat) (x1 : Int) (x2 : Int) (x3 : Int) {Q : State → Prop} {p : Program} {e : Env} {s : State} {m : MethodId} {below : List Frame} {meth : Method} {c : Code} {A : Nat → Prop} {args : Array Value} (hx : p.tables.exec = Jvm.exec) (hb : c.code = method_8_code) (hml : c.maxLocals = 7) (hts : ∀ w ∈ WG, w.before args s = true) (hown : s.vm.findClass "BallothallLaw" = some m.cls) (hlocks : meth.locks = false) (hA : ∀ q, s.heap.size ≤ q → A q) (hG : KG z s) (hZ : FZ z A s) (hL : Lay E) : ∀ (fu : Nat) (M : Mm) (x4 : Int) (x5 : Int) (t : Nat) (w4 : Int) (w5 : Int), l_La_way_D0_6 E q0 x1 x2 x3 fu M x4 x5 = some (t, w4, w5) → (t = 1 → ∀ (H : Heap) (locs : List Loc) (ls : Array Slot), va_P z.1 classes (wv z ad E M) H → va_D A (wv z ad E M) → va_S A s.heap H locs → lv_has ls 7 [(0, .ref (ad q0)), (1, .int (oI x1)), (2, .int (oI x2)), (3, .int (oI x3)), (5, .int (oI w5))] → W p l e (rmK 1 40 0 0) s m args below meth c H locs 0 0 Q (F0 m 56 ls [])) → (t = 2 → ∀ (H : Heap) (locs : List Loc) (ls : Array Slot), va_P z.1 classes (wv z ad E M) H → va_D A (wv z ad E M) → va_S A s.heap H locs → lv_has ls 7 [(4, .int (oI w4))] → W p l e (rmK 1 40 0 0) s m args below meth c H locs 0 0 Q (F0 m 95 ls [])) → ∀ (H : Heap) (locs : List Loc) (ls : Array Slot), va_P z.1 classes (wv z ad E M) H → va_D A (wv z ad E M) → va_S A s.heap H locs → lv_has ls 7 [(0, .ref (ad q0)), (1, .int (oI x1)), (2, .int (oI x2)), (3, .int (oI x3)), (4, .int (oI x4)), (5, .int (oI x5))] → W p l e (rmK 1 40 0 0) s m args below meth c H locs 0 0 Q (F0 m 6 ls []) := by
  intro fu
  induction fu with
  | zero =>
    intro M x4 x5 t w4 w5 h
    have h : (none : Option (Nat × Int × Int)) = some _ := h
    cases h
  | succ fu ih =>
    intro M x4 x5 t w4 w5 h k1 k2 H locs ls hP hD hS hl
    obtain ⟨⟨t0, w40, w50⟩, g0, h⟩ := bd_e h
    refine b_La_way_D0_6b l z ad E M q0 x1 x2 x3 x4 x5 t0 w40 w50 hx hb hml hts hown hlocks hA hG hZ hL g0 (fun e0 => ?_) (fun e0 => ?_) (fun e0 => ?_) H locs ls hP hD hS hl
    · subst e0
      have h := ite_t rfl h
      exact ih M w40 w50 t w4 w5 h k1 k2
    · subst e0
      have h := ite_f (by decide) h
      obtain ⟨rfl, rfl, rfl⟩ := in3 h
      exact k1 rfl
    · subst e0
      have h := ite_f (by decide) h
      obtain ⟨rfl, rfl, rfl⟩ := in3 h
      exact k2 rfl
set_option maxRecDepth 100000 in
set_option maxHeartbeats 4000000 in
theorem s_La_way_D0 (l : Launch) (z : Zz) (ad : Nat → Nat) (E : Ev) (M : Mm) (p0 : Nat) (x1 : Int) (x2 : Int) (x3 : Int) (r : Int)  (hL : Lay E) (h : f_La_way_D0 E M p0 x1 x2 x3 = some r) : CT l z ⟨"BallothallLaw", "way", "([[IIII)I"⟩ method_8_code 7 (some .int) [.ref (ad p0), .int (oI x1), .int (oI x2), .int (oI x3)] (wv z ad E M) 1 40 0 0 (fun _ => some (.int (oI r))) (fun _ => (wv z ad E M)) := by
  refine CT.of (own := "BallothallLaw") (by decide +kernel) (Nat.le_of_ble_eq_true rfl) rfl (fun p e s m below meth c A ls hx hb hml hr hts hown hlocks hin hA hG hZ hP hD hS hl => ?_)
  have hl : lv_has ls 7 [(0, .ref (ad p0)), (1, .int (oI x1)), (2, .int (oI x2)), (3, .int (oI x3))] := hl
  have key : ∀ (H : Heap) (locs : List Loc) (args : Array Value), (∀ w ∈ WG, w.before args s = true) → va_P z.1 classes (wv z ad E M) H → va_S A s.heap H locs → W p l e (rmK 1 40 0 0) s m args below meth c H locs 0 0 (MQ below (QK z A (fun _ => some (.int (oI r))) (fun _ => (wv z ad E M))) args s 0 0 A) (F0 m 0 ls []) := by
    intro H locs args hts hP hS
    unfold f_La_way_D0 at h
    obtain ⟨h_p0, h⟩ := ck_e h
    refine lv_iconst (v := oI 0) hx hb d_L8_0 (by decide +kernel) ?_
    refine lv_istore (lv' := [(4, .int (oI 0)), (0, .ref (ad p0)), (1, .int (oI x1)), (2, .int (oI x2)), (3, .int (oI x3))]) hx hb d_L8_1 hl (by decide) rfl (fun ls hl => ?_)
    refine lv_iconst (v := oI 0) hx hb d_L8_3 (by decide +kernel) ?_
    refine lv_istore (lv' := [(5, .int (oI 0)), (4, .int (oI 0)), (0, .ref (ad p0)), (1, .int (oI x1)), (2, .int (oI x2)), (3, .int (oI x3))]) hx hb d_L8_4 hl (by decide) rfl (fun ls hl => ?_)
    obtain ⟨⟨t117, v117_4, v117_5⟩, g117, h⟩ := bd_e h
    refine s_La_way_D0_6 l z ad E p0 x1 x2 x3 hx hb hml hts hown hlocks hA hG hZ hL FU M 0 0 t117 v117_4 v117_5 g117 (fun e117 H locs ls hP hD hS hl => ?_) (fun e117 H locs ls hP hD hS hl => ?_) H locs ls hP hD hS (lv_sub hl [2, 3, 4, 5, 1, 0] rfl)
    · subst e117
      have h := ite_t rfl h
      refine lv_aload_n hx hb d_L8_56 rfl (lv_at hl 0 rfl) ?_
      refine lv_iload_n hx hb d_L8_57 rfl (lv_at hl 1 rfl) ?_
      obtain ⟨ok118, h⟩ := ck_e h
      obtain ⟨p119, g119, h⟩ := bd_e h
      obtain ⟨h_p119, h⟩ := ck_e h
      refine m_ar (k := p119) hx hb hG hP h_p0.1 (isQ_T h_p0) ok118 g119 d_L8_58 ?_
      refine lv_iload hx hb d_L8_59 (lv_at hl 4 rfl) ?_
      obtain ⟨ok120, h⟩ := ck_e h
      refine m_ia hx hb hG hP h_p119.1 (isIA_T h_p119) ok120 d_L8_61 ?_
      refine lv_aload_n hx hb d_L8_62 rfl (lv_at hl 0 rfl) ?_
      refine lv_iload hx hb d_L8_63 (lv_at hl 4 rfl) ?_
      refine lv_iload_n hx hb d_L8_65 rfl (lv_at hl 2 rfl) ?_
      refine lv_iload_n hx hb d_L8_66 rfl (lv_at hl 3 rfl) ?_
      refine lv_iconst (v := oI 1) hx hb d_L8_67 (by decide +kernel) ?_
      refine lv_iload hx hb d_L8_68 (lv_at hl 4 rfl) ?_
      obtain ⟨ok121, h⟩ := ck_e h
      refine lv_ishl hx hb d_L8_70 ?_
      refine nrm (oI_one_shl ok121) ?_
      obtain ⟨ok122, h⟩ := ck_e h
      obtain ⟨ok123, h⟩ := ck_e h
      refine lv_ior hx hb d_L8_71 ?_
      refine nrm (oI_or (a := x3) (b := (2 ^ v117_5.toNat)) ok122.1 ok122.2 ok123.1 ok123.2) ?_
      cases h
    · subst e117
      have h := ite_f (by decide) h
      have h := ite_t rfl h
      refine lv_iload hx hb d_L8_95 (lv_at hl 0 rfl) ?_
      obtain rfl := in1 h
      exact W.iret hx hb hr (fun t ht hW => qkA hP hD hS (fun k => k) rfl rfl ht) hS.2.2 d_L8_97
  exact key _ _ _ hts hP hS
set_option maxRecDepth 100000 in
set_option maxHeartbeats 4000000 in
theorem b_La_way_D1_j78 (l : Launch) (z : Zz) (ad : Nat → Nat) (E : Ev) (M : Mm) (q0 : Nat) (x1 : Int) (x2 : Int) (x3 : Int) (x4 : Int) (x5 : Int) (y0 : Int) (t : Nat) (w4 : Int) (w5 : Int)  {Q : State → Prop} {p : Program} {e : Env} {s : State} {m : MethodId} {below : List Frame} {meth : Method} {c : Code} {A : Nat → Prop} {args : Array Value} (hx : p.tables.exec = Jvm.exec) (hb : c.code = method_8_code) (hml : c.maxLocals = 7) (hts : ∀ w ∈ WG, w.before args s = true) (hown : s.vm.findClass "BallothallLaw" = some m.cls) (hlocks : meth.locks = false) (hA : ∀ q, s.heap.size ≤ q → A q) (hG : KG z s) (hZ : FZ z A s) (hL : Lay E) (h : La_way_D1_j78 E M q0 x1 x2 x3 x4 x5 y0 = some (t, w4, w5)) (k0 : t = 0 → ∀ (H : Heap) (locs : List Loc) (ls : Array Slot), va_P z.1 classes (wv z ad E M) H → va_D A (wv z ad E M) → va_S A s.heap H locs → lv_has ls 7 [(0, .ref (ad q0)), (1, .int (oI x1)), (2, .int (oI x2)), (3, .int (oI x3)), (4, .int (oI w4)), (5, .int (oI w5))] → W p l e (rmK 2 66 0 0) s m args below meth c H locs 0 0 Q (F0 m 6 ls [])) (k1 : t = 1 → ∀ (H : Heap) (locs : List Loc) (ls : Array Slot), va_P z.1 classes (wv z ad E M) H → va_D A (wv z ad E M) → va_S A s.heap H locs → lv_has ls 7 [(4, .int (oI w4))] → W p l e (rmK 2 66 0 0) s m args below meth c H locs 0 0 Q (F0 m 95 ls [])) : ∀ (H : Heap) (locs : List Loc) (ls : Array Slot), va_P z.1 classes (wv z ad E M) H → va_D A (wv z ad E M) → va_S A s.heap H locs → lv_has ls 7 [(0, .ref (ad q0)), (1, .int (oI x1)), (2, .int (oI x2)), (3, .int (oI x3)), (4, .int (oI x4)), (5, .int (oI x5))] → W p l e (rmK 2 66 0 0) s m args below meth c H locs 0 0 Q (F0 m 78 ls [.int (oI y0)]) := by
  intro H locs ls hP hD hS hl
  unfold La_way_D1_j78 at h
  obtain ⟨h_q0, h⟩ := ck_e h
  refine lv_istore (lv' := [(6, .int (oI y0)), (0, .ref (ad q0)), (1, .int (oI x1)), (2, .int (oI x2)), (3, .int (oI x3)), (4, .int (oI x4)), (5, .int (oI x5))]) hx hb d_L8_78 hl (by decide) rfl (fun ls hl => ?_)
  refine lv_iload hx hb d_L8_80 (lv_at hl 5 rfl) ?_
  refine lv_iload hx hb d_L8_82 (lv_at hl 0 rfl) ?_
  obtain ⟨ok121, h⟩ := ck_e h
  obtain ⟨ok122, h⟩ := ck_e h
  refine va_mmax hx hb (by rw [hml]; exact hl.1.symm) hown (hts _ w_1326) (hts _ w_632) (hts _ w_17) (hts _ w_max) (Nat.le_of_ble_eq_true rfl) (Nat.le_of_ble_eq_true rfl) (Nat.le_of_ble_eq_true rfl) (Nat.le_of_ble_eq_true rfl) d_L8_84 ?_
  refine nrm (mx_oI (a := x4) (b := y0) ok121 ok122) ?_
  refine lv_istore (lv' := [(4, .int (oI (max x4 y0))), (6, .int (oI y0)), (0, .ref (ad q0)), (1, .int (oI x1)), (2, .int (oI x2)), (3, .int (oI x3)), (5, .int (oI x5))]) hx hb d_L8_87 hl (by decide) rfl (fun ls hl => ?_)
  refine lv_iinc (v := oI (x5 + 1)) (lv' := [(5, .int (oI (x5 + 1))), (4, .int (oI (max x4 y0))), (6, .int (oI y0)), (0, .ref (ad q0)), (1, .int (oI x1)), (2, .int (oI x2)), (3, .int (oI x3))]) hx hb d_L8_89 hl (k := 6) rfl (oI_add x5 1) (by decide) rfl (fun ls hl => ?_)
  refine lv_goto (tgt := 6) hx hb d_L8_92 (by decide) ?_
  obtain ⟨rfl, rfl, rfl⟩ := in3 h
  exact k0 rfl H locs ls hP hD hS (lv_sub hl [3, 4, 5, 6, 1, 0] rfl)
set_option maxRecDepth 100000 in
set_option maxHeartbeats 4000000 in
theorem b_La_way_D1_6b (l : Launch) (z : Zz) (ad : Nat → Nat) (E : Ev) (M : Mm) (q0 : Nat) (x1 : Int) (x2 : Int) (x3 : Int) (x4 : Int) (x5 : Int) (t : Nat) (w4 : Int) (w5 : Int)  {Q : State → Prop} {p : Program} {e : Env} {s : State} {m : MethodId} {below : List Frame} {meth : Method} {c : Code} {A : Nat → Prop} {args : Array Value} (hx : p.tables.exec = Jvm.exec) (hb : c.code = method_8_code) (hml : c.maxLocals = 7) (hts : ∀ w ∈ WG, w.before args s = true) (hown : s.vm.findClass "BallothallLaw" = some m.cls) (hlocks : meth.locks = false) (hA : ∀ q, s.heap.size ≤ q → A q) (hG : KG z s) (hZ : FZ z A s) (hL : Lay E) (h : La_way_D1_6b E M q0 x1 x2 x3 x4 x5 = some (t, w4, w5)) (k0 : t = 0 → ∀ (H : Heap) (locs : List Loc) (ls : Array Slot), va_P z.1 classes (wv z ad E M) H → va_D A (wv z ad E M) → va_S A s.heap H locs → lv_has ls 7 [(0, .ref (ad q0)), (1, .int (oI x1)), (2, .int (oI x2)), (3, .int (oI x3)), (4, .int (oI w4)), (5, .int (oI w5))] → W p l e (rmK 2 66 0 0) s m args below meth c H locs 0 0 Q (F0 m 6 ls [])) (k1 : t = 1 → ∀ (H : Heap) (locs : List Loc) (ls : Array Slot), va_P z.1 classes (wv z ad E M) H → va_D A (wv z ad E M) → va_S A s.heap H locs → lv_has ls 7 [(4, .int (oI w4))] → W p l e (rmK 2 66 0 0) s m args below meth c H locs 0 0 Q (F0 m 95 ls [])) : ∀ (H : Heap) (locs : List Loc) (ls : Array Slot), va_P z.1 classes (wv z ad E M) H → va_D A (wv z ad E M) → va_S A s.heap H locs → lv_has ls 7 [(0, .ref (ad q0)), (1, .int (oI x1)), (2, .int (oI x2)), (3, .int (oI x3)), (4, .int (oI x4)), (5, .int (oI x5))] → W p l e (rmK 2 66 0 0) s m args below meth c H locs 0 0 Q (F0 m 6 ls []) := by
  intro H locs ls hP hD hS hl
  unfold La_way_D1_6b at h
  obtain ⟨h_q0, h⟩ := ck_e h
  refine lv_iload hx hb d_L8_6 (lv_at hl 5 rfl) ?_
  refine lv_aload_n hx hb d_L8_8 rfl (lv_at hl 0 rfl) ?_
  refine m_lenA (v := ((tE E q0).2 : Int)) hx hb hG hP h_q0.1 (isQ_T h_q0) (len_oI _) d_L8_9 ?_
  obtain ⟨ok100, h⟩ := ck_e h
  obtain ⟨ok101, h⟩ := ck_e h
  refine lv_icmp_ge (tgt := 95) hx hb d_L8_10 (by decide) (fun c9 => ?_) (fun c9 => ?_)
  · have h := ite_t ((oI_le (a := ((tE E q0).2 : Int)) (b := x5) ok101 ok100).mp c9) h
    obtain ⟨rfl, rfl, rfl⟩ := in3 h
    exact k1 rfl H locs ls hP hD hS (lv_sub hl [4] rfl)
  · have h := ite_f (fun q => c9 ((oI_le (a := ((tE E q0).2 : Int)) (b := x5) ok101 ok100).mpr q)) h
    refine lv_iload_n hx hb d_L8_13 rfl (lv_at hl 3 rfl) ?_
    refine lv_iload hx hb d_L8_14 (lv_at hl 5 rfl) ?_
    obtain ⟨ok102, h⟩ := ck_e h
    obtain ⟨ok103, h⟩ := ck_e h
    refine lv_ishr hx hb d_L8_16 ?_
    refine nrm (oI_shr (a := x3) ok102 ok103.1 ok103.2) ?_
    refine lv_iconst (v := oI 1) hx hb d_L8_17 (by decide +kernel) ?_
    refine lv_iand hx hb d_L8_18 ?_
    refine nrm (oI_m1 _) ?_
    refine lv_iconst (v := oI 1) hx hb d_L8_19 (by decide +kernel) ?_
    refine lv_icmp_eq (tgt := 89) hx hb d_L8_20 (by decide) (fun c9 => ?_) (fun c9 => ?_)
    · have h := ite_t ((oI_eq (a := ((x3 / 2 ^ x5.toNat) % 2)) (b := (1 : Int)) ⟨by omega, by omega⟩ (by decide)).mp c9) h
      refine lv_iinc (v := oI (x5 + 1)) (lv' := [(5, .int (oI (x5 + 1))), (0, .ref (ad q0)), (1, .int (oI x1)), (2, .int (oI x2)), (3, .int (oI x3)), (4, .int (oI x4))]) hx hb d_L8_89 hl (k := 5) rfl (oI_add x5 1) (by decide) rfl (fun ls hl => ?_)
      refine lv_goto (tgt := 6) hx hb d_L8_92 (by decide) ?_
      obtain ⟨rfl, rfl, rfl⟩ := in3 h
      exact k0 rfl H locs ls hP hD hS (lv_sub hl [1, 2, 3, 4, 5, 0] rfl)
    · have h := ite_f (fun q => c9 ((oI_eq (a := ((x3 / 2 ^ x5.toNat) % 2)) (b := (1 : Int)) ⟨by omega, by omega⟩ (by decide)).mpr q)) h
      refine lv_aload_n hx hb d_L8_23 rfl (lv_at hl 0 rfl) ?_
      refine lv_iload_n hx hb d_L8_24 rfl (lv_at hl 1 rfl) ?_
      obtain ⟨ok104, h⟩ := ck_e h
      obtain ⟨p105, g105, h⟩ := bd_e h
      obtain ⟨h_p105, h⟩ := ck_e h
      refine m_ar (k := p105) hx hb hG hP h_q0.1 (isQ_T h_q0) ok104 g105 d_L8_25 ?_
      refine lv_iload hx hb d_L8_26 (lv_at hl 5 rfl) ?_
      obtain ⟨ok106, h⟩ := ck_e h
      refine m_ia hx hb hG hP h_p105.1 (isIA_T h_p105) ok106 d_L8_28 ?_
      refine lv_aload_n hx hb d_L8_29 rfl (lv_at hl 0 rfl) ?_
      refine lv_iload hx hb d_L8_30 (lv_at hl 5 rfl) ?_
      obtain ⟨ok107, h⟩ := ck_e h
      obtain ⟨p108, g108, h⟩ := bd_e h
      obtain ⟨h_p108, h⟩ := ck_e h
      refine m_ar (k := p108) hx hb hG hP h_q0.1 (isQ_T h_q0) ok107 g108 d_L8_32 ?_
      refine lv_iload_n hx hb d_L8_33 rfl (lv_at hl 1 rfl) ?_
      obtain ⟨ok109, h⟩ := ck_e h
      refine m_ia hx hb hG hP h_p108.1 (isIA_T h_p108) ok109 d_L8_34 ?_
      obtain ⟨ok110, h⟩ := ck_e h
      obtain ⟨ok111, h⟩ := ck_e h
      refine lv_icmp_gt (tgt := 41) hx hb d_L8_35 (by decide) (fun c9 => ?_) (fun c9 => ?_)
      · have h := ite_t ((oI_lt (a := (M p108 x1.toNat)) (b := (M p105 x5.toNat)) ok111 ok110).mp c9) h
        refine lv_iload hx hb d_L8_41 (lv_at hl 5 rfl) ?_
        refine lv_iload_n hx hb d_L8_43 rfl (lv_at hl 2 rfl) ?_
        obtain ⟨ok112, h⟩ := ck_e h
        refine lv_icmp_ne (tgt := 56) hx hb d_L8_44 (by decide) (fun c9 => ?_) (fun c9 => ?_)
        · have h := ite_f (fun q => c9 ((oI_eq (a := x5) (b := x2) ok100 ok112).mpr q)) h
          refine lv_aload_n hx hb d_L8_56 rfl (lv_at hl 0 rfl) ?_
          refine lv_iload_n hx hb d_L8_57 rfl (lv_at hl 1 rfl) ?_
          obtain ⟨p113, g113, h⟩ := bd_e h
          obtain ⟨h_p113, h⟩ := ck_e h
          refine m_ar (k := p113) hx hb hG hP h_q0.1 (isQ_T h_q0) ok104 g113 d_L8_58 ?_
          refine lv_iload hx hb d_L8_59 (lv_at hl 5 rfl) ?_
          obtain ⟨ok114, h⟩ := ck_e h
          refine m_ia hx hb hG hP h_p113.1 (isIA_T h_p113) ok114 d_L8_61 ?_
          refine lv_aload_n hx hb d_L8_62 rfl (lv_at hl 0 rfl) ?_
          refine lv_iload hx hb d_L8_63 (lv_at hl 5 rfl) ?_
          refine lv_iload_n hx hb d_L8_65 rfl (lv_at hl 2 rfl) ?_
          refine lv_iload_n hx hb d_L8_66 rfl (lv_at hl 3 rfl) ?_
          refine lv_iconst (v := oI 1) hx hb d_L8_67 (by decide +kernel) ?_
          refine lv_iload hx hb d_L8_68 (lv_at hl 5 rfl) ?_
          obtain ⟨ok115, h⟩ := ck_e h
          refine lv_ishl hx hb d_L8_70 ?_
          refine nrm (oI_one_shl ok115) ?_
          obtain ⟨ok116, h⟩ := ck_e h
          obtain ⟨ok117, h⟩ := ck_e h
          refine lv_ior hx hb d_L8_71 ?_
          refine nrm (oI_or (a := x3) (b := (2 ^ x5.toNat)) ok116.1 ok116.2 ok117.1 ok117.2) ?_
          obtain ⟨r118, g118, h⟩ := bd_e h
          refine kS (As := [.ref (ad q0), .int (oI x5), .int (oI x2), .int (oI (orI x3 (2 ^ x5.toNat)))]) (rest := [.int (oI (M p113 x5.toNat))]) (s_La_way_D0 l z ad E M q0 x5 x2 (orI x3 (2 ^ x5.toNat)) r118 hL g118) hx hb hml hown hts w_1325 w_1323 w_1324 w_0 md_500319 ⟨Nat.le_of_ble_eq_true rfl, Nat.le_of_ble_eq_true rfl⟩ hG hZ hP hD hS hA rfl hl.1 rfl (Nat.le_of_ble_eq_true rfl) d_L8_72 ⟨Nat.le_of_ble_eq_true rfl, Nat.le_of_ble_eq_true rfl⟩ (fun _ H locs hP hD hS => ?_)
          have hP : va_P z.1 classes (wv z ad E M) H := hP
          have hD : va_D A (wv z ad E M) := hD
          refine W.eq (g2 := F0 m 75 ls [.int (oI r118), .int (oI (M p113 x5.toNat))]) rfl ?_
          obtain ⟨ok119, h⟩ := ck_e h
          obtain ⟨ok120, h⟩ := ck_e h
          refine va_mmin hx hb (by rw [hml]; exact hl.1.symm) hown (hts _ w_1255) (hts _ w_521) (hts _ w_17) (hts _ w_min) (Nat.le_of_ble_eq_true rfl) (Nat.le_of_ble_eq_true rfl) (Nat.le_of_ble_eq_true rfl) (Nat.le_of_ble_eq_true rfl) d_L8_75 ?_
          refine nrm (mn_oI (a := (M p113 x5.toNat)) (b := r118) ok119 ok120) ?_
          exact b_La_way_D1_j78 l z ad E M q0 x1 x2 x3 x4 x5 (min (M p113 x5.toNat) r118) t w4 w5 hx hb hml hts hown hlocks hA hG hZ hL h k0 k1 H locs ls hP hD hS (lv_sub hl [0, 1, 2, 3, 4, 5] rfl)
        · have h := ite_t ((oI_eq (a := x5) (b := x2) ok100 ok112).mp c9) h
          refine lv_aload_n hx hb d_L8_47 rfl (lv_at hl 0 rfl) ?_
          refine lv_iload_n hx hb d_L8_48 rfl (lv_at hl 1 rfl) ?_
          obtain ⟨p123, g123, h⟩ := bd_e h
          obtain ⟨h_p123, h⟩ := ck_e h
          refine m_ar (k := p123) hx hb hG hP h_q0.1 (isQ_T h_q0) ok104 g123 d_L8_49 ?_
          refine lv_iload hx hb d_L8_50 (lv_at hl 5 rfl) ?_
          obtain ⟨ok124, h⟩ := ck_e h
          refine m_ia hx hb hG hP h_p123.1 (isIA_T h_p123) ok124 d_L8_52 ?_
          refine lv_goto (tgt := 78) hx hb d_L8_53 (by decide) ?_
          exact b_La_way_D1_j78 l z ad E M q0 x1 x2 x3 x4 x5 (M p123 x5.toNat) t w4 w5 hx hb hml hts hown hlocks hA hG hZ hL h k0 k1 H locs ls hP hD hS (lv_sub hl [0, 1, 2, 3, 4, 5] rfl)
      · have h := ite_f (fun q => c9 ((oI_lt (a := (M p108 x1.toNat)) (b := (M p105 x5.toNat)) ok111 ok110).mpr q)) h
        refine lv_goto (tgt := 89) hx hb d_L8_38 (by decide) ?_
        refine lv_iinc (v := oI (x5 + 1)) (lv' := [(5, .int (oI (x5 + 1))), (0, .ref (ad q0)), (1, .int (oI x1)), (2, .int (oI x2)), (3, .int (oI x3)), (4, .int (oI x4))]) hx hb d_L8_89 hl (k := 5) rfl (oI_add x5 1) (by decide) rfl (fun ls hl => ?_)
        refine lv_goto (tgt := 6) hx hb d_L8_92 (by decide) ?_
        obtain ⟨rfl, rfl, rfl⟩ := in3 h
        exact k0 rfl H locs ls hP hD hS (lv_sub hl [1, 2, 3, 4, 5, 0] rfl)
set_option maxRecDepth 100000 in
set_option maxHeartbeats 4000000 in
theorem s_La_way_D1_6 (l : Launch) (z : Zz) (ad : Nat → Nat) (E : Ev) (q0 : Nat) (x1 : Int) (x2 : Int) (x3 : Int) {Q : State → Prop} {p : Program} {e : Env} {s : State} {m : MethodId} {below : List Frame} {meth : Method} {c : Code} {A : Nat → Prop} {args : Array Value} (hx : p.tables.exec = Jvm.exec) (hb : c.code = method_8_code) (hml : c.maxLocals = 7) (hts : ∀ w ∈ WG, w.before args s = true) (hown : s.vm.findClass "BallothallLaw" = some m.cls) (hlocks : meth.locks = false) (hA : ∀ q, s.heap.size ≤ q → A q) (hG : KG z s) (hZ : FZ z A s) (hL : Lay E) : ∀ (fu : Nat) (M : Mm) (x4 : Int) (x5 : Int) (t : Nat) (w4 : Int) (w5 : Int), l_La_way_D1_6 E q0 x1 x2 x3 fu M x4 x5 = some (t, w4, w5) → (t = 1 → ∀ (H : Heap) (locs : List Loc) (ls : Array Slot), va_P z.1 classes (wv z ad E M) H → va_D A (wv z ad E M) → va_S A s.heap H locs → lv_has ls 7 [(4, .int (oI w4))] → W p l e (rmK 2 66 0 0) s m args below meth c H locs 0 0 Q (F0 m 95 ls [])) → ∀ (H : Heap) (locs : List Loc) (ls : Array Slot), va_P z.1 classes (wv z ad E M) H → va_D A (wv z ad E M) → va_S A s.heap H locs → lv_has ls 7 [(0, .ref (ad q0)), (1, .int (oI x1)), (2, .int (oI x2)), (3, .int (oI x3)), (4, .int (oI x4)), (5, .int (oI x5))] → W p l e (rmK 2 66 0 0) s m args below meth c H locs 0 0 Q (F0 m 6 ls []) := by
  intro fu
  induction fu with
  | zero =>
    intro M x4 x5 t w4 w5 h
    have h : (none : Option (Nat × Int × Int)) = some _ := h
    cases h
  | succ fu ih =>
    intro M x4 x5 t w4 w5 h k1 H locs ls hP hD hS hl
    obtain ⟨⟨t0, w40, w50⟩, g0, h⟩ := bd_e h
    refine b_La_way_D1_6b l z ad E M q0 x1 x2 x3 x4 x5 t0 w40 w50 hx hb hml hts hown hlocks hA hG hZ hL g0 (fun e0 => ?_) (fun e0 => ?_) H locs ls hP hD hS hl
    · subst e0
      have h := ite_t rfl h
      exact ih M w40 w50 t w4 w5 h k1
    · subst e0
      have h := ite_f (by decide) h
      obtain ⟨rfl, rfl, rfl⟩ := in3 h
      exact k1 rfl
set_option maxRecDepth 100000 in
set_option maxHeartbeats 4000000 in
theorem s_La_way_D1 (l : Launch) (z : Zz) (ad : Nat → Nat) (E : Ev) (M : Mm) (p0 : Nat) (x1 : Int) (x2 : Int) (x3 : Int) (r : Int)  (hL : Lay E) (h : f_La_way_D1 E M p0 x1 x2 x3 = some r) : CT l z ⟨"BallothallLaw", "way", "([[IIII)I"⟩ method_8_code 7 (some .int) [.ref (ad p0), .int (oI x1), .int (oI x2), .int (oI x3)] (wv z ad E M) 2 66 0 0 (fun _ => some (.int (oI r))) (fun _ => (wv z ad E M)) := by
  refine CT.of (own := "BallothallLaw") (by decide +kernel) (Nat.le_of_ble_eq_true rfl) rfl (fun p e s m below meth c A ls hx hb hml hr hts hown hlocks hin hA hG hZ hP hD hS hl => ?_)
  have hl : lv_has ls 7 [(0, .ref (ad p0)), (1, .int (oI x1)), (2, .int (oI x2)), (3, .int (oI x3))] := hl
  have key : ∀ (H : Heap) (locs : List Loc) (args : Array Value), (∀ w ∈ WG, w.before args s = true) → va_P z.1 classes (wv z ad E M) H → va_S A s.heap H locs → W p l e (rmK 2 66 0 0) s m args below meth c H locs 0 0 (MQ below (QK z A (fun _ => some (.int (oI r))) (fun _ => (wv z ad E M))) args s 0 0 A) (F0 m 0 ls []) := by
    intro H locs args hts hP hS
    unfold f_La_way_D1 at h
    obtain ⟨h_p0, h⟩ := ck_e h
    refine lv_iconst (v := oI 0) hx hb d_L8_0 (by decide +kernel) ?_
    refine lv_istore (lv' := [(4, .int (oI 0)), (0, .ref (ad p0)), (1, .int (oI x1)), (2, .int (oI x2)), (3, .int (oI x3))]) hx hb d_L8_1 hl (by decide) rfl (fun ls hl => ?_)
    refine lv_iconst (v := oI 0) hx hb d_L8_3 (by decide +kernel) ?_
    refine lv_istore (lv' := [(5, .int (oI 0)), (4, .int (oI 0)), (0, .ref (ad p0)), (1, .int (oI x1)), (2, .int (oI x2)), (3, .int (oI x3))]) hx hb d_L8_4 hl (by decide) rfl (fun ls hl => ?_)
    obtain ⟨⟨t125, v125_4, v125_5⟩, g125, h⟩ := bd_e h
    obtain ⟨ok125, h⟩ := ck_e h
    refine s_La_way_D1_6 l z ad E p0 x1 x2 x3 hx hb hml hts hown hlocks hA hG hZ hL FU M 0 0 t125 v125_4 v125_5 g125 (fun e125 H locs ls hP hD hS hl => ?_) H locs ls hP hD hS (lv_sub hl [2, 3, 4, 5, 1, 0] rfl)
    refine lv_iload hx hb d_L8_95 (lv_at hl 0 rfl) ?_
    obtain rfl := in1 h
    exact W.iret hx hb hr (fun t ht hW => qkA hP hD hS (fun k => k) rfl rfl ht) hS.2.2 d_L8_97
  exact key _ _ _ hts hP hS
set_option maxRecDepth 100000 in
set_option maxHeartbeats 4000000 in
theorem b_La_way_D2_j78 (l : Launch) (z : Zz) (ad : Nat → Nat) (E : Ev) (M : Mm) (q0 : Nat) (x1 : Int) (x2 : Int) (x3 : Int) (x4 : Int) (x5 : Int) (y0 : Int) (t : Nat) (w4 : Int) (w5 : Int)  {Q : State → Prop} {p : Program} {e : Env} {s : State} {m : MethodId} {below : List Frame} {meth : Method} {c : Code} {A : Nat → Prop} {args : Array Value} (hx : p.tables.exec = Jvm.exec) (hb : c.code = method_8_code) (hml : c.maxLocals = 7) (hts : ∀ w ∈ WG, w.before args s = true) (hown : s.vm.findClass "BallothallLaw" = some m.cls) (hlocks : meth.locks = false) (hA : ∀ q, s.heap.size ≤ q → A q) (hG : KG z s) (hZ : FZ z A s) (hL : Lay E) (h : La_way_D2_j78 E M q0 x1 x2 x3 x4 x5 y0 = some (t, w4, w5)) (k0 : t = 0 → ∀ (H : Heap) (locs : List Loc) (ls : Array Slot), va_P z.1 classes (wv z ad E M) H → va_D A (wv z ad E M) → va_S A s.heap H locs → lv_has ls 7 [(0, .ref (ad q0)), (1, .int (oI x1)), (2, .int (oI x2)), (3, .int (oI x3)), (4, .int (oI w4)), (5, .int (oI w5))] → W p l e (rmK 3 92 0 0) s m args below meth c H locs 0 0 Q (F0 m 6 ls [])) (k1 : t = 1 → ∀ (H : Heap) (locs : List Loc) (ls : Array Slot), va_P z.1 classes (wv z ad E M) H → va_D A (wv z ad E M) → va_S A s.heap H locs → lv_has ls 7 [(4, .int (oI w4))] → W p l e (rmK 3 92 0 0) s m args below meth c H locs 0 0 Q (F0 m 95 ls [])) : ∀ (H : Heap) (locs : List Loc) (ls : Array Slot), va_P z.1 classes (wv z ad E M) H → va_D A (wv z ad E M) → va_S A s.heap H locs → lv_has ls 7 [(0, .ref (ad q0)), (1, .int (oI x1)), (2, .int (oI x2)), (3, .int (oI x3)), (4, .int (oI x4)), (5, .int (oI x5))] → W p l e (rmK 3 92 0 0) s m args below meth c H locs 0 0 Q (F0 m 78 ls [.int (oI y0)]) := by
  intro H locs ls hP hD hS hl
  unfold La_way_D2_j78 at h
  obtain ⟨h_q0, h⟩ := ck_e h
  refine lv_istore (lv' := [(6, .int (oI y0)), (0, .ref (ad q0)), (1, .int (oI x1)), (2, .int (oI x2)), (3, .int (oI x3)), (4, .int (oI x4)), (5, .int (oI x5))]) hx hb d_L8_78 hl (by decide) rfl (fun ls hl => ?_)
  refine lv_iload hx hb d_L8_80 (lv_at hl 5 rfl) ?_
  refine lv_iload hx hb d_L8_82 (lv_at hl 0 rfl) ?_
  obtain ⟨ok121, h⟩ := ck_e h
  obtain ⟨ok122, h⟩ := ck_e h
  refine va_mmax hx hb (by rw [hml]; exact hl.1.symm) hown (hts _ w_1326) (hts _ w_632) (hts _ w_17) (hts _ w_max) (Nat.le_of_ble_eq_true rfl) (Nat.le_of_ble_eq_true rfl) (Nat.le_of_ble_eq_true rfl) (Nat.le_of_ble_eq_true rfl) d_L8_84 ?_
  refine nrm (mx_oI (a := x4) (b := y0) ok121 ok122) ?_
  refine lv_istore (lv' := [(4, .int (oI (max x4 y0))), (6, .int (oI y0)), (0, .ref (ad q0)), (1, .int (oI x1)), (2, .int (oI x2)), (3, .int (oI x3)), (5, .int (oI x5))]) hx hb d_L8_87 hl (by decide) rfl (fun ls hl => ?_)
  refine lv_iinc (v := oI (x5 + 1)) (lv' := [(5, .int (oI (x5 + 1))), (4, .int (oI (max x4 y0))), (6, .int (oI y0)), (0, .ref (ad q0)), (1, .int (oI x1)), (2, .int (oI x2)), (3, .int (oI x3))]) hx hb d_L8_89 hl (k := 6) rfl (oI_add x5 1) (by decide) rfl (fun ls hl => ?_)
  refine lv_goto (tgt := 6) hx hb d_L8_92 (by decide) ?_
  obtain ⟨rfl, rfl, rfl⟩ := in3 h
  exact k0 rfl H locs ls hP hD hS (lv_sub hl [3, 4, 5, 6, 1, 0] rfl)
set_option maxRecDepth 100000 in
set_option maxHeartbeats 4000000 in
theorem b_La_way_D2_6b (l : Launch) (z : Zz) (ad : Nat → Nat) (E : Ev) (M : Mm) (q0 : Nat) (x1 : Int) (x2 : Int) (x3 : Int) (x4 : Int) (x5 : Int) (t : Nat) (w4 : Int) (w5 : Int)  {Q : State → Prop} {p : Program} {e : Env} {s : State} {m : MethodId} {below : List Frame} {meth : Method} {c : Code} {A : Nat → Prop} {args : Array Value} (hx : p.tables.exec = Jvm.exec) (hb : c.code = method_8_code) (hml : c.maxLocals = 7) (hts : ∀ w ∈ WG, w.before args s = true) (hown : s.vm.findClass "BallothallLaw" = some m.cls) (hlocks : meth.locks = false) (hA : ∀ q, s.heap.size ≤ q → A q) (hG : KG z s) (hZ : FZ z A s) (hL : Lay E) (h : La_way_D2_6b E M q0 x1 x2 x3 x4 x5 = some (t, w4, w5)) (k0 : t = 0 → ∀ (H : Heap) (locs : List Loc) (ls : Array Slot), va_P z.1 classes (wv z ad E M) H → va_D A (wv z ad E M) → va_S A s.heap H locs → lv_has ls 7 [(0, .ref (ad q0)), (1, .int (oI x1)), (2, .int (oI x2)), (3, .int (oI x3)), (4, .int (oI w4)), (5, .int (oI w5))] → W p l e (rmK 3 92 0 0) s m args below meth c H locs 0 0 Q (F0 m 6 ls [])) (k1 : t = 1 → ∀ (H : Heap) (locs : List Loc) (ls : Array Slot), va_P z.1 classes (wv z ad E M) H → va_D A (wv z ad E M) → va_S A s.heap H locs → lv_has ls 7 [(4, .int (oI w4))] → W p l e (rmK 3 92 0 0) s m args below meth c H locs 0 0 Q (F0 m 95 ls [])) : ∀ (H : Heap) (locs : List Loc) (ls : Array Slot), va_P z.1 classes (wv z ad E M) H → va_D A (wv z ad E M) → va_S A s.heap H locs → lv_has ls 7 [(0, .ref (ad q0)), (1, .int (oI x1)), (2, .int (oI x2)), (3, .int (oI x3)), (4, .int (oI x4)), (5, .int (oI x5))] → W p l e (rmK 3 92 0 0) s m args below meth c H locs 0 0 Q (F0 m 6 ls []) := by
  intro H locs ls hP hD hS hl
  unfold La_way_D2_6b at h
  obtain ⟨h_q0, h⟩ := ck_e h
  refine lv_iload hx hb d_L8_6 (lv_at hl 5 rfl) ?_
  refine lv_aload_n hx hb d_L8_8 rfl (lv_at hl 0 rfl) ?_
  refine m_lenA (v := ((tE E q0).2 : Int)) hx hb hG hP h_q0.1 (isQ_T h_q0) (len_oI _) d_L8_9 ?_
  obtain ⟨ok100, h⟩ := ck_e h
  obtain ⟨ok101, h⟩ := ck_e h
  refine lv_icmp_ge (tgt := 95) hx hb d_L8_10 (by decide) (fun c9 => ?_) (fun c9 => ?_)
  · have h := ite_t ((oI_le (a := ((tE E q0).2 : Int)) (b := x5) ok101 ok100).mp c9) h
    obtain ⟨rfl, rfl, rfl⟩ := in3 h
    exact k1 rfl H locs ls hP hD hS (lv_sub hl [4] rfl)
  · have h := ite_f (fun q => c9 ((oI_le (a := ((tE E q0).2 : Int)) (b := x5) ok101 ok100).mpr q)) h
    refine lv_iload_n hx hb d_L8_13 rfl (lv_at hl 3 rfl) ?_
    refine lv_iload hx hb d_L8_14 (lv_at hl 5 rfl) ?_
    obtain ⟨ok102, h⟩ := ck_e h
    obtain ⟨ok103, h⟩ := ck_e h
    refine lv_ishr hx hb d_L8_16 ?_
    refine nrm (oI_shr (a := x3) ok102 ok103.1 ok103.2) ?_
    refine lv_iconst (v := oI 1) hx hb d_L8_17 (by decide +kernel) ?_
    refine lv_iand hx hb d_L8_18 ?_
    refine nrm (oI_m1 _) ?_
    refine lv_iconst (v := oI 1) hx hb d_L8_19 (by decide +kernel) ?_
    refine lv_icmp_eq (tgt := 89) hx hb d_L8_20 (by decide) (fun c9 => ?_) (fun c9 => ?_)
    · have h := ite_t ((oI_eq (a := ((x3 / 2 ^ x5.toNat) % 2)) (b := (1 : Int)) ⟨by omega, by omega⟩ (by decide)).mp c9) h
      refine lv_iinc (v := oI (x5 + 1)) (lv' := [(5, .int (oI (x5 + 1))), (0, .ref (ad q0)), (1, .int (oI x1)), (2, .int (oI x2)), (3, .int (oI x3)), (4, .int (oI x4))]) hx hb d_L8_89 hl (k := 5) rfl (oI_add x5 1) (by decide) rfl (fun ls hl => ?_)
      refine lv_goto (tgt := 6) hx hb d_L8_92 (by decide) ?_
      obtain ⟨rfl, rfl, rfl⟩ := in3 h
      exact k0 rfl H locs ls hP hD hS (lv_sub hl [1, 2, 3, 4, 5, 0] rfl)
    · have h := ite_f (fun q => c9 ((oI_eq (a := ((x3 / 2 ^ x5.toNat) % 2)) (b := (1 : Int)) ⟨by omega, by omega⟩ (by decide)).mpr q)) h
      refine lv_aload_n hx hb d_L8_23 rfl (lv_at hl 0 rfl) ?_
      refine lv_iload_n hx hb d_L8_24 rfl (lv_at hl 1 rfl) ?_
      obtain ⟨ok104, h⟩ := ck_e h
      obtain ⟨p105, g105, h⟩ := bd_e h
      obtain ⟨h_p105, h⟩ := ck_e h
      refine m_ar (k := p105) hx hb hG hP h_q0.1 (isQ_T h_q0) ok104 g105 d_L8_25 ?_
      refine lv_iload hx hb d_L8_26 (lv_at hl 5 rfl) ?_
      obtain ⟨ok106, h⟩ := ck_e h
      refine m_ia hx hb hG hP h_p105.1 (isIA_T h_p105) ok106 d_L8_28 ?_
      refine lv_aload_n hx hb d_L8_29 rfl (lv_at hl 0 rfl) ?_
      refine lv_iload hx hb d_L8_30 (lv_at hl 5 rfl) ?_
      obtain ⟨ok107, h⟩ := ck_e h
      obtain ⟨p108, g108, h⟩ := bd_e h
      obtain ⟨h_p108, h⟩ := ck_e h
      refine m_ar (k := p108) hx hb hG hP h_q0.1 (isQ_T h_q0) ok107 g108 d_L8_32 ?_
      refine lv_iload_n hx hb d_L8_33 rfl (lv_at hl 1 rfl) ?_
      obtain ⟨ok109, h⟩ := ck_e h
      refine m_ia hx hb hG hP h_p108.1 (isIA_T h_p108) ok109 d_L8_34 ?_
      obtain ⟨ok110, h⟩ := ck_e h
      obtain ⟨ok111, h⟩ := ck_e h
      refine lv_icmp_gt (tgt := 41) hx hb d_L8_35 (by decide) (fun c9 => ?_) (fun c9 => ?_)
      · have h := ite_t ((oI_lt (a := (M p108 x1.toNat)) (b := (M p105 x5.toNat)) ok111 ok110).mp c9) h
        refine lv_iload hx hb d_L8_41 (lv_at hl 5 rfl) ?_
        refine lv_iload_n hx hb d_L8_43 rfl (lv_at hl 2 rfl) ?_
        obtain ⟨ok112, h⟩ := ck_e h
        refine lv_icmp_ne (tgt := 56) hx hb d_L8_44 (by decide) (fun c9 => ?_) (fun c9 => ?_)
        · have h := ite_f (fun q => c9 ((oI_eq (a := x5) (b := x2) ok100 ok112).mpr q)) h
          refine lv_aload_n hx hb d_L8_56 rfl (lv_at hl 0 rfl) ?_
          refine lv_iload_n hx hb d_L8_57 rfl (lv_at hl 1 rfl) ?_
          obtain ⟨p113, g113, h⟩ := bd_e h
          obtain ⟨h_p113, h⟩ := ck_e h
          refine m_ar (k := p113) hx hb hG hP h_q0.1 (isQ_T h_q0) ok104 g113 d_L8_58 ?_
          refine lv_iload hx hb d_L8_59 (lv_at hl 5 rfl) ?_
          obtain ⟨ok114, h⟩ := ck_e h
          refine m_ia hx hb hG hP h_p113.1 (isIA_T h_p113) ok114 d_L8_61 ?_
          refine lv_aload_n hx hb d_L8_62 rfl (lv_at hl 0 rfl) ?_
          refine lv_iload hx hb d_L8_63 (lv_at hl 5 rfl) ?_
          refine lv_iload_n hx hb d_L8_65 rfl (lv_at hl 2 rfl) ?_
          refine lv_iload_n hx hb d_L8_66 rfl (lv_at hl 3 rfl) ?_
          refine lv_iconst (v := oI 1) hx hb d_L8_67 (by decide +kernel) ?_
          refine lv_iload hx hb d_L8_68 (lv_at hl 5 rfl) ?_
          obtain ⟨ok115, h⟩ := ck_e h
          refine lv_ishl hx hb d_L8_70 ?_
          refine nrm (oI_one_shl ok115) ?_
          obtain ⟨ok116, h⟩ := ck_e h
          obtain ⟨ok117, h⟩ := ck_e h
          refine lv_ior hx hb d_L8_71 ?_
          refine nrm (oI_or (a := x3) (b := (2 ^ x5.toNat)) ok116.1 ok116.2 ok117.1 ok117.2) ?_
          obtain ⟨r118, g118, h⟩ := bd_e h
          refine kS (As := [.ref (ad q0), .int (oI x5), .int (oI x2), .int (oI (orI x3 (2 ^ x5.toNat)))]) (rest := [.int (oI (M p113 x5.toNat))]) (s_La_way_D1 l z ad E M q0 x5 x2 (orI x3 (2 ^ x5.toNat)) r118 hL g118) hx hb hml hown hts w_1325 w_1323 w_1324 w_0 md_500319 ⟨Nat.le_of_ble_eq_true rfl, Nat.le_of_ble_eq_true rfl⟩ hG hZ hP hD hS hA rfl hl.1 rfl (Nat.le_of_ble_eq_true rfl) d_L8_72 ⟨Nat.le_of_ble_eq_true rfl, Nat.le_of_ble_eq_true rfl⟩ (fun _ H locs hP hD hS => ?_)
          have hP : va_P z.1 classes (wv z ad E M) H := hP
          have hD : va_D A (wv z ad E M) := hD
          refine W.eq (g2 := F0 m 75 ls [.int (oI r118), .int (oI (M p113 x5.toNat))]) rfl ?_
          obtain ⟨ok119, h⟩ := ck_e h
          obtain ⟨ok120, h⟩ := ck_e h
          refine va_mmin hx hb (by rw [hml]; exact hl.1.symm) hown (hts _ w_1255) (hts _ w_521) (hts _ w_17) (hts _ w_min) (Nat.le_of_ble_eq_true rfl) (Nat.le_of_ble_eq_true rfl) (Nat.le_of_ble_eq_true rfl) (Nat.le_of_ble_eq_true rfl) d_L8_75 ?_
          refine nrm (mn_oI (a := (M p113 x5.toNat)) (b := r118) ok119 ok120) ?_
          exact b_La_way_D2_j78 l z ad E M q0 x1 x2 x3 x4 x5 (min (M p113 x5.toNat) r118) t w4 w5 hx hb hml hts hown hlocks hA hG hZ hL h k0 k1 H locs ls hP hD hS (lv_sub hl [0, 1, 2, 3, 4, 5] rfl)
        · have h := ite_t ((oI_eq (a := x5) (b := x2) ok100 ok112).mp c9) h
          refine lv_aload_n hx hb d_L8_47 rfl (lv_at hl 0 rfl) ?_
          refine lv_iload_n hx hb d_L8_48 rfl (lv_at hl 1 rfl) ?_
          obtain ⟨p123, g123, h⟩ := bd_e h
          obtain ⟨h_p123, h⟩ := ck_e h
          refine m_ar (k := p123) hx hb hG hP h_q0.1 (isQ_T h_q0) ok104 g123 d_L8_49 ?_
          refine lv_iload hx hb d_L8_50 (lv_at hl 5 rfl) ?_
          obtain ⟨ok124, h⟩ := ck_e h
          refine m_ia hx hb hG hP h_p123.1 (isIA_T h_p123) ok124 d_L8_52 ?_
          refine lv_goto (tgt := 78) hx hb d_L8_53 (by decide) ?_
          exact b_La_way_D2_j78 l z ad E M q0 x1 x2 x3 x4 x5 (M p123 x5.toNat) t w4 w5 hx hb hml hts hown hlocks hA hG hZ hL h k0 k1 H locs ls hP hD hS (lv_sub hl [0, 1, 2, 3, 4, 5] rfl)
      · have h := ite_f (fun q => c9 ((oI_lt (a := (M p108 x1.toNat)) (b := (M p105 x5.toNat)) ok111 ok110).mpr q)) h
        refine lv_goto (tgt := 89) hx hb d_L8_38 (by decide) ?_
        refine lv_iinc (v := oI (x5 + 1)) (lv' := [(5, .int (oI (x5 + 1))), (0, .ref (ad q0)), (1, .int (oI x1)), (2, .int (oI x2)), (3, .int (oI x3)), (4, .int (oI x4))]) hx hb d_L8_89 hl (k := 5) rfl (oI_add x5 1) (by decide) rfl (fun ls hl => ?_)
        refine lv_goto (tgt := 6) hx hb d_L8_92 (by decide) ?_
        obtain ⟨rfl, rfl, rfl⟩ := in3 h
        exact k0 rfl H locs ls hP hD hS (lv_sub hl [1, 2, 3, 4, 5, 0] rfl)
