set_option maxRecDepth 100000 in
set_option maxHeartbeats 4000000 in
theorem s_B_wasted_32 (l : Launch) (z : Zz) (ad : Nat → Nat) (E : Ev) (x1 : Int) (x2 : Int) {Q : State → Prop} {p : Program} {e : Env} {s : State} {m : MethodId} {below : List Frame} {meth : Method} {c : Code} {A : Nat → Prop} {args : Array Value} (hx : p.tables.exec = Jvm.exec) (hb : c.code = prog_1_method_45_code) (hml : c.maxLocals = 7) (hts : ∀ w ∈ WG, w.before args s = true) (hown : s.vm.findClass "Ballothall" = some m.cls) (hlocks : meth.locks = false) (hA : ∀ q, s.heap.size ≤ q → A q) (hG : KG z s) (hZ : FZ z A s) (hL : Lay E) : ∀ (fu : Nat) (M : Mm) (x3 : Int) (x4 : Int) (t : Nat) (w3 : Int) (w4 : Int) (N : Mm), l_B_wasted_32 E x1 x2 fu M x3 x4 = some (t, w3, w4, N) → (t = 1 → ∀ (H : Heap) (locs : List Loc) (ls : Array Slot), va_P z.1 classes (wv z ad E N) H → va_D A (wv z ad E N) → va_S A s.heap H locs → lv_has ls 7 [(3, .int (oI w3))] → W p l e (rmK 3 91 0 0) s m args below meth c H locs 0 0 Q (F0 m 97 ls [])) → ∀ (H : Heap) (locs : List Loc) (ls : Array Slot), va_P z.1 classes (wv z ad E M) H → va_D A (wv z ad E M) → va_S A s.heap H locs → lv_has ls 7 [(0, .ref (ad 1)), (1, .int (oI x1)), (2, .int (oI x2)), (3, .int (oI x3)), (4, .int (oI x4))] → W p l e (rmK 3 91 0 0) s m args below meth c H locs 0 0 Q (F0 m 32 ls []) := by
  intro fu
  induction fu with
  | zero =>
    intro M x3 x4 t w3 w4 N h
    have h : (none : Option (Nat × Int × Int × Mm)) = some _ := h
    cases h
  | succ fu ih =>
    intro M x3 x4 t w3 w4 N h k1 H locs ls hP hD hS hl
    obtain ⟨⟨t0, w30, w40, N9⟩, g0, h⟩ := bd_e h
    refine b_B_wasted_32b l z ad E M x1 x2 x3 x4 t0 w30 w40 N9 hx hb hml hts hown hlocks hA hG hZ hL g0 (fun e0 => ?_) (fun e0 => ?_) H locs ls hP hD hS hl
    · subst e0
      have h := ite_t rfl h
      exact ih N9 w30 w40 t w3 w4 N h k1
    · subst e0
      have h := ite_f (by decide) h
      obtain ⟨rfl, rfl, rfl, rfl⟩ := in4 h
      exact k1 rfl
set_option maxRecDepth 100000 in
set_option maxHeartbeats 4000000 in
theorem s_B_wasted (l : Launch) (z : Zz) (ad : Nat → Nat) (E : Ev) (M : Mm) (x1 : Int) (x2 : Int) (r : Int) (N : Mm) (hL : Lay E) (h : f_B_wasted E M x1 x2 = some (r, N)) : CT l z ⟨"Ballothall", "wasted", "(II)I"⟩ prog_1_method_45_code 7 (some .int) [.ref (ad 1), .int (oI x1), .int (oI x2)] (wv z ad E M) 3 91 0 0 (fun _ => some (.int (oI r))) (fun _ => (wv z ad E N)) := by
  refine CT.of (own := "Ballothall") (by decide +kernel) (Nat.le_of_ble_eq_true rfl) rfl (fun p e s m below meth c A ls hx hb hml hr hts hown hlocks hin hA hG hZ hP hD hS hl => ?_)
  have hl : lv_has ls 7 [(0, .ref (ad 1)), (1, .int (oI x1)), (2, .int (oI x2))] := hl
  have key : ∀ (H : Heap) (locs : List Loc) (args : Array Value), (∀ w ∈ WG, w.before args s = true) → va_P z.1 classes (wv z ad E M) H → va_S A s.heap H locs → W p l e (rmK 3 91 0 0) s m args below meth c H locs 0 0 (MQ below (QK z A (fun _ => some (.int (oI r))) (fun _ => (wv z ad E N))) args s 0 0 A) (F0 m 0 ls []) := by
    intro H locs args hts hP hS
    unfold f_B_wasted at h
    refine lv_iload_n hx hb d_1_45_0 rfl (lv_at hl 1 rfl) ?_
    refine lv_iconst (v := oI 1) hx hb d_1_45_1 (by decide +kernel) ?_
    refine lv_aload_n hx hb d_1_45_2 rfl (lv_at hl 0 rfl) ?_
    refine m_gr (j := 219) (C := "Ballothall") (T := TX11) (N := 14) (ci := 11) (k := 5) hx hb hts iX11 hown hG hP (yi_1 hL) (yt_1 hL) rfl (by decide) w_402 (fun _ h9 => h9) rfl rfl (yr_1_5 hL) d_1_45_3 ?_
    refine m_giN (C := "Ballothall$Wards") (T := TX10) (N := 5) (ci := 10) (k := 0) hx hb hts iX10 hown hG hP (yi_219 hL) (yt_219 hL) rfl (by decide) n_359 rfl (fun _ h9 => h9) rfl rfl d_1_45_6 ?_
    obtain ⟨_, g0, h⟩ := bd_e h
    refine kS (As := [.int (oI x1), .int (oI 1), .int (oI (M 219 0))]) (rest := []) (s_B_needRange l z ad E M x1 1 (M 219 0) hL g0) hx hb hml hown hts w_548 w_546 w_547 w_1 md_519134 ⟨Nat.le_of_ble_eq_true rfl, Nat.le_of_ble_eq_true rfl⟩ hG hZ hP hD hS hA rfl hl.1 rfl (Nat.le_of_ble_eq_true rfl) d_1_45_9 ⟨Nat.le_of_ble_eq_true rfl, Nat.le_of_ble_eq_true rfl⟩ (fun _ H locs hP hD hS => ?_)
    have hP : va_P z.1 classes (wv z ad E M) H := hP
    have hD : va_D A (wv z ad E M) := hD
    refine W.eq (g2 := F0 m 12 ls []) rfl ?_
    refine lv_iload_n hx hb d_1_45_12 rfl (lv_at hl 2 rfl) ?_
    refine lv_iconst (v := oI 0) hx hb d_1_45_13 (by decide +kernel) ?_
    refine lv_iconst (v := oI 1) hx hb d_1_45_14 (by decide +kernel) ?_
    obtain ⟨_, g1, h⟩ := bd_e h
    refine kS (As := [.int (oI x2), .int (oI 0), .int (oI 1)]) (rest := []) (s_B_needRange l z ad E M x2 0 1 hL g1) hx hb hml hown hts w_548 w_546 w_547 w_1 md_519134 ⟨Nat.le_of_ble_eq_true rfl, Nat.le_of_ble_eq_true rfl⟩ hG hZ hP hD hS hA rfl hl.1 rfl (Nat.le_of_ble_eq_true rfl) d_1_45_15 ⟨Nat.le_of_ble_eq_true rfl, Nat.le_of_ble_eq_true rfl⟩ (fun _ H locs hP hD hS => ?_)
    have hP : va_P z.1 classes (wv z ad E M) H := hP
    have hD : va_D A (wv z ad E M) := hD
    refine W.eq (g2 := F0 m 18 ls []) rfl ?_
    refine lv_aload_n hx hb d_1_45_18 rfl (lv_at hl 0 rfl) ?_
    refine m_gr (j := 219) (C := "Ballothall") (T := TX11) (N := 14) (ci := 11) (k := 5) hx hb hts iX11 hown hG hP (yi_1 hL) (yt_1 hL) rfl (by decide) w_402 (fun _ h9 => h9) rfl rfl (yr_1_5 hL) d_1_45_19 ?_
    refine lv_iload_n hx hb d_1_45_22 rfl (lv_at hl 1 rfl) ?_
    obtain ⟨⟨r2, M2⟩, g2, h⟩ := bd_e h
    refine kVN (As := [.int (oI x1)]) (rest := []) (s_Wa_divide l z ad E M x1 r2 M2 hL g2) hx hb hml hown hts w_1621 n_1618 w_1620 w_s_af9e07 w_10 md_d7e64c ⟨Nat.le_of_ble_eq_true rfl, Nat.le_of_ble_eq_true rfl⟩ hG hZ hP hD hS hA 219 (wv_o (ci := 10) (yi_219 hL) (yt_219 hL)) rfl rfl rfl hl.1 rfl (Nat.le_of_ble_eq_true rfl) d_1_45_23 ⟨Nat.le_of_ble_eq_true rfl, Nat.le_of_ble_eq_true rfl⟩ (fun _ H locs hP hD hS => ?_)
    have hP : va_P z.1 classes (wv z ad E M2) H := hP
    have hD : va_D A (wv z ad E M2) := hD
    refine W.eq (g2 := F0 m 26 ls [.int (oI r2)]) rfl ?_
    refine lv_pop hx hb d_1_45_26 rfl ?_
    refine lv_iconst (v := oI 0) hx hb d_1_45_27 (by decide +kernel) ?_
    refine lv_istore_n (lv' := [(3, .int (oI 0)), (0, .ref (ad 1)), (1, .int (oI x1)), (2, .int (oI x2))]) hx hb d_1_45_28 rfl hl (by decide) rfl (fun ls hl => ?_)
    refine lv_iconst (v := oI 0) hx hb d_1_45_29 (by decide +kernel) ?_
    refine lv_istore (lv' := [(4, .int (oI 0)), (3, .int (oI 0)), (0, .ref (ad 1)), (1, .int (oI x1)), (2, .int (oI x2))]) hx hb d_1_45_30 hl (by decide) rfl (fun ls hl => ?_)
    obtain ⟨⟨t11, v11_3, v11_4, M11⟩, g11, h⟩ := bd_e h
    obtain ⟨ok11, h⟩ := ck_e h
    refine s_B_wasted_32 l z ad E x1 x2 hx hb hml hts hown hlocks hA hG hZ hL FU M2 0 0 t11 v11_3 v11_4 M11 g11 (fun e11 H locs ls hP hD hS hl => ?_) H locs ls hP hD hS (lv_sub hl [2, 3, 4, 1, 0] rfl)
    refine lv_iload_n hx hb d_1_45_97 rfl (lv_at hl 0 rfl) ?_
    obtain ⟨rfl, rfl⟩ := in2 h
    exact W.iret hx hb hr (fun t ht hW => qkA hP hD hS (fun k => k) rfl rfl ht) hS.2.2 d_1_45_98
  exact key _ _ _ hts hP hS
set_option maxRecDepth 100000 in
set_option maxHeartbeats 4000000 in
theorem b_La_districts_24b (l : Launch) (z : Zz) (E0 : Ev) (ad0 : Nat → Nat) (ad : Nat → Nat) (E : Ev) (M : Mm) (x2 : Int) (q3 : Nat) (x4 : Int) (t : Nat) (w4 : Int) (F : Ev) (N : Mm) {Q : State → Prop} {p : Program} {e : Env} {s : State} {m : MethodId} {below : List Frame} {meth : Method} {c : Code} {A : Nat → Prop} {args : Array Value} (hx : p.tables.exec = Jvm.exec) (hb : c.code = method_12_code) (hml : c.maxLocals = 13) (hts : ∀ w ∈ WG, w.before args s = true) (hown : s.vm.findClass "BallothallLaw" = some m.cls) (hlocks : meth.locks = false) (hA : ∀ q, s.heap.size ≤ q → A q) (hG : KG z s) (hZ : FZ z A s) (mc ms c0 s0 c1 s1 : Nat) (hc : c0 + 0 ≤ c1) (hs : s0 + 0 ≤ s1) (hm : c1 ≤ mc) (hm2 : s1 ≤ ms) (hag0 : ∀ i, i < nE E0 → ad i = ad0 i) (hE0 : nE E0 ≤ nE E) (h : La_districts_24b E M x2 q3 x4 = some (t, w4, F, N)) (k0 : ∀ (ad1 : Nat → Nat), (∀ i, i < nE E0 → ad1 i = ad0 i) → nE E0 ≤ nE F → t = 0 → ∀ (H : Heap) (locs : List Loc) (ls : Array Slot), va_P z.1 classes (wv z ad1 F N) H → va_D A (wv z ad1 F N) → va_S A s.heap H locs → lv_has ls 13 [(0, .ref (ad1 1)), (1, .ref (ad1 1)), (2, .int (oI x2)), (3, .ref (ad1 q3)), (4, .int (oI w4))] → W p l e (rmK 4 117 mc ms) s m args below meth c H locs c1 s1 Q (F0 m 24 ls [])) (k1 : ∀ (ad1 : Nat → Nat), (∀ i, i < nE E0 → ad1 i = ad0 i) → nE E0 ≤ nE F → t = 1 → ∀ (H : Heap) (locs : List Loc) (ls : Array Slot), va_P z.1 classes (wv z ad1 F N) H → va_D A (wv z ad1 F N) → va_S A s.heap H locs → lv_has ls 13 [(0, .ref (ad1 1)), (1, .ref (ad1 1)), (2, .int (oI x2)), (3, .ref (ad1 q3))] → W p l e (rmK 4 117 mc ms) s m args below meth c H locs c1 s1 Q (F0 m 70 ls [])) : ∀ (H : Heap) (locs : List Loc) (ls : Array Slot), va_P z.1 classes (wv z ad E M) H → va_D A (wv z ad E M) → va_S A s.heap H locs → lv_has ls 13 [(0, .ref (ad 1)), (1, .ref (ad 1)), (2, .int (oI x2)), (3, .ref (ad q3)), (4, .int (oI x4))] → W p l e (rmK 4 117 mc ms) s m args below meth c H locs c0 s0 Q (F0 m 24 ls []) := by
  intro H locs ls hP hD hS hl
  unfold La_districts_24b at h
  obtain ⟨hL, h⟩ := ck_e h
  obtain ⟨h_q3, h⟩ := ck_e h
  refine lv_iload hx hb d_L12_24 (lv_at hl 4 rfl) ?_
  refine lv_iload_n hx hb d_L12_26 rfl (lv_at hl 2 rfl) ?_
  obtain ⟨ok5, h⟩ := ck_e h
  obtain ⟨ok6, h⟩ := ck_e h
  refine lv_icmp_ge (tgt := 70) hx hb d_L12_27 (by decide) (fun c9 => ?_) (fun c9 => ?_)
  · have h := ite_t ((oI_le (a := x2) (b := x4) ok6 ok5).mp c9) h
    obtain ⟨rfl, rfl, rfl, rfl⟩ := in4 h
    exact W.wide (by omega) (by omega) (k1 ad hag0 hE0 rfl H locs ls hP hD hS (lv_sub hl [0, 1, 2, 3] rfl))
  · have h := ite_f (fun q => c9 ((oI_le (a := x2) (b := x4) ok6 ok5).mpr q)) h
    refine lv_aload_n hx hb d_L12_30 rfl (lv_at hl 3 rfl) ?_
    refine lv_iload hx hb d_L12_31 (lv_at hl 4 rfl) ?_
    refine lv_iconst (v := oI 1) hx hb d_L12_33 (by decide +kernel) ?_
    refine lv_aload_n hx hb d_L12_34 rfl (lv_at hl 0 rfl) ?_
    refine lv_bipush (v := oI 50) hx hb d_L12_35 (by decide +kernel) ?_
    obtain ⟨⟨r7, M7⟩, g7, h⟩ := bd_e h
    refine kS (As := [.ref (ad 1), .int (oI 50)]) (rest := [.int (oI 1), .int (oI x4), .ref (ad q3)]) (s_La_next l z ad E M 1 50 r7 M7 hL g7) hx hb hml hown hts w_797 w_795 w_796 w_0 md_199d8f ⟨Nat.le_of_ble_eq_true rfl, Nat.le_of_ble_eq_true rfl⟩ hG hZ hP hD hS hA rfl hl.1 rfl (Nat.le_of_ble_eq_true rfl) d_L12_37 ⟨(show _ ≤ mc by omega), (show _ ≤ ms by omega)⟩ (fun _ H locs hP hD hS => ?_)
    have hP : va_P z.1 classes (wv z ad E M7) H := hP
    have hD : va_D A (wv z ad E M7) := hD
    refine W.eq (g2 := F0 m 40 ls [.int (oI r7), .int (oI 1), .int (oI x4), .ref (ad q3)]) rfl ?_
    refine lv_iadd hx hb d_L12_40 ?_
    refine nrm (oI_add _ _) ?_
    obtain ⟨ok8, h⟩ := ck_e h
    refine m_is hx hb hG hP hD hS h_q3.1 (isIA_T h_q3) ok8 d_L12_41 (fun H locs hP hD hS => ?_)
    have hP : va_P z.1 classes (wv z ad E (u2 M7 q3 x4.toNat (1 + r7))) H := hP
    have hD : va_D A (wv z ad E (u2 M7 q3 x4.toNat (1 + r7))) := hD
    refine lv_aload_n hx hb d_L12_42 rfl (lv_at hl 1 rfl) ?_
    refine lv_aload_n hx hb d_L12_43 rfl (lv_at hl 3 rfl) ?_
    refine lv_iload hx hb d_L12_44 (lv_at hl 4 rfl) ?_
    refine m_ia hx hb hG hP h_q3.1 (isIA_T h_q3) ok8 d_L12_46 ?_
    refine lv_aload_n hx hb d_L12_47 rfl (lv_at hl 0 rfl) ?_
    refine lv_bipush (v := oI 30) hx hb d_L12_48 (by decide +kernel) ?_
    obtain ⟨⟨r9, M9⟩, g9, h⟩ := bd_e h
    refine kS (As := [.ref (ad 1), .int (oI 30)]) (rest := [.int (oI ((u2 M7 q3 x4.toNat (1 + r7)) q3 x4.toNat)), .ref (ad 1)]) (s_La_next l z ad E (u2 M7 q3 x4.toNat (1 + r7)) 1 30 r9 M9 hL g9) hx hb hml hown hts w_797 w_795 w_796 w_0 md_199d8f ⟨Nat.le_of_ble_eq_true rfl, Nat.le_of_ble_eq_true rfl⟩ hG hZ hP hD hS hA rfl hl.1 rfl (Nat.le_of_ble_eq_true rfl) d_L12_50 ⟨(show _ ≤ mc by omega), (show _ ≤ ms by omega)⟩ (fun _ H locs hP hD hS => ?_)
    have hP : va_P z.1 classes (wv z ad E M9) H := hP
    have hD : va_D A (wv z ad E M9) := hD
    refine W.eq (g2 := F0 m 53 ls [.int (oI r9), .int (oI ((u2 M7 q3 x4.toNat (1 + r7)) q3 x4.toNat)), .ref (ad 1)]) rfl ?_
    refine lv_aload_n hx hb d_L12_53 rfl (lv_at hl 0 rfl) ?_
    refine lv_bipush (v := oI 30) hx hb d_L12_54 (by decide +kernel) ?_
    obtain ⟨⟨r10, M10⟩, g10, h⟩ := bd_e h
    refine kS (As := [.ref (ad 1), .int (oI 30)]) (rest := [.int (oI r9), .int (oI ((u2 M7 q3 x4.toNat (1 + r7)) q3 x4.toNat)), .ref (ad 1)]) (s_La_next l z ad E M9 1 30 r10 M10 hL g10) hx hb hml hown hts w_797 w_795 w_796 w_0 md_199d8f ⟨Nat.le_of_ble_eq_true rfl, Nat.le_of_ble_eq_true rfl⟩ hG hZ hP hD hS hA rfl hl.1 rfl (Nat.le_of_ble_eq_true rfl) d_L12_56 ⟨(show _ ≤ mc by omega), (show _ ≤ ms by omega)⟩ (fun _ H locs hP hD hS => ?_)
    have hP : va_P z.1 classes (wv z ad E M10) H := hP
    have hD : va_D A (wv z ad E M10) := hD
    refine W.eq (g2 := F0 m 59 ls [.int (oI r10), .int (oI r9), .int (oI ((u2 M7 q3 x4.toNat (1 + r7)) q3 x4.toNat)), .ref (ad 1)]) rfl ?_
    obtain ⟨⟨r11, M11⟩, g11, h⟩ := bd_e h
    refine kV (As := [.int (oI ((u2 M7 q3 x4.toNat (1 + r7)) q3 x4.toNat)), .int (oI r9), .int (oI r10)]) (rest := []) (s_B_ward l z ad E M10 ((u2 M7 q3 x4.toNat (1 + r7)) q3 x4.toNat) r9 r10 r11 M11 hL g11) hx hb hml hown hts w_1609 w_1606 w_1607 w_1608 w_1 md_8c59c6 ⟨Nat.le_of_ble_eq_true rfl, Nat.le_of_ble_eq_true rfl⟩ hG hZ hP hD hS hA 1 (wv_o (ci := 11) (yi_1 hL) (yt_1 hL)) rfl rfl rfl hl.1 rfl (Nat.le_of_ble_eq_true rfl) d_L12_59 ⟨(show _ ≤ mc by omega), (show _ ≤ ms by omega)⟩ (fun _ H locs hP hD hS => ?_)
    have hP : va_P z.1 classes (wv z ad E M11) H := hP
    have hD : va_D A (wv z ad E M11) := hD
    refine W.eq (g2 := F0 m 62 ls [.int (oI r11)]) rfl ?_
    refine lv_istore (lv' := [(5, .int (oI r11)), (0, .ref (ad 1)), (1, .ref (ad 1)), (2, .int (oI x2)), (3, .ref (ad q3)), (4, .int (oI x4))]) hx hb d_L12_62 hl (by decide) rfl (fun ls hl => ?_)
    refine lv_iinc (v := oI (x4 + 1)) (lv' := [(4, .int (oI (x4 + 1))), (5, .int (oI r11)), (0, .ref (ad 1)), (1, .ref (ad 1)), (2, .int (oI x2)), (3, .ref (ad q3))]) hx hb d_L12_64 hl (k := 5) rfl (oI_add x4 1) (by decide) rfl (fun ls hl => ?_)
    refine lv_goto (tgt := 24) hx hb d_L12_67 (by decide) ?_
    obtain ⟨rfl, rfl, rfl, rfl⟩ := in4 h
    exact W.wide (by omega) (by omega) (k0 ad hag0 hE0 rfl H locs ls hP hD hS (lv_sub hl [2, 3, 4, 5, 0] rfl))
set_option maxRecDepth 100000 in
set_option maxHeartbeats 4000000 in
theorem s_La_districts_24 (l : Launch) (z : Zz) (E0 : Ev) (ad0 : Nat → Nat) (x2 : Int) (q3 : Nat) {Q : State → Prop} {p : Program} {e : Env} {s : State} {m : MethodId} {below : List Frame} {meth : Method} {c : Code} {A : Nat → Prop} {args : Array Value} (hx : p.tables.exec = Jvm.exec) (hb : c.code = method_12_code) (hml : c.maxLocals = 13) (hts : ∀ w ∈ WG, w.before args s = true) (hown : s.vm.findClass "BallothallLaw" = some m.cls) (hlocks : meth.locks = false) (hA : ∀ q, s.heap.size ≤ q → A q) (hG : KG z s) (hZ : FZ z A s) (mc ms c1 s1 : Nat) (hm : c1 ≤ mc) (hm2 : s1 ≤ ms) : ∀ (fu c0 s0 : Nat) (ad : Nat → Nat) (E : Ev) (M : Mm) (x4 : Int) (t : Nat) (w4 : Int) (F : Ev) (N : Mm), c0 + fu * 0 ≤ c1 → s0 + fu * 0 ≤ s1 → (∀ i, i < nE E0 → ad i = ad0 i) → nE E0 ≤ nE E → l_La_districts_24 x2 q3 fu E M x4 = some (t, w4, F, N) → (∀ (ad1 : Nat → Nat), (∀ i, i < nE E0 → ad1 i = ad0 i) → nE E0 ≤ nE F → t = 1 → ∀ (H : Heap) (locs : List Loc) (ls : Array Slot), va_P z.1 classes (wv z ad1 F N) H → va_D A (wv z ad1 F N) → va_S A s.heap H locs → lv_has ls 13 [(0, .ref (ad1 1)), (1, .ref (ad1 1)), (2, .int (oI x2)), (3, .ref (ad1 q3))] → W p l e (rmK 4 117 mc ms) s m args below meth c H locs c1 s1 Q (F0 m 70 ls [])) → ∀ (H : Heap) (locs : List Loc) (ls : Array Slot), va_P z.1 classes (wv z ad E M) H → va_D A (wv z ad E M) → va_S A s.heap H locs → lv_has ls 13 [(0, .ref (ad 1)), (1, .ref (ad 1)), (2, .int (oI x2)), (3, .ref (ad q3)), (4, .int (oI x4))] → W p l e (rmK 4 117 mc ms) s m args below meth c H locs c0 s0 Q (F0 m 24 ls []) := by
  intro fu
  induction fu with
  | zero =>
    intro c0 s0 ad E M x4 t w4 F N hc hs hag0 hE0 h
    have h : (none : Option (Nat × Int × Ev × Mm)) = some _ := h
    cases h
  | succ fu ih =>
    intro c0 s0 ad E M x4 t w4 F N hc hs hag0 hE0 h k1 H locs ls hP hD hS hl
    obtain ⟨⟨t0, w40, F9, N9⟩, g0, h⟩ := bd_e h
    refine W.wide (Nat.le_refl _) (Nat.le_refl _) (b_La_districts_24b l z E0 ad0 ad E M x2 q3 x4 t0 w40 F9 N9 hx hb hml hts hown hlocks hA hG hZ mc ms c0 s0 (c0 + 0) (s0 + 0) (Nat.le_refl _) (Nat.le_refl _) (by omega) (by omega) hag0 hE0 g0 (fun ad1 ha he e0 => ?_) (fun ad1 ha he e0 => ?_) H locs ls hP hD hS hl)
    · subst e0
      have h := ite_t rfl h
      exact ih (c0 + 0) (s0 + 0) ad1 F9 N9 w40 t w4 F N (by omega) (by omega) ha he h k1
    · subst e0
      have h := ite_f (by decide) h
      obtain ⟨rfl, rfl, rfl, rfl⟩ := in4 h
      exact fun H locs ls hP hD hS hl => W.wide (by omega) (by omega) (k1 ad1 ha he rfl H locs ls hP hD hS hl)
set_option maxRecDepth 100000 in
set_option maxHeartbeats 4000000 in
theorem b_La_districts_j170 (l : Launch) (z : Zz) (E0 : Ev) (ad0 : Nat → Nat) (ad : Nat → Nat) (E : Ev) (M : Mm) (x2 : Int) (q3 : Nat) (x4 : Int) (x5 : Int) (q6 : Nat) (x7 : Int) (x8 : Int) (x9 : Int) (q10 : Nat) (x11 : Int) (x12 : Int) (t : Nat) (w8 : Int) (w9 : Int) (w11 : Int) (w12 : Int) (F : Ev) (N : Mm) {Q : State → Prop} {p : Program} {e : Env} {s : State} {m : MethodId} {below : List Frame} {meth : Method} {c : Code} {A : Nat → Prop} {args : Array Value} (hx : p.tables.exec = Jvm.exec) (hb : c.code = method_12_code) (hml : c.maxLocals = 13) (hts : ∀ w ∈ WG, w.before args s = true) (hown : s.vm.findClass "BallothallLaw" = some m.cls) (hlocks : meth.locks = false) (hA : ∀ q, s.heap.size ≤ q → A q) (hG : KG z s) (hZ : FZ z A s) (mc ms c0 s0 c1 s1 : Nat) (hc : c0 + 0 ≤ c1) (hs : s0 + 0 ≤ s1) (hm : c1 ≤ mc) (hm2 : s1 ≤ ms) (hag0 : ∀ i, i < nE E0 → ad i = ad0 i) (hE0 : nE E0 ≤ nE E) (h : La_districts_j170 E M x2 q3 x4 x5 q6 x7 x8 x9 q10 x11 x12 = some (t, w8, w9, w11, w12, F, N)) (k0 : ∀ (ad1 : Nat → Nat), (∀ i, i < nE E0 → ad1 i = ad0 i) → nE E0 ≤ nE F → t = 0 → ∀ (H : Heap) (locs : List Loc) (ls : Array Slot), va_P z.1 classes (wv z ad1 F N) H → va_D A (wv z ad1 F N) → va_S A s.heap H locs → lv_has ls 13 [(1, .ref (ad1 1)), (2, .int (oI x2)), (3, .ref (ad1 q3)), (4, .int (oI x4)), (5, .int (oI x5)), (6, .ref (ad1 q6)), (7, .int (oI x7)), (8, .int (oI w8)), (9, .int (oI w9)), (10, .ref (ad1 q10)), (11, .int (oI w11)), (12, .int (oI w12))] → W p l e (rmK 4 117 mc ms) s m args below meth c H locs c1 s1 Q (F0 m 136 ls [])) (k1 : ∀ (ad1 : Nat → Nat), (∀ i, i < nE E0 → ad1 i = ad0 i) → nE E0 ≤ nE F → t = 1 → ∀ (H : Heap) (locs : List Loc) (ls : Array Slot), va_P z.1 classes (wv z ad1 F N) H → va_D A (wv z ad1 F N) → va_S A s.heap H locs → lv_has ls 13 [(1, .ref (ad1 1)), (2, .int (oI x2)), (3, .ref (ad1 q3)), (4, .int (oI x4)), (5, .int (oI x5)), (6, .ref (ad1 q6)), (7, .int (oI x7)), (8, .int (oI w8)), (10, .ref (ad1 q10))] → W p l e (rmK 4 117 mc ms) s m args below meth c H locs c1 s1 Q (F0 m 198 ls [])) : ∀ (H : Heap) (locs : List Loc) (ls : Array Slot), va_P z.1 classes (wv z ad E M) H → va_D A (wv z ad E M) → va_S A s.heap H locs → lv_has ls 13 [(1, .ref (ad 1)), (2, .int (oI x2)), (3, .ref (ad q3)), (4, .int (oI x4)), (5, .int (oI x5)), (6, .ref (ad q6)), (7, .int (oI x7)), (8, .int (oI x8)), (9, .int (oI x9)), (10, .ref (ad q10)), (11, .int (oI x11)), (12, .int (oI x12))] → W p l e (rmK 4 117 mc ms) s m args below meth c H locs c0 s0 Q (F0 m 170 ls []) := by
  intro H locs ls hP hD hS hl
  unfold La_districts_j170 at h
  obtain ⟨hL, h⟩ := ck_e h
  obtain ⟨h_q3, h⟩ := ck_e h
  obtain ⟨h_q6, h⟩ := ck_e h
  obtain ⟨h_q10, h⟩ := ck_e h
  refine lv_iload hx hb d_L12_170 (lv_at hl 7 rfl) ?_
  refine lv_iload hx hb d_L12_172 (lv_at hl 8 rfl) ?_
  obtain ⟨ok28, h⟩ := ck_e h
  obtain ⟨ok29, h⟩ := ck_e h
  refine va_mmax hx hb (by rw [hml]; exact hl.1.symm) hown (hts _ w_1326) (hts _ w_632) (hts _ w_17) (hts _ w_max) (Nat.le_of_ble_eq_true rfl) (Nat.le_of_ble_eq_true rfl) (Nat.le_of_ble_eq_true rfl) (Nat.le_of_ble_eq_true rfl) d_L12_174 ?_
  refine nrm (mx_oI (a := x8) (b := x9) ok28 ok29) ?_
  refine lv_istore (lv' := [(8, .int (oI (max x8 x9))), (1, .ref (ad 1)), (2, .int (oI x2)), (3, .ref (ad q3)), (4, .int (oI x4)), (5, .int (oI x5)), (6, .ref (ad q6)), (7, .int (oI x7)), (9, .int (oI x9)), (10, .ref (ad q10)), (11, .int (oI x11)), (12, .int (oI x12))]) hx hb d_L12_177 hl (by decide) rfl (fun ls hl => ?_)
  refine lv_iconst (v := oI 0) hx hb d_L12_179 (by decide +kernel) ?_
  refine lv_istore (lv' := [(9, .int (oI 0)), (8, .int (oI (max x8 x9))), (1, .ref (ad 1)), (2, .int (oI x2)), (3, .ref (ad q3)), (4, .int (oI x4)), (5, .int (oI x5)), (6, .ref (ad q6)), (7, .int (oI x7)), (10, .ref (ad q10)), (11, .int (oI x11)), (12, .int (oI x12))]) hx hb d_L12_180 hl (by decide) rfl (fun ls hl => ?_)
  refine lv_aload hx hb d_L12_182 (lv_at hl 9 rfl) ?_
  refine lv_iload hx hb d_L12_184 (lv_at hl 10 rfl) ?_
  refine lv_iload hx hb d_L12_186 (lv_at hl 11 rfl) ?_
  obtain ⟨ok30, h⟩ := ck_e h
  refine m_is hx hb hG hP hD hS h_q10.1 (isIA_T h_q10) ok30 d_L12_188 (fun H locs hP hD hS => ?_)
  have hP : va_P z.1 classes (wv z ad E (u2 M q10 x11.toNat x12)) H := hP
  have hD : va_D A (wv z ad E (u2 M q10 x11.toNat x12)) := hD
  refine lv_iinc (v := oI (x11 + 1)) (lv' := [(11, .int (oI (x11 + 1))), (9, .int (oI 0)), (8, .int (oI (max x8 x9))), (1, .ref (ad 1)), (2, .int (oI x2)), (3, .ref (ad q3)), (4, .int (oI x4)), (5, .int (oI x5)), (6, .ref (ad q6)), (7, .int (oI x7)), (10, .ref (ad q10)), (12, .int (oI x12))]) hx hb d_L12_189 hl (k := 10) rfl (oI_add x11 1) (by decide) rfl (fun ls hl => ?_)
  refine lv_iinc (v := oI (x12 + 1)) (lv' := [(12, .int (oI (x12 + 1))), (11, .int (oI (x11 + 1))), (9, .int (oI 0)), (8, .int (oI (max x8 x9))), (1, .ref (ad 1)), (2, .int (oI x2)), (3, .ref (ad q3)), (4, .int (oI x4)), (5, .int (oI x5)), (6, .ref (ad q6)), (7, .int (oI x7)), (10, .ref (ad q10))]) hx hb d_L12_192 hl (k := 11) rfl (oI_add x12 1) (by decide) rfl (fun ls hl => ?_)
  refine lv_goto (tgt := 136) hx hb d_L12_195 (by decide) ?_
  obtain ⟨rfl, rfl, rfl, rfl, rfl, rfl, rfl⟩ := in7 h
  exact W.wide (by omega) (by omega) (k0 ad hag0 hE0 rfl H locs ls hP hD hS (lv_sub hl [4, 5, 6, 7, 8, 9, 10, 3, 2, 11, 1, 0] rfl))
set_option maxRecDepth 100000 in
set_option maxHeartbeats 4000000 in
theorem b_La_districts_136b (l : Launch) (z : Zz) (E0 : Ev) (ad0 : Nat → Nat) (ad : Nat → Nat) (E : Ev) (M : Mm) (x2 : Int) (q3 : Nat) (x4 : Int) (x5 : Int) (q6 : Nat) (x7 : Int) (q10 : Nat) (x8 : Int) (x9 : Int) (x11 : Int) (x12 : Int) (t : Nat) (w8 : Int) (w9 : Int) (w11 : Int) (w12 : Int) (F : Ev) (N : Mm) {Q : State → Prop} {p : Program} {e : Env} {s : State} {m : MethodId} {below : List Frame} {meth : Method} {c : Code} {A : Nat → Prop} {args : Array Value} (hx : p.tables.exec = Jvm.exec) (hb : c.code = method_12_code) (hml : c.maxLocals = 13) (hts : ∀ w ∈ WG, w.before args s = true) (hown : s.vm.findClass "BallothallLaw" = some m.cls) (hlocks : meth.locks = false) (hA : ∀ q, s.heap.size ≤ q → A q) (hG : KG z s) (hZ : FZ z A s) (mc ms c0 s0 c1 s1 : Nat) (hc : c0 + 0 ≤ c1) (hs : s0 + 0 ≤ s1) (hm : c1 ≤ mc) (hm2 : s1 ≤ ms) (hag0 : ∀ i, i < nE E0 → ad i = ad0 i) (hE0 : nE E0 ≤ nE E) (h : La_districts_136b E M x2 q3 x4 x5 q6 x7 q10 x8 x9 x11 x12 = some (t, w8, w9, w11, w12, F, N)) (k0 : ∀ (ad1 : Nat → Nat), (∀ i, i < nE E0 → ad1 i = ad0 i) → nE E0 ≤ nE F → t = 0 → ∀ (H : Heap) (locs : List Loc) (ls : Array Slot), va_P z.1 classes (wv z ad1 F N) H → va_D A (wv z ad1 F N) → va_S A s.heap H locs → lv_has ls 13 [(1, .ref (ad1 1)), (2, .int (oI x2)), (3, .ref (ad1 q3)), (4, .int (oI x4)), (5, .int (oI x5)), (6, .ref (ad1 q6)), (7, .int (oI x7)), (8, .int (oI w8)), (9, .int (oI w9)), (10, .ref (ad1 q10)), (11, .int (oI w11)), (12, .int (oI w12))] → W p l e (rmK 4 117 mc ms) s m args below meth c H locs c1 s1 Q (F0 m 136 ls [])) (k1 : ∀ (ad1 : Nat → Nat), (∀ i, i < nE E0 → ad1 i = ad0 i) → nE E0 ≤ nE F → t = 1 → ∀ (H : Heap) (locs : List Loc) (ls : Array Slot), va_P z.1 classes (wv z ad1 F N) H → va_D A (wv z ad1 F N) → va_S A s.heap H locs → lv_has ls 13 [(1, .ref (ad1 1)), (2, .int (oI x2)), (3, .ref (ad1 q3)), (4, .int (oI x4)), (5, .int (oI x5)), (6, .ref (ad1 q6)), (7, .int (oI x7)), (8, .int (oI w8)), (10, .ref (ad1 q10))] → W p l e (rmK 4 117 mc ms) s m args below meth c H locs c1 s1 Q (F0 m 198 ls [])) : ∀ (H : Heap) (locs : List Loc) (ls : Array Slot), va_P z.1 classes (wv z ad E M) H → va_D A (wv z ad E M) → va_S A s.heap H locs → lv_has ls 13 [(1, .ref (ad 1)), (2, .int (oI x2)), (3, .ref (ad q3)), (4, .int (oI x4)), (5, .int (oI x5)), (6, .ref (ad q6)), (7, .int (oI x7)), (8, .int (oI x8)), (9, .int (oI x9)), (10, .ref (ad q10)), (11, .int (oI x11)), (12, .int (oI x12))] → W p l e (rmK 4 117 mc ms) s m args below meth c H locs c0 s0 Q (F0 m 136 ls []) := by
  intro H locs ls hP hD hS hl
  unfold La_districts_136b at h
  obtain ⟨hL, h⟩ := ck_e h
  obtain ⟨h_q3, h⟩ := ck_e h
  obtain ⟨h_q6, h⟩ := ck_e h
  obtain ⟨h_q10, h⟩ := ck_e h
  refine lv_iload hx hb d_L12_136 (lv_at hl 11 rfl) ?_
  refine lv_iload_n hx hb d_L12_138 rfl (lv_at hl 1 rfl) ?_
  obtain ⟨ok24, h⟩ := ck_e h
  obtain ⟨ok25, h⟩ := ck_e h
  refine lv_icmp_ge (tgt := 198) hx hb d_L12_139 (by decide) (fun c9 => ?_) (fun c9 => ?_)
  · have h := ite_t ((oI_le (a := x2) (b := x12) ok25 ok24).mp c9) h
    obtain ⟨rfl, rfl, rfl, rfl, rfl, rfl, rfl⟩ := in7 h
    exact W.wide (by omega) (by omega) (k1 ad hag0 hE0 rfl H locs ls hP hD hS (lv_sub hl [0, 1, 2, 3, 4, 5, 6, 7, 9] rfl))
  · have h := ite_f (fun q => c9 ((oI_le (a := x2) (b := x12) ok25 ok24).mpr q)) h
    refine lv_iload hx hb d_L12_142 (lv_at hl 8 rfl) ?_
    refine lv_aload_n hx hb d_L12_144 rfl (lv_at hl 2 rfl) ?_
    refine lv_iload hx hb d_L12_145 (lv_at hl 11 rfl) ?_
    obtain ⟨ok26, h⟩ := ck_e h
    refine m_ia hx hb hG hP h_q3.1 (isIA_T h_q3) ok26 d_L12_147 ?_
    refine lv_iadd hx hb d_L12_148 ?_
    refine nrm (oI_add _ _) ?_
    refine lv_istore (lv' := [(9, .int (oI (x9 + (M q3 x12.toNat)))), (1, .ref (ad 1)), (2, .int (oI x2)), (3, .ref (ad q3)), (4, .int (oI x4)), (5, .int (oI x5)), (6, .ref (ad q6)), (7, .int (oI x7)), (8, .int (oI x8)), (10, .ref (ad q10)), (11, .int (oI x11)), (12, .int (oI x12))]) hx hb d_L12_149 hl (by decide) rfl (fun ls hl => ?_)
    refine lv_iload hx hb d_L12_151 (lv_at hl 11 rfl) ?_
    refine lv_iload_n hx hb d_L12_153 rfl (lv_at hl 2 rfl) ?_
    refine lv_iconst (v := oI 1) hx hb d_L12_154 (by decide +kernel) ?_
    refine lv_isub hx hb d_L12_155 ?_
    refine nrm (oI_sub _ _) ?_
    obtain ⟨ok27, h⟩ := ck_e h
    refine lv_icmp_eq (tgt := 170) hx hb d_L12_156 (by decide) (fun c9 => ?_) (fun c9 => ?_)
    · have h := ite_t ((oI_eq (a := x12) (b := (x2 - 1)) ok24 ok27).mp c9) h
      exact b_La_districts_j170 l z E0 ad0 ad E M x2 q3 x4 x5 q6 x7 x8 (x9 + (M q3 x12.toNat)) q10 x11 x12 t w8 w9 w11 w12 F N hx hb hml hts hown hlocks hA hG hZ mc ms _ _ c1 s1 (by omega) (by omega) hm hm2 hag0 hE0 h k0 k1 H locs ls hP hD hS (lv_sub hl [1, 2, 3, 4, 5, 6, 7, 8, 0, 9, 10, 11] rfl)
    · have h := ite_f (fun q => c9 ((oI_eq (a := x12) (b := (x2 - 1)) ok24 ok27).mpr q)) h
      refine lv_iload hx hb d_L12_159 (lv_at hl 7 rfl) ?_
      refine lv_iload hx hb d_L12_161 (lv_at hl 11 rfl) ?_
      obtain ⟨ok31, h⟩ := ck_e h
      obtain ⟨ok32, h⟩ := ck_e h
      refine lv_ishr hx hb d_L12_163 ?_
      refine nrm (oI_shr (a := x7) ok31 ok32.1 ok32.2) ?_
      refine lv_iconst (v := oI 1) hx hb d_L12_164 (by decide +kernel) ?_
      refine lv_iand hx hb d_L12_165 ?_
      refine nrm (oI_m1 _) ?_
      refine lv_iconst (v := oI 1) hx hb d_L12_166 (by decide +kernel) ?_
      refine lv_icmp_ne (tgt := 192) hx hb d_L12_167 (by decide) (fun c9 => ?_) (fun c9 => ?_)
      · have h := ite_f (fun q => c9 ((oI_eq (a := ((x7 / 2 ^ x12.toNat) % 2)) (b := (1 : Int)) ⟨by omega, by omega⟩ (by decide)).mpr q)) h
        refine lv_iinc (v := oI (x12 + 1)) (lv' := [(12, .int (oI (x12 + 1))), (9, .int (oI (x9 + (M q3 x12.toNat)))), (1, .ref (ad 1)), (2, .int (oI x2)), (3, .ref (ad q3)), (4, .int (oI x4)), (5, .int (oI x5)), (6, .ref (ad q6)), (7, .int (oI x7)), (8, .int (oI x8)), (10, .ref (ad q10)), (11, .int (oI x11))]) hx hb d_L12_192 hl (k := 11) rfl (oI_add x12 1) (by decide) rfl (fun ls hl => ?_)
        refine lv_goto (tgt := 136) hx hb d_L12_195 (by decide) ?_
        obtain ⟨rfl, rfl, rfl, rfl, rfl, rfl, rfl⟩ := in7 h
        exact W.wide (by omega) (by omega) (k0 ad hag0 hE0 rfl H locs ls hP hD hS (lv_sub hl [2, 3, 4, 5, 6, 7, 8, 9, 1, 10, 11, 0] rfl))
      · have h := ite_t ((oI_eq (a := ((x7 / 2 ^ x12.toNat) % 2)) (b := (1 : Int)) ⟨by omega, by omega⟩ (by decide)).mp c9) h
        exact b_La_districts_j170 l z E0 ad0 ad E M x2 q3 x4 x5 q6 x7 x8 (x9 + (M q3 x12.toNat)) q10 x11 x12 t w8 w9 w11 w12 F N hx hb hml hts hown hlocks hA hG hZ mc ms _ _ c1 s1 (by omega) (by omega) hm hm2 hag0 hE0 h k0 k1 H locs ls hP hD hS (lv_sub hl [1, 2, 3, 4, 5, 6, 7, 8, 0, 9, 10, 11] rfl)
set_option maxRecDepth 100000 in
set_option maxHeartbeats 4000000 in
theorem s_La_districts_136 (l : Launch) (z : Zz) (E0 : Ev) (ad0 : Nat → Nat) (x2 : Int) (q3 : Nat) (x4 : Int) (x5 : Int) (q6 : Nat) (x7 : Int) (q10 : Nat) {Q : State → Prop} {p : Program} {e : Env} {s : State} {m : MethodId} {below : List Frame} {meth : Method} {c : Code} {A : Nat → Prop} {args : Array Value} (hx : p.tables.exec = Jvm.exec) (hb : c.code = method_12_code) (hml : c.maxLocals = 13) (hts : ∀ w ∈ WG, w.before args s = true) (hown : s.vm.findClass "BallothallLaw" = some m.cls) (hlocks : meth.locks = false) (hA : ∀ q, s.heap.size ≤ q → A q) (hG : KG z s) (hZ : FZ z A s) (mc ms c1 s1 : Nat) (hm : c1 ≤ mc) (hm2 : s1 ≤ ms) : ∀ (fu c0 s0 : Nat) (ad : Nat → Nat) (E : Ev) (M : Mm) (x8 : Int) (x9 : Int) (x11 : Int) (x12 : Int) (t : Nat) (w8 : Int) (w9 : Int) (w11 : Int) (w12 : Int) (F : Ev) (N : Mm), c0 + fu * 0 ≤ c1 → s0 + fu * 0 ≤ s1 → (∀ i, i < nE E0 → ad i = ad0 i) → nE E0 ≤ nE E → l_La_districts_136 x2 q3 x4 x5 q6 x7 q10 fu E M x8 x9 x11 x12 = some (t, w8, w9, w11, w12, F, N) → (∀ (ad1 : Nat → Nat), (∀ i, i < nE E0 → ad1 i = ad0 i) → nE E0 ≤ nE F → t = 1 → ∀ (H : Heap) (locs : List Loc) (ls : Array Slot), va_P z.1 classes (wv z ad1 F N) H → va_D A (wv z ad1 F N) → va_S A s.heap H locs → lv_has ls 13 [(1, .ref (ad1 1)), (2, .int (oI x2)), (3, .ref (ad1 q3)), (4, .int (oI x4)), (5, .int (oI x5)), (6, .ref (ad1 q6)), (7, .int (oI x7)), (8, .int (oI w8)), (10, .ref (ad1 q10))] → W p l e (rmK 4 117 mc ms) s m args below meth c H locs c1 s1 Q (F0 m 198 ls [])) → ∀ (H : Heap) (locs : List Loc) (ls : Array Slot), va_P z.1 classes (wv z ad E M) H → va_D A (wv z ad E M) → va_S A s.heap H locs → lv_has ls 13 [(1, .ref (ad 1)), (2, .int (oI x2)), (3, .ref (ad q3)), (4, .int (oI x4)), (5, .int (oI x5)), (6, .ref (ad q6)), (7, .int (oI x7)), (8, .int (oI x8)), (9, .int (oI x9)), (10, .ref (ad q10)), (11, .int (oI x11)), (12, .int (oI x12))] → W p l e (rmK 4 117 mc ms) s m args below meth c H locs c0 s0 Q (F0 m 136 ls []) := by
  intro fu
  induction fu with
  | zero =>
    intro c0 s0 ad E M x8 x9 x11 x12 t w8 w9 w11 w12 F N hc hs hag0 hE0 h
    have h : (none : Option (Nat × Int × Int × Int × Int × Ev × Mm)) = some _ := h
    cases h
  | succ fu ih =>
    intro c0 s0 ad E M x8 x9 x11 x12 t w8 w9 w11 w12 F N hc hs hag0 hE0 h k1 H locs ls hP hD hS hl
    obtain ⟨⟨t0, w80, w90, w110, w120, F9, N9⟩, g0, h⟩ := bd_e h
    refine W.wide (Nat.le_refl _) (Nat.le_refl _) (b_La_districts_136b l z E0 ad0 ad E M x2 q3 x4 x5 q6 x7 q10 x8 x9 x11 x12 t0 w80 w90 w110 w120 F9 N9 hx hb hml hts hown hlocks hA hG hZ mc ms c0 s0 (c0 + 0) (s0 + 0) (Nat.le_refl _) (Nat.le_refl _) (by omega) (by omega) hag0 hE0 g0 (fun ad1 ha he e0 => ?_) (fun ad1 ha he e0 => ?_) H locs ls hP hD hS hl)
    · subst e0
      have h := ite_t rfl h
      exact ih (c0 + 0) (s0 + 0) ad1 F9 N9 w80 w90 w110 w120 t w8 w9 w11 w12 F N (by omega) (by omega) ha he h k1
    · subst e0
      have h := ite_f (by decide) h
      obtain ⟨rfl, rfl, rfl, rfl, rfl, rfl, rfl⟩ := in7 h
      exact fun H locs ls hP hD hS hl => W.wide (by omega) (by omega) (k1 ad1 ha he rfl H locs ls hP hD hS hl)
set_option maxRecDepth 100000 in
set_option maxHeartbeats 4000000 in
theorem b_La_districts_201b (l : Launch) (z : Zz) (E0 : Ev) (ad0 : Nat → Nat) (ad : Nat → Nat) (E : Ev) (M : Mm) (x2 : Int) (q3 : Nat) (x4 : Int) (x5 : Int) (q6 : Nat) (x7 : Int) (x8 : Int) (q10 : Nat) (x12 : Int) (t : Nat) (w12 : Int) (F : Ev) (N : Mm) {Q : State → Prop} {p : Program} {e : Env} {s : State} {m : MethodId} {below : List Frame} {meth : Method} {c : Code} {A : Nat → Prop} {args : Array Value} (hx : p.tables.exec = Jvm.exec) (hb : c.code = method_12_code) (hml : c.maxLocals = 13) (hts : ∀ w ∈ WG, w.before args s = true) (hown : s.vm.findClass "BallothallLaw" = some m.cls) (hlocks : meth.locks = false) (hA : ∀ q, s.heap.size ≤ q → A q) (hG : KG z s) (hZ : FZ z A s) (mc ms c0 s0 c1 s1 : Nat) (hc : c0 + 0 ≤ c1) (hs : s0 + 0 ≤ s1) (hm : c1 ≤ mc) (hm2 : s1 ≤ ms) (hag0 : ∀ i, i < nE E0 → ad i = ad0 i) (hE0 : nE E0 ≤ nE E) (h : La_districts_201b E M x2 q3 x4 x5 q6 x7 x8 q10 x12 = some (t, w12, F, N)) (k0 : ∀ (ad1 : Nat → Nat), (∀ i, i < nE E0 → ad1 i = ad0 i) → nE E0 ≤ nE F → t = 0 → ∀ (H : Heap) (locs : List Loc) (ls : Array Slot), va_P z.1 classes (wv z ad1 F N) H → va_D A (wv z ad1 F N) → va_S A s.heap H locs → lv_has ls 13 [(1, .ref (ad1 1)), (2, .int (oI x2)), (3, .ref (ad1 q3)), (4, .int (oI x4)), (5, .int (oI x5)), (6, .ref (ad1 q6)), (7, .int (oI x7)), (8, .int (oI x8)), (10, .ref (ad1 q10)), (12, .int (oI w12))] → W p l e (rmK 4 117 mc ms) s m args below meth c H locs c1 s1 Q (F0 m 201 ls [])) (k1 : ∀ (ad1 : Nat → Nat), (∀ i, i < nE E0 → ad1 i = ad0 i) → nE E0 ≤ nE F → t = 1 → ∀ (H : Heap) (locs : List Loc) (ls : Array Slot), va_P z.1 classes (wv z ad1 F N) H → va_D A (wv z ad1 F N) → va_S A s.heap H locs → lv_has ls 13 [(1, .ref (ad1 1)), (2, .int (oI x2)), (3, .ref (ad1 q3)), (4, .int (oI x4)), (5, .int (oI x5)), (6, .ref (ad1 q6)), (7, .int (oI x7)), (8, .int (oI x8)), (10, .ref (ad1 q10)), (12, .int (oI w12))] → W p l e (rmK 4 117 mc ms) s m args below meth c H locs c1 s1 Q (F0 m 229 ls [])) : ∀ (H : Heap) (locs : List Loc) (ls : Array Slot), va_P z.1 classes (wv z ad E M) H → va_D A (wv z ad E M) → va_S A s.heap H locs → lv_has ls 13 [(1, .ref (ad 1)), (2, .int (oI x2)), (3, .ref (ad q3)), (4, .int (oI x4)), (5, .int (oI x5)), (6, .ref (ad q6)), (7, .int (oI x7)), (8, .int (oI x8)), (10, .ref (ad q10)), (12, .int (oI x12))] → W p l e (rmK 4 117 mc ms) s m args below meth c H locs c0 s0 Q (F0 m 201 ls []) := by
  intro H locs ls hP hD hS hl
  unfold La_districts_201b at h
  obtain ⟨hL, h⟩ := ck_e h
  obtain ⟨h_q3, h⟩ := ck_e h
  obtain ⟨h_q6, h⟩ := ck_e h
  obtain ⟨h_q10, h⟩ := ck_e h
  refine lv_iload hx hb d_L12_201 (lv_at hl 9 rfl) ?_
  refine lv_iload hx hb d_L12_203 (lv_at hl 3 rfl) ?_
  refine lv_iconst (v := oI 1) hx hb d_L12_205 (by decide +kernel) ?_
  refine lv_isub hx hb d_L12_206 ?_
  refine nrm (oI_sub _ _) ?_
  obtain ⟨ok34, h⟩ := ck_e h
  obtain ⟨ok35, h⟩ := ck_e h
  refine lv_icmp_ge (tgt := 229) hx hb d_L12_207 (by decide) (fun c9 => ?_) (fun c9 => ?_)
  · have h := ite_t ((oI_le (a := (x4 - 1)) (b := x12) ok35 ok34).mp c9) h
    obtain ⟨rfl, rfl, rfl, rfl⟩ := in4 h
    exact W.wide (by omega) (by omega) (k1 ad hag0 hE0 rfl H locs ls hP hD hS (lv_sub hl [0, 1, 2, 3, 4, 5, 6, 7, 8, 9] rfl))
  · have h := ite_f (fun q => c9 ((oI_le (a := (x4 - 1)) (b := x12) ok35 ok34).mpr q)) h
    refine lv_aload hx hb d_L12_210 (lv_at hl 8 rfl) ?_
    refine lv_iload hx hb d_L12_212 (lv_at hl 9 rfl) ?_
    obtain ⟨ok36, h⟩ := ck_e h
    refine m_ia hx hb hG hP h_q10.1 (isIA_T h_q10) ok36 d_L12_214 ?_
    refine lv_aload hx hb d_L12_215 (lv_at hl 5 rfl) ?_
    refine lv_iload hx hb d_L12_217 (lv_at hl 9 rfl) ?_
    obtain ⟨ok37, h⟩ := ck_e h
    refine m_ia hx hb hG hP h_q6.1 (isIA_T h_q6) ok37 d_L12_219 ?_
    obtain ⟨ok38, h⟩ := ck_e h
    obtain ⟨ok39, h⟩ := ck_e h
    refine lv_icmp_ne (tgt := 229) hx hb d_L12_220 (by decide) (fun c9 => ?_) (fun c9 => ?_)
    · have h := ite_f (fun q => c9 ((oI_eq (a := (M q10 x12.toNat)) (b := (M q6 x12.toNat)) ok38 ok39).mpr q)) h
      obtain ⟨rfl, rfl, rfl, rfl⟩ := in4 h
      exact W.wide (by omega) (by omega) (k1 ad hag0 hE0 rfl H locs ls hP hD hS (lv_sub hl [0, 1, 2, 3, 4, 5, 6, 7, 8, 9] rfl))
    · have h := ite_t ((oI_eq (a := (M q10 x12.toNat)) (b := (M q6 x12.toNat)) ok38 ok39).mp c9) h
      refine lv_iinc (v := oI (x12 + 1)) (lv' := [(12, .int (oI (x12 + 1))), (1, .ref (ad 1)), (2, .int (oI x2)), (3, .ref (ad q3)), (4, .int (oI x4)), (5, .int (oI x5)), (6, .ref (ad q6)), (7, .int (oI x7)), (8, .int (oI x8)), (10, .ref (ad q10))]) hx hb d_L12_223 hl (k := 9) rfl (oI_add x12 1) (by decide) rfl (fun ls hl => ?_)
      refine lv_goto (tgt := 201) hx hb d_L12_226 (by decide) ?_
      obtain ⟨rfl, rfl, rfl, rfl⟩ := in4 h
      exact W.wide (by omega) (by omega) (k0 ad hag0 hE0 rfl H locs ls hP hD hS (lv_sub hl [1, 2, 3, 4, 5, 6, 7, 8, 9, 0] rfl))
set_option maxRecDepth 100000 in
set_option maxHeartbeats 4000000 in
theorem s_La_districts_201 (l : Launch) (z : Zz) (E0 : Ev) (ad0 : Nat → Nat) (x2 : Int) (q3 : Nat) (x4 : Int) (x5 : Int) (q6 : Nat) (x7 : Int) (x8 : Int) (q10 : Nat) {Q : State → Prop} {p : Program} {e : Env} {s : State} {m : MethodId} {below : List Frame} {meth : Method} {c : Code} {A : Nat → Prop} {args : Array Value} (hx : p.tables.exec = Jvm.exec) (hb : c.code = method_12_code) (hml : c.maxLocals = 13) (hts : ∀ w ∈ WG, w.before args s = true) (hown : s.vm.findClass "BallothallLaw" = some m.cls) (hlocks : meth.locks = false) (hA : ∀ q, s.heap.size ≤ q → A q) (hG : KG z s) (hZ : FZ z A s) (mc ms c1 s1 : Nat) (hm : c1 ≤ mc) (hm2 : s1 ≤ ms) : ∀ (fu c0 s0 : Nat) (ad : Nat → Nat) (E : Ev) (M : Mm) (x12 : Int) (t : Nat) (w12 : Int) (F : Ev) (N : Mm), c0 + fu * 0 ≤ c1 → s0 + fu * 0 ≤ s1 → (∀ i, i < nE E0 → ad i = ad0 i) → nE E0 ≤ nE E → l_La_districts_201 x2 q3 x4 x5 q6 x7 x8 q10 fu E M x12 = some (t, w12, F, N) → (∀ (ad1 : Nat → Nat), (∀ i, i < nE E0 → ad1 i = ad0 i) → nE E0 ≤ nE F → t = 1 → ∀ (H : Heap) (locs : List Loc) (ls : Array Slot), va_P z.1 classes (wv z ad1 F N) H → va_D A (wv z ad1 F N) → va_S A s.heap H locs → lv_has ls 13 [(1, .ref (ad1 1)), (2, .int (oI x2)), (3, .ref (ad1 q3)), (4, .int (oI x4)), (5, .int (oI x5)), (6, .ref (ad1 q6)), (7, .int (oI x7)), (8, .int (oI x8)), (10, .ref (ad1 q10)), (12, .int (oI w12))] → W p l e (rmK 4 117 mc ms) s m args below meth c H locs c1 s1 Q (F0 m 229 ls [])) → ∀ (H : Heap) (locs : List Loc) (ls : Array Slot), va_P z.1 classes (wv z ad E M) H → va_D A (wv z ad E M) → va_S A s.heap H locs → lv_has ls 13 [(1, .ref (ad 1)), (2, .int (oI x2)), (3, .ref (ad q3)), (4, .int (oI x4)), (5, .int (oI x5)), (6, .ref (ad q6)), (7, .int (oI x7)), (8, .int (oI x8)), (10, .ref (ad q10)), (12, .int (oI x12))] → W p l e (rmK 4 117 mc ms) s m args below meth c H locs c0 s0 Q (F0 m 201 ls []) := by
  intro fu
  induction fu with
  | zero =>
    intro c0 s0 ad E M x12 t w12 F N hc hs hag0 hE0 h
    have h : (none : Option (Nat × Int × Ev × Mm)) = some _ := h
    cases h
  | succ fu ih =>
    intro c0 s0 ad E M x12 t w12 F N hc hs hag0 hE0 h k1 H locs ls hP hD hS hl
    obtain ⟨⟨t0, w120, F9, N9⟩, g0, h⟩ := bd_e h
    refine W.wide (Nat.le_refl _) (Nat.le_refl _) (b_La_districts_201b l z E0 ad0 ad E M x2 q3 x4 x5 q6 x7 x8 q10 x12 t0 w120 F9 N9 hx hb hml hts hown hlocks hA hG hZ mc ms c0 s0 (c0 + 0) (s0 + 0) (Nat.le_refl _) (Nat.le_refl _) (by omega) (by omega) hag0 hE0 g0 (fun ad1 ha he e0 => ?_) (fun ad1 ha he e0 => ?_) H locs ls hP hD hS hl)
    · subst e0
      have h := ite_t rfl h
      exact ih (c0 + 0) (s0 + 0) ad1 F9 N9 w120 t w12 F N (by omega) (by omega) ha he h k1
    · subst e0
      have h := ite_f (by decide) h
      obtain ⟨rfl, rfl, rfl, rfl⟩ := in4 h
      exact fun H locs ls hP hD hS hl => W.wide (by omega) (by omega) (k1 ad1 ha he rfl H locs ls hP hD hS hl)
set_option maxRecDepth 100000 in
set_option maxHeartbeats 4000000 in
theorem b_La_districts_j229 (l : Launch) (z : Zz) (E0 : Ev) (ad0 : Nat → Nat) (ad : Nat → Nat) (E : Ev) (M : Mm) (x2 : Int) (q3 : Nat) (x4 : Int) (x5 : Int) (q6 : Nat) (x7 : Int) (x8 : Int) (q10 : Nat) (x12 : Int) (t : Nat) (w5 : Int) (w6 : Nat) (w7 : Int) (F : Ev) (N : Mm) {Q : State → Prop} {p : Program} {e : Env} {s : State} {m : MethodId} {below : List Frame} {meth : Method} {c : Code} {A : Nat → Prop} {args : Array Value} (hx : p.tables.exec = Jvm.exec) (hb : c.code = method_12_code) (hml : c.maxLocals = 13) (hts : ∀ w ∈ WG, w.before args s = true) (hown : s.vm.findClass "BallothallLaw" = some m.cls) (hlocks : meth.locks = false) (hA : ∀ q, s.heap.size ≤ q → A q) (hG : KG z s) (hZ : FZ z A s) (mc ms c0 s0 c1 s1 : Nat) (hc : c0 + 0 ≤ c1) (hs : s0 + 0 ≤ s1) (hm : c1 ≤ mc) (hm2 : s1 ≤ ms) (hag0 : ∀ i, i < nE E0 → ad i = ad0 i) (hE0 : nE E0 ≤ nE E) (h : La_districts_j229 E M x2 q3 x4 x5 q6 x7 x8 q10 x12 = some (t, w5, w6, w7, F, N)) (k0 : ∀ (ad1 : Nat → Nat), (∀ i, i < nE E0 → ad1 i = ad0 i) → nE E0 ≤ nE F → t = 0 → ∀ (H : Heap) (locs : List Loc) (ls : Array Slot), va_P z.1 classes (wv z ad1 F N) H → va_D A (wv z ad1 F N) → va_S A s.heap H locs → lv_has ls 13 [(1, .ref (ad1 1)), (2, .int (oI x2)), (3, .ref (ad1 q3)), (4, .int (oI x4)), (5, .int (oI w5)), (6, .ref (ad1 w6)), (7, .int (oI w7))] → W p l e (rmK 4 117 mc ms) s m args below meth c H locs c1 s1 Q (F0 m 93 ls [])) (k1 : ∀ (ad1 : Nat → Nat), (∀ i, i < nE E0 → ad1 i = ad0 i) → nE E0 ≤ nE F → t = 1 → ∀ (H : Heap) (locs : List Loc) (ls : Array Slot), va_P z.1 classes (wv z ad1 F N) H → va_D A (wv z ad1 F N) → va_S A s.heap H locs → lv_has ls 13 [(1, .ref (ad1 1)), (4, .int (oI x4)), (5, .int (oI w5)), (6, .ref (ad1 w6))] → W p l e (rmK 4 117 mc ms) s m args below meth c H locs c1 s1 Q (F0 m 270 ls [])) : ∀ (H : Heap) (locs : List Loc) (ls : Array Slot), va_P z.1 classes (wv z ad E M) H → va_D A (wv z ad E M) → va_S A s.heap H locs → lv_has ls 13 [(1, .ref (ad 1)), (2, .int (oI x2)), (3, .ref (ad q3)), (4, .int (oI x4)), (5, .int (oI x5)), (6, .ref (ad q6)), (7, .int (oI x7)), (8, .int (oI x8)), (10, .ref (ad q10)), (12, .int (oI x12))] → W p l e (rmK 4 117 mc ms) s m args below meth c H locs c0 s0 Q (F0 m 229 ls []) := by
  intro H locs ls hP hD hS hl
  unfold La_districts_j229 at h
  obtain ⟨hL, h⟩ := ck_e h
  obtain ⟨h_q3, h⟩ := ck_e h
  obtain ⟨h_q6, h⟩ := ck_e h
  obtain ⟨h_q10, h⟩ := ck_e h
  refine lv_iload hx hb d_L12_229 (lv_at hl 7 rfl) ?_
  refine lv_iload hx hb d_L12_231 (lv_at hl 4 rfl) ?_
  obtain ⟨ok41, h⟩ := ck_e h
  obtain ⟨ok42, h⟩ := ck_e h
  refine lv_icmp_lt (tgt := 256) hx hb d_L12_233 (by decide) (fun c9 => ?_) (fun c9 => ?_)
  · have h := ite_t ((oI_lt (a := x8) (b := x5) ok41 ok42).mp c9) h
    refine lv_iload hx hb d_L12_256 (lv_at hl 7 rfl) ?_
    refine lv_istore (lv' := [(5, .int (oI x8)), (1, .ref (ad 1)), (2, .int (oI x2)), (3, .ref (ad q3)), (4, .int (oI x4)), (6, .ref (ad q6)), (7, .int (oI x7)), (8, .int (oI x8)), (10, .ref (ad q10)), (12, .int (oI x12))]) hx hb d_L12_258 hl (by decide) rfl (fun ls hl => ?_)
    refine lv_aload hx hb d_L12_260 (lv_at hl 8 rfl) ?_
    refine lv_astore (lv' := [(6, .ref (ad q10)), (5, .int (oI x8)), (1, .ref (ad 1)), (2, .int (oI x2)), (3, .ref (ad q3)), (4, .int (oI x4)), (7, .int (oI x7)), (8, .int (oI x8)), (10, .ref (ad q10)), (12, .int (oI x12))]) hx hb d_L12_262 hl (by decide) rfl (fun ls hl => ?_)
    refine lv_iinc (v := oI (x7 + 1)) (lv' := [(7, .int (oI (x7 + 1))), (6, .ref (ad q10)), (5, .int (oI x8)), (1, .ref (ad 1)), (2, .int (oI x2)), (3, .ref (ad q3)), (4, .int (oI x4)), (8, .int (oI x8)), (10, .ref (ad q10)), (12, .int (oI x12))]) hx hb d_L12_264 hl (k := 6) rfl (oI_add x7 1) (by decide) rfl (fun ls hl => ?_)
    refine lv_goto (tgt := 93) hx hb d_L12_267 (by decide) ?_
    obtain ⟨rfl, rfl, rfl, rfl, rfl, rfl⟩ := in6 h
    exact W.wide (by omega) (by omega) (k0 ad hag0 hE0 rfl H locs ls hP hD hS (lv_sub hl [3, 4, 5, 6, 2, 1, 0] rfl))
  · have h := ite_f (fun q => c9 ((oI_lt (a := x8) (b := x5) ok41 ok42).mpr q)) h
    refine lv_iload hx hb d_L12_236 (lv_at hl 7 rfl) ?_
    refine lv_iload hx hb d_L12_238 (lv_at hl 4 rfl) ?_
    refine lv_icmp_ne (tgt := 264) hx hb d_L12_240 (by decide) (fun c9 => ?_) (fun c9 => ?_)
    · have h := ite_f (fun q => c9 ((oI_eq (a := x8) (b := x5) ok41 ok42).mpr q)) h
      refine lv_iinc (v := oI (x7 + 1)) (lv' := [(7, .int (oI (x7 + 1))), (1, .ref (ad 1)), (2, .int (oI x2)), (3, .ref (ad q3)), (4, .int (oI x4)), (5, .int (oI x5)), (6, .ref (ad q6)), (8, .int (oI x8)), (10, .ref (ad q10)), (12, .int (oI x12))]) hx hb d_L12_264 hl (k := 6) rfl (oI_add x7 1) (by decide) rfl (fun ls hl => ?_)
      refine lv_goto (tgt := 93) hx hb d_L12_267 (by decide) ?_
      obtain ⟨rfl, rfl, rfl, rfl, rfl, rfl⟩ := in6 h
      exact W.wide (by omega) (by omega) (k0 ad hag0 hE0 rfl H locs ls hP hD hS (lv_sub hl [1, 2, 3, 4, 5, 6, 0] rfl))
    · have h := ite_t ((oI_eq (a := x8) (b := x5) ok41 ok42).mp c9) h
      refine lv_aload hx hb d_L12_243 (lv_at hl 8 rfl) ?_
      refine lv_iload hx hb d_L12_245 (lv_at hl 9 rfl) ?_
      obtain ⟨ok43, h⟩ := ck_e h
      refine m_ia hx hb hG hP h_q10.1 (isIA_T h_q10) ok43 d_L12_247 ?_
      refine lv_aload hx hb d_L12_248 (lv_at hl 5 rfl) ?_
      refine lv_iload hx hb d_L12_250 (lv_at hl 9 rfl) ?_
      obtain ⟨ok44, h⟩ := ck_e h
      refine m_ia hx hb hG hP h_q6.1 (isIA_T h_q6) ok44 d_L12_252 ?_
      obtain ⟨ok45, h⟩ := ck_e h
      obtain ⟨ok46, h⟩ := ck_e h
      refine lv_icmp_ge (tgt := 264) hx hb d_L12_253 (by decide) (fun c9 => ?_) (fun c9 => ?_)
      · have h := ite_t ((oI_le (a := (M q6 x12.toNat)) (b := (M q10 x12.toNat)) ok46 ok45).mp c9) h
        refine lv_iinc (v := oI (x7 + 1)) (lv' := [(7, .int (oI (x7 + 1))), (1, .ref (ad 1)), (2, .int (oI x2)), (3, .ref (ad q3)), (4, .int (oI x4)), (5, .int (oI x5)), (6, .ref (ad q6)), (8, .int (oI x8)), (10, .ref (ad q10)), (12, .int (oI x12))]) hx hb d_L12_264 hl (k := 6) rfl (oI_add x7 1) (by decide) rfl (fun ls hl => ?_)
        refine lv_goto (tgt := 93) hx hb d_L12_267 (by decide) ?_
        obtain ⟨rfl, rfl, rfl, rfl, rfl, rfl⟩ := in6 h
        exact W.wide (by omega) (by omega) (k0 ad hag0 hE0 rfl H locs ls hP hD hS (lv_sub hl [1, 2, 3, 4, 5, 6, 0] rfl))
      · have h := ite_f (fun q => c9 ((oI_le (a := (M q6 x12.toNat)) (b := (M q10 x12.toNat)) ok46 ok45).mpr q)) h
        refine lv_iload hx hb d_L12_256 (lv_at hl 7 rfl) ?_
        refine lv_istore (lv' := [(5, .int (oI x8)), (1, .ref (ad 1)), (2, .int (oI x2)), (3, .ref (ad q3)), (4, .int (oI x4)), (6, .ref (ad q6)), (7, .int (oI x7)), (8, .int (oI x8)), (10, .ref (ad q10)), (12, .int (oI x12))]) hx hb d_L12_258 hl (by decide) rfl (fun ls hl => ?_)
        refine lv_aload hx hb d_L12_260 (lv_at hl 8 rfl) ?_
        refine lv_astore (lv' := [(6, .ref (ad q10)), (5, .int (oI x8)), (1, .ref (ad 1)), (2, .int (oI x2)), (3, .ref (ad q3)), (4, .int (oI x4)), (7, .int (oI x7)), (8, .int (oI x8)), (10, .ref (ad q10)), (12, .int (oI x12))]) hx hb d_L12_262 hl (by decide) rfl (fun ls hl => ?_)
        refine lv_iinc (v := oI (x7 + 1)) (lv' := [(7, .int (oI (x7 + 1))), (6, .ref (ad q10)), (5, .int (oI x8)), (1, .ref (ad 1)), (2, .int (oI x2)), (3, .ref (ad q3)), (4, .int (oI x4)), (8, .int (oI x8)), (10, .ref (ad q10)), (12, .int (oI x12))]) hx hb d_L12_264 hl (k := 6) rfl (oI_add x7 1) (by decide) rfl (fun ls hl => ?_)
        refine lv_goto (tgt := 93) hx hb d_L12_267 (by decide) ?_
        obtain ⟨rfl, rfl, rfl, rfl, rfl, rfl⟩ := in6 h
        exact W.wide (by omega) (by omega) (k0 ad hag0 hE0 rfl H locs ls hP hD hS (lv_sub hl [3, 4, 5, 6, 2, 1, 0] rfl))
set_option maxRecDepth 100000 in
set_option maxHeartbeats 4000000 in
theorem b_La_districts_93b (l : Launch) (z : Zz) (E0 : Ev) (ad0 : Nat → Nat) (ad : Nat → Nat) (E : Ev) (M : Mm) (x2 : Int) (q3 : Nat) (x4 : Int) (x5 : Int) (q6 : Nat) (x7 : Int) (t : Nat) (w5 : Int) (w6 : Nat) (w7 : Int) (F : Ev) (N : Mm) {Q : State → Prop} {p : Program} {e : Env} {s : State} {m : MethodId} {below : List Frame} {meth : Method} {c : Code} {A : Nat → Prop} {args : Array Value} (hx : p.tables.exec = Jvm.exec) (hb : c.code = method_12_code) (hml : c.maxLocals = 13) (hts : ∀ w ∈ WG, w.before args s = true) (hown : s.vm.findClass "BallothallLaw" = some m.cls) (hlocks : meth.locks = false) (hA : ∀ q, s.heap.size ≤ q → A q) (hG : KG z s) (hZ : FZ z A s) (mc ms c0 s0 c1 s1 : Nat) (hc : c0 + 1 ≤ c1) (hs : s0 + 8 ≤ s1) (hm : c1 ≤ mc) (hm2 : s1 ≤ ms) (hag0 : ∀ i, i < nE E0 → ad i = ad0 i) (hE0 : nE E0 ≤ nE E) (h : La_districts_93b E M x2 q3 x4 x5 q6 x7 = some (t, w5, w6, w7, F, N)) (k0 : ∀ (ad1 : Nat → Nat), (∀ i, i < nE E0 → ad1 i = ad0 i) → nE E0 ≤ nE F → t = 0 → ∀ (H : Heap) (locs : List Loc) (ls : Array Slot), va_P z.1 classes (wv z ad1 F N) H → va_D A (wv z ad1 F N) → va_S A s.heap H locs → lv_has ls 13 [(1, .ref (ad1 1)), (2, .int (oI x2)), (3, .ref (ad1 q3)), (4, .int (oI x4)), (5, .int (oI w5)), (6, .ref (ad1 w6)), (7, .int (oI w7))] → W p l e (rmK 4 117 mc ms) s m args below meth c H locs c1 s1 Q (F0 m 93 ls [])) (k1 : ∀ (ad1 : Nat → Nat), (∀ i, i < nE E0 → ad1 i = ad0 i) → nE E0 ≤ nE F → t = 1 → ∀ (H : Heap) (locs : List Loc) (ls : Array Slot), va_P z.1 classes (wv z ad1 F N) H → va_D A (wv z ad1 F N) → va_S A s.heap H locs → lv_has ls 13 [(1, .ref (ad1 1)), (4, .int (oI x4)), (5, .int (oI w5)), (6, .ref (ad1 w6))] → W p l e (rmK 4 117 mc ms) s m args below meth c H locs c1 s1 Q (F0 m 270 ls [])) : ∀ (H : Heap) (locs : List Loc) (ls : Array Slot), va_P z.1 classes (wv z ad E M) H → va_D A (wv z ad E M) → va_S A s.heap H locs → lv_has ls 13 [(1, .ref (ad 1)), (2, .int (oI x2)), (3, .ref (ad q3)), (4, .int (oI x4)), (5, .int (oI x5)), (6, .ref (ad q6)), (7, .int (oI x7))] → W p l e (rmK 4 117 mc ms) s m args below meth c H locs c0 s0 Q (F0 m 93 ls []) := by
  intro H locs ls hP hD hS hl
  unfold La_districts_93b at h
  obtain ⟨hL, h⟩ := ck_e h
  obtain ⟨h_q3, h⟩ := ck_e h
  obtain ⟨h_q6, h⟩ := ck_e h
  refine lv_iload hx hb d_L12_93 (lv_at hl 6 rfl) ?_
  refine lv_iconst (v := oI 1) hx hb d_L12_95 (by decide +kernel) ?_
  refine lv_iload_n hx hb d_L12_96 rfl (lv_at hl 1 rfl) ?_
  refine lv_iconst (v := oI 1) hx hb d_L12_97 (by decide +kernel) ?_
  refine lv_isub hx hb d_L12_98 ?_
  refine nrm (oI_sub _ _) ?_
  obtain ⟨ok16, h⟩ := ck_e h
  refine lv_ishl hx hb d_L12_99 ?_
  refine nrm (oI_one_shl ok16) ?_
  obtain ⟨ok17, h⟩ := ck_e h
  obtain ⟨ok18, h⟩ := ck_e h
  refine lv_icmp_ge (tgt := 270) hx hb d_L12_100 (by decide) (fun c9 => ?_) (fun c9 => ?_)
  · have h := ite_t ((oI_le (a := (2 ^ (x2 - 1).toNat)) (b := x7) ok18 ok17).mp c9) h
    obtain ⟨rfl, rfl, rfl, rfl, rfl, rfl⟩ := in6 h
    exact W.wide (by omega) (by omega) (k1 ad hag0 hE0 rfl H locs ls hP hD hS (lv_sub hl [0, 3, 4, 5] rfl))
  · have h := ite_f (fun q => c9 ((oI_le (a := (2 ^ (x2 - 1).toNat)) (b := x7) ok18 ok17).mpr q)) h
    refine lv_iload hx hb d_L12_103 (lv_at hl 6 rfl) ?_
    obtain ⟨r19, g19, h⟩ := bd_e h
    refine kS (As := [.int (oI x7)]) (rest := []) (s_In_bitCount l z ad E M x7 r19 hL g19) hx hb hml hown hts w_657 w_1256 w_656 w_30 md_eafe8c ⟨Nat.le_of_ble_eq_true rfl, Nat.le_of_ble_eq_true rfl⟩ hG hZ hP hD hS hA rfl hl.1 rfl (Nat.le_of_ble_eq_true rfl) d_L12_105 ⟨(show _ ≤ mc by omega), (show _ ≤ ms by omega)⟩ (fun _ H locs hP hD hS => ?_)
    have hP : va_P z.1 classes (wv z ad E M) H := hP
    have hD : va_D A (wv z ad E M) := hD
    refine W.eq (g2 := F0 m 108 ls [.int (oI r19)]) rfl ?_
    refine lv_iload hx hb d_L12_108 (lv_at hl 3 rfl) ?_
    refine lv_iconst (v := oI 1) hx hb d_L12_110 (by decide +kernel) ?_
    refine lv_isub hx hb d_L12_111 ?_
    refine nrm (oI_sub _ _) ?_
    obtain ⟨ok20, h⟩ := ck_e h
    obtain ⟨ok21, h⟩ := ck_e h
    refine lv_icmp_eq (tgt := 118) hx hb d_L12_112 (by decide) (fun c9 => ?_) (fun c9 => ?_)
    · have h := ite_t ((oI_eq (a := r19) (b := (x4 - 1)) ok20 ok21).mp c9) h
      refine lv_iconst (v := oI 0) hx hb d_L12_118 (by decide +kernel) ?_
      refine lv_istore (lv' := [(8, .int (oI 0)), (1, .ref (ad 1)), (2, .int (oI x2)), (3, .ref (ad q3)), (4, .int (oI x4)), (5, .int (oI x5)), (6, .ref (ad q6)), (7, .int (oI x7))]) hx hb d_L12_119 hl (by decide) rfl (fun ls hl => ?_)
      refine lv_iconst (v := oI 0) hx hb d_L12_121 (by decide +kernel) ?_
      refine lv_istore (lv' := [(9, .int (oI 0)), (8, .int (oI 0)), (1, .ref (ad 1)), (2, .int (oI x2)), (3, .ref (ad q3)), (4, .int (oI x4)), (5, .int (oI x5)), (6, .ref (ad q6)), (7, .int (oI x7))]) hx hb d_L12_122 hl (by decide) rfl (fun ls hl => ?_)
      refine lv_iload hx hb d_L12_124 (lv_at hl 5 rfl) ?_
      obtain ⟨ok22, h⟩ := ck_e h
      obtain ⟨p23, ep23, h⟩ := nb_e h
      obtain ⟨E23, eE23, h⟩ := nb_e h
      obtain ⟨M23, eM23, h⟩ := nb_e h
      refine m_newI (x := x4) (N := 8) hx hb ok22.1 ok22.2 (by decide) (hts _ w_100) hG hP hD hS hA (show _ ≤ mc by omega) (show _ ≤ ms by omega) d_L12_126 (fun ad23 H hag23 hP hD hS => ?_)
      have hP : va_P z.1 classes (wv z ad23 E23 M23) H := by rw [eE23, eM23]; exact hP
      have hD : va_D A (wv z ad23 E23 M23) := by rw [eE23, eM23]; exact hD
      refine W.eq (g2 := F0 m 128 ls (.ref (ad23 p23) :: [])) (by rw [ep23] <;> rfl) ?_
      have hl : lv_has ls 13 [(9, .int (oI 0)), (8, .int (oI 0)), (1, .ref (ad23 1)), (2, .int (oI x2)), (3, .ref (ad23 q3)), (4, .int (oI x4)), (5, .int (oI x5)), (6, .ref (ad23 q6)), (7, .int (oI x7))] := by rw [hag23 1 (yi_1 hL), hag23 q3 h_q3.1, hag23 q6 h_q6.1]; exact hl
      have hgw23 : Gw E E23 := by rw [eE23]; exact gw_new _ _
      have hL23 : Lay E23 := by rw [eE23]; exact lay_new hL
      have hag0 : ∀ i, i < nE E0 → ad23 i = ad0 i := fun i hi => (hag23 i (Nat.lt_of_lt_of_le hi hE0)).trans (hag0 i hi)
      have hE0 : nE E0 ≤ nE E23 := Nat.le_trans hE0 hgw23.1
      have hL : Lay E23 := hL23
      have h_q3 : isIA E23 q3 := isA_up hgw23 h_q3
      have h_q6 : isIA E23 q6 := isA_up hgw23 h_q6
      have h_p23 : isIA E23 p23 := by rw [ep23, eE23]; exact ⟨new_i _ _, by rw [new_T]⟩
      refine lv_astore (lv' := [(10, .ref (ad23 p23)), (9, .int (oI 0)), (8, .int (oI 0)), (1, .ref (ad23 1)), (2, .int (oI x2)), (3, .ref (ad23 q3)), (4, .int (oI x4)), (5, .int (oI x5)), (6, .ref (ad23 q6)), (7, .int (oI x7))]) hx hb d_L12_128 hl (by decide) rfl (fun ls hl => ?_)
      refine lv_iconst (v := oI 0) hx hb d_L12_130 (by decide +kernel) ?_
      refine lv_istore (lv' := [(11, .int (oI 0)), (10, .ref (ad23 p23)), (9, .int (oI 0)), (8, .int (oI 0)), (1, .ref (ad23 1)), (2, .int (oI x2)), (3, .ref (ad23 q3)), (4, .int (oI x4)), (5, .int (oI x5)), (6, .ref (ad23 q6)), (7, .int (oI x7))]) hx hb d_L12_131 hl (by decide) rfl (fun ls hl => ?_)
      refine lv_iconst (v := oI 0) hx hb d_L12_133 (by decide +kernel) ?_
      refine lv_istore (lv' := [(12, .int (oI 0)), (11, .int (oI 0)), (10, .ref (ad23 p23)), (9, .int (oI 0)), (8, .int (oI 0)), (1, .ref (ad23 1)), (2, .int (oI x2)), (3, .ref (ad23 q3)), (4, .int (oI x4)), (5, .int (oI x5)), (6, .ref (ad23 q6)), (7, .int (oI x7))]) hx hb d_L12_134 hl (by decide) rfl (fun ls hl => ?_)
      obtain ⟨⟨t33, v33_8, v33_9, v33_11, v33_12, E33, M33⟩, g33, h⟩ := bd_e h
      obtain ⟨hgw33, h⟩ := ck_e h
      obtain ⟨hL33, h⟩ := ck_e h
      obtain ⟨ok33, h⟩ := ck_e h
      refine s_La_districts_136 l z E23 ad23 x2 q3 x4 x5 q6 x7 p23 hx hb hml hts hown hlocks hA hG hZ mc ms (c0 + 1) (s0 + 8) (by omega) (by omega) 5000 _ _ ad23 E23 M23 0 0 0 0 t33 v33_8 v33_9 v33_11 v33_12 E33 M33 (by omega) (by omega) (fun _ _ => rfl) (Nat.le_refl _) g33 (fun ad33 hag33 hEE33 e33 H locs ls hP hD hS hl => ?_) H locs ls hP hD hS (lv_sub hl [5, 6, 7, 8, 9, 10, 11, 4, 3, 2, 1, 0] rfl)
      have hag0 : ∀ i, i < nE E0 → ad33 i = ad0 i := fun i hi => (hag33 i (Nat.lt_of_lt_of_le hi hE0)).trans (hag0 i hi)
      have hE0 : nE E0 ≤ nE E33 := Nat.le_trans hE0 hgw33.1
      have hL : Lay E33 := hL33
      have h_q3 : isIA E33 q3 := isA_up hgw33 h_q3
      have h_q6 : isIA E33 q6 := isA_up hgw33 h_q6
      have h_p23 : isIA E33 p23 := isA_up hgw33 h_p23
      refine lv_iconst (v := oI 0) hx hb d_L12_198 (by decide +kernel) ?_
      refine lv_istore (lv' := [(12, .int (oI 0)), (1, .ref (ad33 1)), (2, .int (oI x2)), (3, .ref (ad33 q3)), (4, .int (oI x4)), (5, .int (oI x5)), (6, .ref (ad33 q6)), (7, .int (oI x7)), (8, .int (oI v33_8)), (10, .ref (ad33 p23))]) hx hb d_L12_199 hl (by decide) rfl (fun ls hl => ?_)
      obtain ⟨⟨t40, v40_12, E40, M40⟩, g40, h⟩ := bd_e h
      obtain ⟨hgw40, h⟩ := ck_e h
      obtain ⟨hL40, h⟩ := ck_e h
      obtain ⟨ok40, h⟩ := ck_e h
      refine s_La_districts_201 l z E33 ad33 x2 q3 x4 x5 q6 x7 v33_8 p23 hx hb hml hts hown hlocks hA hG hZ mc ms (c0 + 1) (s0 + 8) (by omega) (by omega) 5000 _ _ ad33 E33 M33 0 t40 v40_12 E40 M40 (by omega) (by omega) (fun _ _ => rfl) (Nat.le_refl _) g40 (fun ad40 hag40 hEE40 e40 H locs ls hP hD hS hl => ?_) H locs ls hP hD hS (lv_sub hl [1, 2, 3, 4, 5, 6, 7, 8, 9, 0] rfl)
      have hag0 : ∀ i, i < nE E0 → ad40 i = ad0 i := fun i hi => (hag40 i (Nat.lt_of_lt_of_le hi hE0)).trans (hag0 i hi)
      have hE0 : nE E0 ≤ nE E40 := Nat.le_trans hE0 hgw40.1
      have hL : Lay E40 := hL40
      have h_q3 : isIA E40 q3 := isA_up hgw40 h_q3
      have h_q6 : isIA E40 q6 := isA_up hgw40 h_q6
      have h_p23 : isIA E40 p23 := isA_up hgw40 h_p23
      exact b_La_districts_j229 l z E0 ad0 ad40 E40 M40 x2 q3 x4 x5 q6 x7 v33_8 p23 v40_12 t w5 w6 w7 F N hx hb hml hts hown hlocks hA hG hZ mc ms _ _ c1 s1 (by omega) (by omega) hm hm2 hag0 hE0 h k0 k1 H locs ls hP hD hS (lv_sub hl [0, 1, 2, 3, 4, 5, 6, 7, 8, 9] rfl)
    · have h := ite_f (fun q => c9 ((oI_eq (a := r19) (b := (x4 - 1)) ok20 ok21).mpr q)) h
      refine lv_goto (tgt := 264) hx hb d_L12_115 (by decide) ?_
      refine lv_iinc (v := oI (x7 + 1)) (lv' := [(7, .int (oI (x7 + 1))), (1, .ref (ad 1)), (2, .int (oI x2)), (3, .ref (ad q3)), (4, .int (oI x4)), (5, .int (oI x5)), (6, .ref (ad q6))]) hx hb d_L12_264 hl (k := 6) rfl (oI_add x7 1) (by decide) rfl (fun ls hl => ?_)
      refine lv_goto (tgt := 93) hx hb d_L12_267 (by decide) ?_
      obtain ⟨rfl, rfl, rfl, rfl, rfl, rfl⟩ := in6 h
      exact W.wide (by omega) (by omega) (k0 ad hag0 hE0 rfl H locs ls hP hD hS (lv_sub hl [1, 2, 3, 4, 5, 6, 0] rfl))
set_option maxRecDepth 100000 in
set_option maxHeartbeats 4000000 in
theorem s_La_districts_93 (l : Launch) (z : Zz) (E0 : Ev) (ad0 : Nat → Nat) (x2 : Int) (q3 : Nat) (x4 : Int) {Q : State → Prop} {p : Program} {e : Env} {s : State} {m : MethodId} {below : List Frame} {meth : Method} {c : Code} {A : Nat → Prop} {args : Array Value} (hx : p.tables.exec = Jvm.exec) (hb : c.code = method_12_code) (hml : c.maxLocals = 13) (hts : ∀ w ∈ WG, w.before args s = true) (hown : s.vm.findClass "BallothallLaw" = some m.cls) (hlocks : meth.locks = false) (hA : ∀ q, s.heap.size ≤ q → A q) (hG : KG z s) (hZ : FZ z A s) (mc ms c1 s1 : Nat) (hm : c1 ≤ mc) (hm2 : s1 ≤ ms) : ∀ (fu c0 s0 : Nat) (ad : Nat → Nat) (E : Ev) (M : Mm) (x5 : Int) (q6 : Nat) (x7 : Int) (t : Nat) (w5 : Int) (w6 : Nat) (w7 : Int) (F : Ev) (N : Mm), c0 + fu * 1 ≤ c1 → s0 + fu * 8 ≤ s1 → (∀ i, i < nE E0 → ad i = ad0 i) → nE E0 ≤ nE E → l_La_districts_93 x2 q3 x4 fu E M x5 q6 x7 = some (t, w5, w6, w7, F, N) → (∀ (ad1 : Nat → Nat), (∀ i, i < nE E0 → ad1 i = ad0 i) → nE E0 ≤ nE F → t = 1 → ∀ (H : Heap) (locs : List Loc) (ls : Array Slot), va_P z.1 classes (wv z ad1 F N) H → va_D A (wv z ad1 F N) → va_S A s.heap H locs → lv_has ls 13 [(1, .ref (ad1 1)), (4, .int (oI x4)), (5, .int (oI w5)), (6, .ref (ad1 w6))] → W p l e (rmK 4 117 mc ms) s m args below meth c H locs c1 s1 Q (F0 m 270 ls [])) → ∀ (H : Heap) (locs : List Loc) (ls : Array Slot), va_P z.1 classes (wv z ad E M) H → va_D A (wv z ad E M) → va_S A s.heap H locs → lv_has ls 13 [(1, .ref (ad 1)), (2, .int (oI x2)), (3, .ref (ad q3)), (4, .int (oI x4)), (5, .int (oI x5)), (6, .ref (ad q6)), (7, .int (oI x7))] → W p l e (rmK 4 117 mc ms) s m args below meth c H locs c0 s0 Q (F0 m 93 ls []) := by
  intro fu
  induction fu with
  | zero =>
    intro c0 s0 ad E M x5 q6 x7 t w5 w6 w7 F N hc hs hag0 hE0 h
    have h : (none : Option (Nat × Int × Nat × Int × Ev × Mm)) = some _ := h
    cases h
  | succ fu ih =>
    intro c0 s0 ad E M x5 q6 x7 t w5 w6 w7 F N hc hs hag0 hE0 h k1 H locs ls hP hD hS hl
    obtain ⟨⟨t0, w50, w60, w70, F9, N9⟩, g0, h⟩ := bd_e h
    refine W.wide (Nat.le_refl _) (Nat.le_refl _) (b_La_districts_93b l z E0 ad0 ad E M x2 q3 x4 x5 q6 x7 t0 w50 w60 w70 F9 N9 hx hb hml hts hown hlocks hA hG hZ mc ms c0 s0 (c0 + 1) (s0 + 8) (Nat.le_refl _) (Nat.le_refl _) (by omega) (by omega) hag0 hE0 g0 (fun ad1 ha he e0 => ?_) (fun ad1 ha he e0 => ?_) H locs ls hP hD hS hl)
    · subst e0
      have h := ite_t rfl h
      exact ih (c0 + 1) (s0 + 8) ad1 F9 N9 w50 w60 w70 t w5 w6 w7 F N (by omega) (by omega) ha he h k1
    · subst e0
      have h := ite_f (by decide) h
      obtain ⟨rfl, rfl, rfl, rfl, rfl, rfl⟩ := in6 h
      exact fun H locs ls hP hD hS hl => W.wide (by omega) (by omega) (k1 ad1 ha he rfl H locs ls hP hD hS hl)
set_option maxRecDepth 100000 in
set_option maxHeartbeats 4000000 in
theorem b_La_districts_291b (l : Launch) (z : Zz) (E0 : Ev) (ad0 : Nat → Nat) (ad : Nat → Nat) (E : Ev) (M : Mm) (x4 : Int) (q6 : Nat) (x7 : Int) (x8 : Int) (t : Nat) (w7 : Int) (w8 : Int) (F : Ev) (N : Mm) {Q : State → Prop} {p : Program} {e : Env} {s : State} {m : MethodId} {below : List Frame} {meth : Method} {c : Code} {A : Nat → Prop} {args : Array Value} (hx : p.tables.exec = Jvm.exec) (hb : c.code = method_12_code) (hml : c.maxLocals = 13) (hts : ∀ w ∈ WG, w.before args s = true) (hown : s.vm.findClass "BallothallLaw" = some m.cls) (hlocks : meth.locks = false) (hA : ∀ q, s.heap.size ≤ q → A q) (hG : KG z s) (hZ : FZ z A s) (mc ms c0 s0 c1 s1 : Nat) (hc : c0 + 0 ≤ c1) (hs : s0 + 0 ≤ s1) (hm : c1 ≤ mc) (hm2 : s1 ≤ ms) (hag0 : ∀ i, i < nE E0 → ad i = ad0 i) (hE0 : nE E0 ≤ nE E) (h : La_districts_291b E M x4 q6 x7 x8 = some (t, w7, w8, F, N)) (k0 : ∀ (ad1 : Nat → Nat), (∀ i, i < nE E0 → ad1 i = ad0 i) → nE E0 ≤ nE F → t = 0 → ∀ (H : Heap) (locs : List Loc) (ls : Array Slot), va_P z.1 classes (wv z ad1 F N) H → va_D A (wv z ad1 F N) → va_S A s.heap H locs → lv_has ls 13 [(1, .ref (ad1 1)), (4, .int (oI x4)), (6, .ref (ad1 q6)), (7, .int (oI w7)), (8, .int (oI w8))] → W p l e (rmK 4 117 mc ms) s m args below meth c H locs c1 s1 Q (F0 m 291 ls [])) (k1 : ∀ (ad1 : Nat → Nat), (∀ i, i < nE E0 → ad1 i = ad0 i) → nE E0 ≤ nE F → t = 1 → ∀ (H : Heap) (locs : List Loc) (ls : Array Slot), va_P z.1 classes (wv z ad1 F N) H → va_D A (wv z ad1 F N) → va_S A s.heap H locs → lv_has ls 13 [(1, .ref (ad1 1)), (4, .int (oI x4)), (7, .int (oI w7))] → W p l e (rmK 4 117 mc ms) s m args below meth c H locs c1 s1 Q (F0 m 332 ls [])) : ∀ (H : Heap) (locs : List Loc) (ls : Array Slot), va_P z.1 classes (wv z ad E M) H → va_D A (wv z ad E M) → va_S A s.heap H locs → lv_has ls 13 [(1, .ref (ad 1)), (4, .int (oI x4)), (6, .ref (ad q6)), (7, .int (oI x7)), (8, .int (oI x8))] → W p l e (rmK 4 117 mc ms) s m args below meth c H locs c0 s0 Q (F0 m 291 ls []) := by
  intro H locs ls hP hD hS hl
  unfold La_districts_291b at h
  obtain ⟨hL, h⟩ := ck_e h
  obtain ⟨h_q6, h⟩ := ck_e h
  refine lv_iload hx hb d_L12_291 (lv_at hl 4 rfl) ?_
  refine lv_iload hx hb d_L12_293 (lv_at hl 1 rfl) ?_
  obtain ⟨ok51, h⟩ := ck_e h
  obtain ⟨ok52, h⟩ := ck_e h
  refine lv_icmp_ge (tgt := 332) hx hb d_L12_295 (by decide) (fun c9 => ?_) (fun c9 => ?_)
  · have h := ite_t ((oI_le (a := x4) (b := x8) ok52 ok51).mp c9) h
    obtain ⟨rfl, rfl, rfl, rfl, rfl⟩ := in5 h
    exact W.wide (by omega) (by omega) (k1 ad hag0 hE0 rfl H locs ls hP hD hS (lv_sub hl [0, 1, 3] rfl))
  · have h := ite_f (fun q => c9 ((oI_le (a := x4) (b := x8) ok52 ok51).mpr q)) h
    refine lv_iload hx hb d_L12_298 (lv_at hl 3 rfl) ?_
    obtain ⟨ok53, h⟩ := ck_e h
    refine lv_if_eq (tgt := 323) hx hb d_L12_300 (by decide) (fun c9 => ?_) (fun c9 => ?_)
    · have h := ite_t ((oI_eq0 ok53).mp c9) h
      refine lv_iconst (v := oI 0) hx hb d_L12_323 (by decide +kernel) ?_
      refine lv_istore (lv' := [(7, .int (oI 0)), (1, .ref (ad 1)), (4, .int (oI x4)), (6, .ref (ad q6)), (8, .int (oI x8))]) hx hb d_L12_324 hl (by decide) rfl (fun ls hl => ?_)
      refine lv_iinc (v := oI (x8 + 1)) (lv' := [(8, .int (oI (x8 + 1))), (7, .int (oI 0)), (1, .ref (ad 1)), (4, .int (oI x4)), (6, .ref (ad q6))]) hx hb d_L12_326 hl (k := 4) rfl (oI_add x8 1) (by decide) rfl (fun ls hl => ?_)
      refine lv_goto (tgt := 291) hx hb d_L12_329 (by decide) ?_
      obtain ⟨rfl, rfl, rfl, rfl, rfl⟩ := in5 h
      exact W.wide (by omega) (by omega) (k0 ad hag0 hE0 rfl H locs ls hP hD hS (lv_sub hl [2, 3, 4, 1, 0] rfl))
    · have h := ite_f (fun q => c9 ((oI_eq0 ok53).mpr q)) h
      refine lv_aload_n hx hb d_L12_303 rfl (lv_at hl 0 rfl) ?_
      refine lv_iload hx hb d_L12_304 (lv_at hl 1 rfl) ?_
      refine lv_iload hx hb d_L12_306 (lv_at hl 4 rfl) ?_
      obtain ⟨⟨r54, M54⟩, g54, h⟩ := bd_e h
      refine kV (As := [.int (oI x4), .int (oI x8)]) (rest := []) (s_B_districtEnd l z ad E M x4 x8 r54 M54 hL g54) hx hb hml hown hts w_1640 w_1637 w_1638 w_1639 w_1 md_a0f53c ⟨Nat.le_of_ble_eq_true rfl, Nat.le_of_ble_eq_true rfl⟩ hG hZ hP hD hS hA 1 (wv_o (ci := 11) (yi_1 hL) (yt_1 hL)) rfl rfl rfl hl.1 rfl (Nat.le_of_ble_eq_true rfl) d_L12_308 ⟨(show _ ≤ mc by omega), (show _ ≤ ms by omega)⟩ (fun _ H locs hP hD hS => ?_)
      have hP : va_P z.1 classes (wv z ad E M54) H := hP
      have hD : va_D A (wv z ad E M54) := hD
      refine W.eq (g2 := F0 m 311 ls [.int (oI r54)]) rfl ?_
      refine lv_aload hx hb d_L12_311 (lv_at hl 2 rfl) ?_
      refine lv_iload hx hb d_L12_313 (lv_at hl 4 rfl) ?_
      obtain ⟨ok55, h⟩ := ck_e h
      refine m_ia hx hb hG hP h_q6.1 (isIA_T h_q6) ok55 d_L12_315 ?_
      obtain ⟨ok56, h⟩ := ck_e h
      obtain ⟨ok57, h⟩ := ck_e h
      refine lv_icmp_ne (tgt := 323) hx hb d_L12_316 (by decide) (fun c9 => ?_) (fun c9 => ?_)
      · have h := ite_f (fun q => c9 ((oI_eq (a := r54) (b := (M54 q6 x8.toNat)) ok56 ok57).mpr q)) h
        refine lv_iconst (v := oI 0) hx hb d_L12_323 (by decide +kernel) ?_
        refine lv_istore (lv' := [(7, .int (oI 0)), (1, .ref (ad 1)), (4, .int (oI x4)), (6, .ref (ad q6)), (8, .int (oI x8))]) hx hb d_L12_324 hl (by decide) rfl (fun ls hl => ?_)
        refine lv_iinc (v := oI (x8 + 1)) (lv' := [(8, .int (oI (x8 + 1))), (7, .int (oI 0)), (1, .ref (ad 1)), (4, .int (oI x4)), (6, .ref (ad q6))]) hx hb d_L12_326 hl (k := 4) rfl (oI_add x8 1) (by decide) rfl (fun ls hl => ?_)
        refine lv_goto (tgt := 291) hx hb d_L12_329 (by decide) ?_
        obtain ⟨rfl, rfl, rfl, rfl, rfl⟩ := in5 h
        exact W.wide (by omega) (by omega) (k0 ad hag0 hE0 rfl H locs ls hP hD hS (lv_sub hl [2, 3, 4, 1, 0] rfl))
      · have h := ite_t ((oI_eq (a := r54) (b := (M54 q6 x8.toNat)) ok56 ok57).mp c9) h
        refine lv_iconst (v := oI 1) hx hb d_L12_319 (by decide +kernel) ?_
        refine lv_goto (tgt := 324) hx hb d_L12_320 (by decide) ?_
        refine lv_istore (lv' := [(7, .int (oI 1)), (1, .ref (ad 1)), (4, .int (oI x4)), (6, .ref (ad q6)), (8, .int (oI x8))]) hx hb d_L12_324 hl (by decide) rfl (fun ls hl => ?_)
        refine lv_iinc (v := oI (x8 + 1)) (lv' := [(8, .int (oI (x8 + 1))), (7, .int (oI 1)), (1, .ref (ad 1)), (4, .int (oI x4)), (6, .ref (ad q6))]) hx hb d_L12_326 hl (k := 4) rfl (oI_add x8 1) (by decide) rfl (fun ls hl => ?_)
        refine lv_goto (tgt := 291) hx hb d_L12_329 (by decide) ?_
        obtain ⟨rfl, rfl, rfl, rfl, rfl⟩ := in5 h
        exact W.wide (by omega) (by omega) (k0 ad hag0 hE0 rfl H locs ls hP hD hS (lv_sub hl [2, 3, 4, 1, 0] rfl))
set_option maxRecDepth 100000 in
set_option maxHeartbeats 4000000 in
theorem s_La_districts_291 (l : Launch) (z : Zz) (E0 : Ev) (ad0 : Nat → Nat) (x4 : Int) (q6 : Nat) {Q : State → Prop} {p : Program} {e : Env} {s : State} {m : MethodId} {below : List Frame} {meth : Method} {c : Code} {A : Nat → Prop} {args : Array Value} (hx : p.tables.exec = Jvm.exec) (hb : c.code = method_12_code) (hml : c.maxLocals = 13) (hts : ∀ w ∈ WG, w.before args s = true) (hown : s.vm.findClass "BallothallLaw" = some m.cls) (hlocks : meth.locks = false) (hA : ∀ q, s.heap.size ≤ q → A q) (hG : KG z s) (hZ : FZ z A s) (mc ms c1 s1 : Nat) (hm : c1 ≤ mc) (hm2 : s1 ≤ ms) : ∀ (fu c0 s0 : Nat) (ad : Nat → Nat) (E : Ev) (M : Mm) (x7 : Int) (x8 : Int) (t : Nat) (w7 : Int) (w8 : Int) (F : Ev) (N : Mm), c0 + fu * 0 ≤ c1 → s0 + fu * 0 ≤ s1 → (∀ i, i < nE E0 → ad i = ad0 i) → nE E0 ≤ nE E → l_La_districts_291 x4 q6 fu E M x7 x8 = some (t, w7, w8, F, N) → (∀ (ad1 : Nat → Nat), (∀ i, i < nE E0 → ad1 i = ad0 i) → nE E0 ≤ nE F → t = 1 → ∀ (H : Heap) (locs : List Loc) (ls : Array Slot), va_P z.1 classes (wv z ad1 F N) H → va_D A (wv z ad1 F N) → va_S A s.heap H locs → lv_has ls 13 [(1, .ref (ad1 1)), (4, .int (oI x4)), (7, .int (oI w7))] → W p l e (rmK 4 117 mc ms) s m args below meth c H locs c1 s1 Q (F0 m 332 ls [])) → ∀ (H : Heap) (locs : List Loc) (ls : Array Slot), va_P z.1 classes (wv z ad E M) H → va_D A (wv z ad E M) → va_S A s.heap H locs → lv_has ls 13 [(1, .ref (ad 1)), (4, .int (oI x4)), (6, .ref (ad q6)), (7, .int (oI x7)), (8, .int (oI x8))] → W p l e (rmK 4 117 mc ms) s m args below meth c H locs c0 s0 Q (F0 m 291 ls []) := by
  intro fu
  induction fu with
  | zero =>
    intro c0 s0 ad E M x7 x8 t w7 w8 F N hc hs hag0 hE0 h
    have h : (none : Option (Nat × Int × Int × Ev × Mm)) = some _ := h
    cases h
  | succ fu ih =>
    intro c0 s0 ad E M x7 x8 t w7 w8 F N hc hs hag0 hE0 h k1 H locs ls hP hD hS hl
    obtain ⟨⟨t0, w70, w80, F9, N9⟩, g0, h⟩ := bd_e h
    refine W.wide (Nat.le_refl _) (Nat.le_refl _) (b_La_districts_291b l z E0 ad0 ad E M x4 q6 x7 x8 t0 w70 w80 F9 N9 hx hb hml hts hown hlocks hA hG hZ mc ms c0 s0 (c0 + 0) (s0 + 0) (Nat.le_refl _) (Nat.le_refl _) (by omega) (by omega) hag0 hE0 g0 (fun ad1 ha he e0 => ?_) (fun ad1 ha he e0 => ?_) H locs ls hP hD hS hl)
    · subst e0
      have h := ite_t rfl h
      exact ih (c0 + 0) (s0 + 0) ad1 F9 N9 w70 w80 t w7 w8 F N (by omega) (by omega) ha he h k1
    · subst e0
      have h := ite_f (by decide) h
      obtain ⟨rfl, rfl, rfl, rfl, rfl⟩ := in5 h
      exact fun H locs ls hP hD hS hl => W.wide (by omega) (by omega) (k1 ad1 ha he rfl H locs ls hP hD hS hl)
set_option maxRecDepth 100000 in
set_option maxHeartbeats 4000000 in
theorem s_La_districts (l : Launch) (z : Zz) (ad : Nat → Nat) (E : Ev) (M : Mm) (p0 : Nat) (r : Int) (F : Ev) (N : Mm) (h : f_La_districts E M p0 = some (r, F, N)) : CT l z ⟨"BallothallLaw", "districts", "([I)Z"⟩ method_12_code 13 (some .boolean) [.ref (ad p0)] (wv z ad E M) 4 117 484 11111 (fun u => some (.int (oI r))) (fun u => wv z (adj E ad u) F N) := by
  refine CT.of (own := "BallothallLaw") (by decide +kernel) (Nat.le_of_ble_eq_true rfl) rfl (fun p e s m below meth c A ls hx hb hml hr hts hown hlocks hin hA hG hZ hP hD hS hl => ?_)
  have hl : lv_has ls 13 [(0, .ref (ad p0))] := hl
  have key : ∀ (E0 : Ev) (ad0 : Nat → Nat) (mc ms c0 s0 c1 s1 : Nat) (H : Heap) (locs : List Loc) (args : Array Value), c0 + 484 ≤ c1 → s0 + 11111 ≤ s1 → c1 ≤ mc → s1 ≤ ms → (∀ i, i < nE E0 → ad i = ad0 i) → nE E0 ≤ nE E → (∀ w ∈ WG, w.before args s = true) → va_P z.1 classes (wv z ad E M) H → va_S A s.heap H locs → W p l e (rmK 4 117 mc ms) s m args below meth c H locs c0 s0 (MQ below (QK z A (fun u => some (.int (oI r))) (fun u => wv z (adj E0 ad0 u) F N)) args s c1 s1 A) (F0 m 0 ls []) := by
    intro E0 ad0 mc ms c0 s0 c1 s1 H locs args hc hs hm hm2 hag0 hE0 hts hP hS
    unfold f_La_districts at h
    obtain ⟨h_p0, h⟩ := ck_e h
    obtain ⟨p0, ep0, h⟩ := nb_e h
    obtain ⟨E0, eE0, h⟩ := nb_e h
    obtain ⟨M0, eM0, h⟩ := nb_e h
    refine m_newO (ci := 11) (C := "Ballothall") (T := TX11) (n := 14) hx hb hts iX11 tyX11_ok hown w_32 w_33 w_1 rfl (fun _ => fsX11) hG hP hD hS hA (show _ ≤ mc by omega) (show _ ≤ ms by omega) d_L12_0 (fun ad0 H hag0 hP hD hS => ?_)
    have hP : va_P z.1 classes (wv z ad0 E0 M0) H := by rw [eE0, eM0]; exact hP
    have hD : va_D A (wv z ad0 E0 M0) := by rw [eE0, eM0]; exact hD
    refine W.eq (g2 := F0 m 3 ls (.ref (ad0 p0) :: [])) (by rw [ep0] <;> rfl) ?_
    have hl : lv_has ls 13 [(0, .ref (ad0 p0))] := by rw [hag0 p0 h_p0.1]; exact hl
    have hgw0 : Gw E E0 := by rw [eE0]; exact gw_new _ _
    have hag0 : ∀ i, i < nE E0 → ad0 i = ad0 i := fun i hi => (hag0 i (Nat.lt_of_lt_of_le hi hE0)).trans (hag0 i hi)
    have hE0 : nE E0 ≤ nE E0 := Nat.le_trans hE0 hgw0.1
    have h_p0 : isIA E0 p0 := isA_up hgw0 h_p0
    have h_p0 : isO 11 E0 p0 := by rw [ep0, eE0]; exact ⟨new_i _ _, new_T _ _⟩
    refine lv_dup hx hb d_L12_3 rfl ?_
    obtain ⟨⟨E1, M1⟩, g1, h⟩ := bd_e h
    obtain ⟨hgw1, h⟩ := ck_e h
    refine kI (As := []) (rest := [.ref (ad0 p0)]) (s_B_init l z ad0 E0 M0 p0 E1 M1 g1) hx hb hml hown hts w_36 w_34 w_35 rfl w_1 md_22f6df ⟨Nat.le_of_ble_eq_true rfl, Nat.le_of_ble_eq_true rfl⟩ hG hZ hP hD hS hA rfl hl.1 rfl (Nat.le_of_ble_eq_true rfl) d_L12_4 ⟨(show _ ≤ mc by omega), (show _ ≤ ms by omega)⟩ (fun u1 H locs hP hD hS => ?_)
    obtain ⟨ad1, had1⟩ : ∃ q, q = adj E0 ad0 u1 := ⟨_, rfl⟩
    have hP : va_P z.1 classes (wv z ad1 E1 M1) H := by rw [had1]; exact hP
    have hD : va_D A (wv z ad1 E1 M1) := by rw [had1]; exact hD
    have hag1 : ∀ i, i < nE E0 → ad1 i = ad0 i := fun i hi => by rw [had1]; exact adj_lt hi
    have hl : lv_has ls 13 [(0, .ref (ad1 p0))] := by rw [hag1 p0 h_p0.1]; exact hl
    refine W.eq (g2 := F0 m 7 ls [.ref (ad1 p0)]) (by rw [hag1 p0 h_p0.1] <;> rfl) ?_
    have hag0 : ∀ i, i < nE E0 → ad1 i = ad0 i := fun i hi => (hag1 i (Nat.lt_of_lt_of_le hi hE0)).trans (hag0 i hi)
    have hE0 : nE E0 ≤ nE E1 := Nat.le_trans hE0 hgw1.1
    have h_p0 : isIA E1 p0 := isA_up hgw1 h_p0
    obtain ⟨⟨hL, ep1⟩, h⟩ := ck_e h
    subst ep1
    refine lv_astore_n (lv' := [(1, .ref (ad1 1)), (0, .ref (ad1 1))]) hx hb d_L12_7 rfl hl (by decide) rfl (fun ls hl => ?_)
    refine lv_iconst (v := oI 1) hx hb d_L12_8 (by decide +kernel) ?_
    refine lv_aload_n hx hb d_L12_9 rfl (lv_at hl 1 rfl) ?_
    refine lv_bipush (v := oI 8) hx hb d_L12_10 (by decide +kernel) ?_
    obtain ⟨⟨r2, M2⟩, g2, h⟩ := bd_e h
    refine kS (As := [.ref (ad1 1), .int (oI 8)]) (rest := [.int (oI 1)]) (s_La_next l z ad1 E1 M1 1 8 r2 M2 hL g2) hx hb hml hown hts w_797 w_795 w_796 w_0 md_199d8f ⟨Nat.le_of_ble_eq_true rfl, Nat.le_of_ble_eq_true rfl⟩ hG hZ hP hD hS hA rfl hl.1 rfl (Nat.le_of_ble_eq_true rfl) d_L12_12 ⟨(show _ ≤ mc by omega), (show _ ≤ ms by omega)⟩ (fun _ H locs hP hD hS => ?_)
    have hP : va_P z.1 classes (wv z ad1 E1 M2) H := hP
    have hD : va_D A (wv z ad1 E1 M2) := hD
    refine W.eq (g2 := F0 m 15 ls [.int (oI r2), .int (oI 1)]) rfl ?_
    refine lv_iadd hx hb d_L12_15 ?_
    refine nrm (oI_add _ _) ?_
    refine lv_istore_n (lv' := [(2, .int (oI (1 + r2))), (1, .ref (ad1 1)), (0, .ref (ad1 1))]) hx hb d_L12_16 rfl hl (by decide) rfl (fun ls hl => ?_)
    refine lv_iload_n hx hb d_L12_17 rfl (lv_at hl 0 rfl) ?_
    obtain ⟨ok3, h⟩ := ck_e h
    obtain ⟨p4, ep4, h⟩ := nb_e h
    obtain ⟨E4, eE4, h⟩ := nb_e h
    obtain ⟨M4, eM4, h⟩ := nb_e h
    refine m_newI (x := (1 + r2)) (N := 8) hx hb ok3.1 ok3.2 (by decide) (hts _ w_100) hG hP hD hS hA (show _ ≤ mc by omega) (show _ ≤ ms by omega) d_L12_18 (fun ad4 H hag4 hP hD hS => ?_)
    have hP : va_P z.1 classes (wv z ad4 E4 M4) H := by rw [eE4, eM4]; exact hP
    have hD : va_D A (wv z ad4 E4 M4) := by rw [eE4, eM4]; exact hD
    refine W.eq (g2 := F0 m 20 ls (.ref (ad4 p4) :: [])) (by rw [ep4] <;> rfl) ?_
    have hl : lv_has ls 13 [(2, .int (oI (1 + r2))), (1, .ref (ad4 1)), (0, .ref (ad4 1))] := by rw [hag4 1 (yi_1 hL)]; exact hl
    have hgw4 : Gw E1 E4 := by rw [eE4]; exact gw_new _ _
    have hL4 : Lay E4 := by rw [eE4]; exact lay_new hL
    have hag0 : ∀ i, i < nE E0 → ad4 i = ad0 i := fun i hi => (hag4 i (Nat.lt_of_lt_of_le hi hE0)).trans (hag0 i hi)
    have hE0 : nE E0 ≤ nE E4 := Nat.le_trans hE0 hgw4.1
    have hL : Lay E4 := hL4
    have h_p4 : isIA E4 p4 := by rw [ep4, eE4]; exact ⟨new_i _ _, by rw [new_T]⟩
    refine lv_astore_n (lv' := [(3, .ref (ad4 p4)), (2, .int (oI (1 + r2))), (1, .ref (ad4 1)), (0, .ref (ad4 1))]) hx hb d_L12_20 rfl hl (by decide) rfl (fun ls hl => ?_)
    refine lv_iconst (v := oI 0) hx hb d_L12_21 (by decide +kernel) ?_
    refine lv_istore (lv' := [(4, .int (oI 0)), (3, .ref (ad4 p4)), (2, .int (oI (1 + r2))), (1, .ref (ad4 1)), (0, .ref (ad4 1))]) hx hb d_L12_22 hl (by decide) rfl (fun ls hl => ?_)
    obtain ⟨⟨t12, v12_4, E12, M12⟩, g12, h⟩ := bd_e h
    obtain ⟨hgw12, h⟩ := ck_e h
    obtain ⟨hL12, h⟩ := ck_e h
    obtain ⟨ok12, h⟩ := ck_e h
    refine s_La_districts_24 l z E4 ad4 (1 + r2) p4 hx hb hml hts hown hlocks hA hG hZ mc ms (c0 + 351) (s0 + 10047) (by omega) (by omega) 5000 _ _ ad4 E4 M4 0 t12 v12_4 E12 M12 (by omega) (by omega) (fun _ _ => rfl) (Nat.le_refl _) g12 (fun ad12 hag12 hEE12 e12 H locs ls hP hD hS hl => ?_) H locs ls hP hD hS (lv_sub hl [4, 3, 2, 1, 0] rfl)
    have hag0 : ∀ i, i < nE E0 → ad12 i = ad0 i := fun i hi => (hag12 i (Nat.lt_of_lt_of_le hi hE0)).trans (hag0 i hi)
    have hE0 : nE E0 ≤ nE E12 := Nat.le_trans hE0 hgw12.1
    have hL : Lay E12 := hL12
    have h_p4 : isIA E12 p4 := isA_up hgw12 h_p4
    refine lv_iconst (v := oI 1) hx hb d_L12_70 (by decide +kernel) ?_
    refine lv_aload_n hx hb d_L12_71 rfl (lv_at hl 0 rfl) ?_
    refine lv_iload_n hx hb d_L12_72 rfl (lv_at hl 2 rfl) ?_
    obtain ⟨⟨r13, M13⟩, g13, h⟩ := bd_e h
    refine kS (As := [.ref (ad12 1), .int (oI (1 + r2))]) (rest := [.int (oI 1)]) (s_La_next l z ad12 E12 M12 1 (1 + r2) r13 M13 hL g13) hx hb hml hown hts w_797 w_795 w_796 w_0 md_199d8f ⟨Nat.le_of_ble_eq_true rfl, Nat.le_of_ble_eq_true rfl⟩ hG hZ hP hD hS hA rfl hl.1 rfl (Nat.le_of_ble_eq_true rfl) d_L12_73 ⟨(show _ ≤ mc by omega), (show _ ≤ ms by omega)⟩ (fun _ H locs hP hD hS => ?_)
    have hP : va_P z.1 classes (wv z ad12 E12 M13) H := hP
    have hD : va_D A (wv z ad12 E12 M13) := hD
    refine W.eq (g2 := F0 m 76 ls [.int (oI r13), .int (oI 1)]) rfl ?_
    refine lv_iadd hx hb d_L12_76 ?_
    refine nrm (oI_add _ _) ?_
    refine lv_istore (lv' := [(4, .int (oI (1 + r13))), (0, .ref (ad12 1)), (1, .ref (ad12 1)), (2, .int (oI (1 + r2))), (3, .ref (ad12 p4))]) hx hb d_L12_77 hl (by decide) rfl (fun ls hl => ?_)
    refine lv_sipush (v := oI 1000) hx hb d_L12_79 (by decide +kernel) ?_
    refine lv_istore (lv' := [(5, .int (oI 1000)), (4, .int (oI (1 + r13))), (0, .ref (ad12 1)), (1, .ref (ad12 1)), (2, .int (oI (1 + r2))), (3, .ref (ad12 p4))]) hx hb d_L12_82 hl (by decide) rfl (fun ls hl => ?_)
    refine lv_iload hx hb d_L12_84 (lv_at hl 1 rfl) ?_
    obtain ⟨ok14, h⟩ := ck_e h
    obtain ⟨p15, ep15, h⟩ := nb_e h
    obtain ⟨E15, eE15, h⟩ := nb_e h
    obtain ⟨M15, eM15, h⟩ := nb_e h
    refine m_newI (x := (1 + r13)) (N := 8) hx hb ok14.1 ok14.2 (by decide) (hts _ w_100) hG hP hD hS hA (show _ ≤ mc by omega) (show _ ≤ ms by omega) d_L12_86 (fun ad15 H hag15 hP hD hS => ?_)
    have hP : va_P z.1 classes (wv z ad15 E15 M15) H := by rw [eE15, eM15]; exact hP
    have hD : va_D A (wv z ad15 E15 M15) := by rw [eE15, eM15]; exact hD
    refine W.eq (g2 := F0 m 88 ls (.ref (ad15 p15) :: [])) (by rw [ep15] <;> rfl) ?_
    have hl : lv_has ls 13 [(5, .int (oI 1000)), (4, .int (oI (1 + r13))), (0, .ref (ad15 1)), (1, .ref (ad15 1)), (2, .int (oI (1 + r2))), (3, .ref (ad15 p4))] := by rw [hag15 1 (yi_1 hL), hag15 p4 h_p4.1]; exact hl
    have hgw15 : Gw E12 E15 := by rw [eE15]; exact gw_new _ _
    have hL15 : Lay E15 := by rw [eE15]; exact lay_new hL
    have hag0 : ∀ i, i < nE E0 → ad15 i = ad0 i := fun i hi => (hag15 i (Nat.lt_of_lt_of_le hi hE0)).trans (hag0 i hi)
    have hE0 : nE E0 ≤ nE E15 := Nat.le_trans hE0 hgw15.1
    have hL : Lay E15 := hL15
    have h_p4 : isIA E15 p4 := isA_up hgw15 h_p4
    have h_p15 : isIA E15 p15 := by rw [ep15, eE15]; exact ⟨new_i _ _, by rw [new_T]⟩
    refine lv_astore (lv' := [(6, .ref (ad15 p15)), (5, .int (oI 1000)), (4, .int (oI (1 + r13))), (0, .ref (ad15 1)), (1, .ref (ad15 1)), (2, .int (oI (1 + r2))), (3, .ref (ad15 p4))]) hx hb d_L12_88 hl (by decide) rfl (fun ls hl => ?_)
    refine lv_iconst (v := oI 0) hx hb d_L12_90 (by decide +kernel) ?_
    refine lv_istore (lv' := [(7, .int (oI 0)), (6, .ref (ad15 p15)), (5, .int (oI 1000)), (4, .int (oI (1 + r13))), (0, .ref (ad15 1)), (1, .ref (ad15 1)), (2, .int (oI (1 + r2))), (3, .ref (ad15 p4))]) hx hb d_L12_91 hl (by decide) rfl (fun ls hl => ?_)
    obtain ⟨⟨t47, v47_5, v47_6, v47_7, E47, M47⟩, g47, h⟩ := bd_e h
    obtain ⟨hgw47, h⟩ := ck_e h
    obtain ⟨hL47, h⟩ := ck_e h
    obtain ⟨ok47, h⟩ := ck_e h
    refine s_La_districts_93 l z E15 ad15 (1 + r2) p4 (1 + r13) hx hb hml hts hown hlocks hA hG hZ mc ms (c0 + 484) (s0 + 11111) (by omega) (by omega) 132 _ _ ad15 E15 M15 1000 p15 0 t47 v47_5 v47_6 v47_7 E47 M47 (by omega) (by omega) (fun _ _ => rfl) (Nat.le_refl _) g47 (fun ad47 hag47 hEE47 e47 H locs ls hP hD hS hl => ?_) H locs ls hP hD hS (lv_sub hl [5, 6, 7, 3, 2, 1, 0] rfl)
    have hag0 : ∀ i, i < nE E0 → ad47 i = ad0 i := fun i hi => (hag47 i (Nat.lt_of_lt_of_le hi hE0)).trans (hag0 i hi)
    have hE0 : nE E0 ≤ nE E47 := Nat.le_trans hE0 hgw47.1
    have hL : Lay E47 := hL47
    obtain ⟨h_v47_6, h⟩ := ck_e h
    refine lv_aload_n hx hb d_L12_270 rfl (lv_at hl 0 rfl) ?_
    refine lv_iload hx hb d_L12_271 (lv_at hl 1 rfl) ?_
    obtain ⟨⟨r48, M48⟩, g48, h⟩ := bd_e h
    refine kV (As := [.int (oI (1 + r13))]) (rest := []) (s_B_greatestDistrict l z ad47 E47 M47 (1 + r13) r48 M48 hL g48) hx hb hml hown hts w_1617 w_1614 w_1615 w_1616 w_1 md_ce4f47 ⟨Nat.le_of_ble_eq_true rfl, Nat.le_of_ble_eq_true rfl⟩ hG hZ hP hD hS hA 1 (wv_o (ci := 11) (yi_1 hL) (yt_1 hL)) rfl rfl rfl hl.1 rfl (Nat.le_of_ble_eq_true rfl) d_L12_273 ⟨(show _ ≤ mc by omega), (show _ ≤ ms by omega)⟩ (fun _ H locs hP hD hS => ?_)
    have hP : va_P z.1 classes (wv z ad47 E47 M48) H := hP
    have hD : va_D A (wv z ad47 E47 M48) := hD
    refine W.eq (g2 := F0 m 276 ls [.int (oI r48)]) rfl ?_
    refine lv_iload hx hb d_L12_276 (lv_at hl 2 rfl) ?_
    obtain ⟨ok49, h⟩ := ck_e h
    obtain ⟨ok50, h⟩ := ck_e h
    refine lv_icmp_ne (tgt := 285) hx hb d_L12_278 (by decide) (fun c9 => ?_) (fun c9 => ?_)
    · have h := ite_f (fun q => c9 ((oI_eq (a := r48) (b := v47_5) ok49 ok50).mpr q)) h
      refine lv_iconst (v := oI 0) hx hb d_L12_285 (by decide +kernel) ?_
      refine lv_istore (lv' := [(7, .int (oI 0)), (1, .ref (ad47 1)), (4, .int (oI (1 + r13))), (5, .int (oI v47_5)), (6, .ref (ad47 v47_6))]) hx hb d_L12_286 hl (by decide) rfl (fun ls hl => ?_)
      refine lv_iconst (v := oI 0) hx hb d_L12_288 (by decide +kernel) ?_
      refine lv_istore (lv' := [(8, .int (oI 0)), (7, .int (oI 0)), (1, .ref (ad47 1)), (4, .int (oI (1 + r13))), (5, .int (oI v47_5)), (6, .ref (ad47 v47_6))]) hx hb d_L12_289 hl (by decide) rfl (fun ls hl => ?_)
      obtain ⟨⟨t58, v58_7, v58_8, E58, M58⟩, g58, h⟩ := bd_e h
      obtain ⟨hgw58, h⟩ := ck_e h
      obtain ⟨hL58, h⟩ := ck_e h
      obtain ⟨ok58, h⟩ := ck_e h
      refine s_La_districts_291 l z E47 ad47 (1 + r13) v47_6 hx hb hml hts hown hlocks hA hG hZ mc ms (c0 + 484) (s0 + 11111) (by omega) (by omega) 5000 _ _ ad47 E47 M48 0 0 t58 v58_7 v58_8 E58 M58 (by omega) (by omega) (fun _ _ => rfl) (Nat.le_refl _) g58 (fun ad58 hag58 hEE58 e58 H locs ls hP hD hS hl => ?_) H locs ls hP hD hS (lv_sub hl [2, 3, 5, 1, 0] rfl)
      have hag0 : ∀ i, i < nE E0 → ad58 i = ad0 i := fun i hi => (hag58 i (Nat.lt_of_lt_of_le hi hE0)).trans (hag0 i hi)
      have hE0 : nE E0 ≤ nE E58 := Nat.le_trans hE0 hgw58.1
      have hL : Lay E58 := hL58
      refine lv_iload hx hb d_L12_332 (lv_at hl 2 rfl) ?_
      obtain ⟨ok59, h⟩ := ck_e h
      refine lv_if_eq (tgt := 381) hx hb d_L12_334 (by decide) (fun c9 => ?_) (fun c9 => ?_)
      · have h := ite_t ((oI_eq0 ok59).mp c9) h
        refine lv_iconst (v := oI 0) hx hb d_L12_381 (by decide +kernel) ?_
        refine W.wide (k := c1) (n := s1) (by omega) (by omega) ?_
        obtain ⟨rfl, rfl, rfl⟩ := in3 h
        exact W.zret hx hb hr rfl (fun t ht hW => qkA hP hD hS ad58 (congrArg (fun q => wv z q E58 M58) (adj_self hag0).symm) rfl ht) hS.2.2 d_L12_382
      · have h := ite_f (fun q => c9 ((oI_eq0 ok59).mpr q)) h
        refine lv_aload_n hx hb d_L12_337 rfl (lv_at hl 0 rfl) ?_
        refine lv_iload hx hb d_L12_338 (lv_at hl 1 rfl) ?_
        refine lv_iconst (v := oI 0) hx hb d_L12_340 (by decide +kernel) ?_
        obtain ⟨⟨r60, M60⟩, g60, h⟩ := bd_e h
        refine kV (As := [.int (oI (1 + r13)), .int (oI 0)]) (rest := []) (s_B_districtsWon l z ad58 E58 M58 (1 + r13) 0 r60 M60 hL g60) hx hb hml hown hts w_1644 w_1641 w_1642 w_1643 w_1 md_9e18c6 ⟨Nat.le_of_ble_eq_true rfl, Nat.le_of_ble_eq_true rfl⟩ hG hZ hP hD hS hA 1 (wv_o (ci := 11) (yi_1 hL) (yt_1 hL)) rfl rfl rfl hl.1 rfl (Nat.le_of_ble_eq_true rfl) d_L12_341 ⟨(show _ ≤ mc by omega), (show _ ≤ ms by omega)⟩ (fun _ H locs hP hD hS => ?_)
        have hP : va_P z.1 classes (wv z ad58 E58 M60) H := hP
        have hD : va_D A (wv z ad58 E58 M60) := hD
        refine W.eq (g2 := F0 m 344 ls [.int (oI r60)]) rfl ?_
        refine lv_aload_n hx hb d_L12_344 rfl (lv_at hl 0 rfl) ?_
        refine lv_iload hx hb d_L12_345 (lv_at hl 1 rfl) ?_
        refine lv_iconst (v := oI 1) hx hb d_L12_347 (by decide +kernel) ?_
        obtain ⟨⟨r61, M61⟩, g61, h⟩ := bd_e h
        refine kV (As := [.int (oI (1 + r13)), .int (oI 1)]) (rest := [.int (oI r60)]) (s_B_districtsWon l z ad58 E58 M60 (1 + r13) 1 r61 M61 hL g61) hx hb hml hown hts w_1644 w_1641 w_1642 w_1643 w_1 md_9e18c6 ⟨Nat.le_of_ble_eq_true rfl, Nat.le_of_ble_eq_true rfl⟩ hG hZ hP hD hS hA 1 (wv_o (ci := 11) (yi_1 hL) (yt_1 hL)) rfl rfl rfl hl.1 rfl (Nat.le_of_ble_eq_true rfl) d_L12_348 ⟨(show _ ≤ mc by omega), (show _ ≤ ms by omega)⟩ (fun _ H locs hP hD hS => ?_)
        have hP : va_P z.1 classes (wv z ad58 E58 M61) H := hP
        have hD : va_D A (wv z ad58 E58 M61) := hD
        refine W.eq (g2 := F0 m 351 ls [.int (oI r61), .int (oI r60)]) rfl ?_
        refine lv_iadd hx hb d_L12_351 ?_
        refine nrm (oI_add _ _) ?_
        refine lv_iload hx hb d_L12_352 (lv_at hl 1 rfl) ?_
        obtain ⟨ok62, h⟩ := ck_e h
        obtain ⟨ok63, h⟩ := ck_e h
        refine lv_icmp_gt (tgt := 381) hx hb d_L12_354 (by decide) (fun c9 => ?_) (fun c9 => ?_)
        · have h := ite_t ((oI_lt (a := (1 + r13)) (b := (r60 + r61)) ok63 ok62).mp c9) h
          refine lv_iconst (v := oI 0) hx hb d_L12_381 (by decide +kernel) ?_
          refine W.wide (k := c1) (n := s1) (by omega) (by omega) ?_
          obtain ⟨rfl, rfl, rfl⟩ := in3 h
          exact W.zret hx hb hr rfl (fun t ht hW => qkA hP hD hS ad58 (congrArg (fun q => wv z q E58 M61) (adj_self hag0).symm) rfl ht) hS.2.2 d_L12_382
        · have h := ite_f (fun q => c9 ((oI_lt (a := (1 + r13)) (b := (r60 + r61)) ok63 ok62).mpr q)) h
          refine lv_aload_n hx hb d_L12_357 rfl (lv_at hl 0 rfl) ?_
          refine lv_iload hx hb d_L12_358 (lv_at hl 1 rfl) ?_
          refine lv_iconst (v := oI 0) hx hb d_L12_360 (by decide +kernel) ?_
          obtain ⟨⟨r64, M64⟩, g64, h⟩ := bd_e h
          refine kV (As := [.int (oI (1 + r13)), .int (oI 0)]) (rest := []) (s_B_wasted l z ad58 E58 M61 (1 + r13) 0 r64 M64 hL g64) hx hb hml hown hts w_1652 w_1649 w_1650 w_1651 w_1 md_0ebbab ⟨Nat.le_of_ble_eq_true rfl, Nat.le_of_ble_eq_true rfl⟩ hG hZ hP hD hS hA 1 (wv_o (ci := 11) (yi_1 hL) (yt_1 hL)) rfl rfl rfl hl.1 rfl (Nat.le_of_ble_eq_true rfl) d_L12_361 ⟨(show _ ≤ mc by omega), (show _ ≤ ms by omega)⟩ (fun _ H locs hP hD hS => ?_)
          have hP : va_P z.1 classes (wv z ad58 E58 M64) H := hP
          have hD : va_D A (wv z ad58 E58 M64) := hD
          refine W.eq (g2 := F0 m 364 ls [.int (oI r64)]) rfl ?_
          obtain ⟨ok65, h⟩ := ck_e h
          refine lv_if_lt (tgt := 381) hx hb d_L12_364 (by decide) (fun c9 => ?_) (fun c9 => ?_)
          · have h := ite_t ((oI_lt0 ok65).mp c9) h
            refine lv_iconst (v := oI 0) hx hb d_L12_381 (by decide +kernel) ?_
            refine W.wide (k := c1) (n := s1) (by omega) (by omega) ?_
            obtain ⟨rfl, rfl, rfl⟩ := in3 h
            exact W.zret hx hb hr rfl (fun t ht hW => qkA hP hD hS ad58 (congrArg (fun q => wv z q E58 M64) (adj_self hag0).symm) rfl ht) hS.2.2 d_L12_382
          · have h := ite_f (fun q => c9 ((oI_lt0 ok65).mpr q)) h
            refine lv_aload_n hx hb d_L12_367 rfl (lv_at hl 0 rfl) ?_
            refine lv_iload hx hb d_L12_368 (lv_at hl 1 rfl) ?_
            refine lv_iconst (v := oI 1) hx hb d_L12_370 (by decide +kernel) ?_
            obtain ⟨⟨r66, M66⟩, g66, h⟩ := bd_e h
            refine kV (As := [.int (oI (1 + r13)), .int (oI 1)]) (rest := []) (s_B_wasted l z ad58 E58 M64 (1 + r13) 1 r66 M66 hL g66) hx hb hml hown hts w_1652 w_1649 w_1650 w_1651 w_1 md_0ebbab ⟨Nat.le_of_ble_eq_true rfl, Nat.le_of_ble_eq_true rfl⟩ hG hZ hP hD hS hA 1 (wv_o (ci := 11) (yi_1 hL) (yt_1 hL)) rfl rfl rfl hl.1 rfl (Nat.le_of_ble_eq_true rfl) d_L12_371 ⟨(show _ ≤ mc by omega), (show _ ≤ ms by omega)⟩ (fun _ H locs hP hD hS => ?_)
            have hP : va_P z.1 classes (wv z ad58 E58 M66) H := hP
            have hD : va_D A (wv z ad58 E58 M66) := hD
            refine W.eq (g2 := F0 m 374 ls [.int (oI r66)]) rfl ?_
            obtain ⟨ok67, h⟩ := ck_e h
            refine lv_if_lt (tgt := 381) hx hb d_L12_374 (by decide) (fun c9 => ?_) (fun c9 => ?_)
            · have h := ite_t ((oI_lt0 ok67).mp c9) h
              refine lv_iconst (v := oI 0) hx hb d_L12_381 (by decide +kernel) ?_
              refine W.wide (k := c1) (n := s1) (by omega) (by omega) ?_
              obtain ⟨rfl, rfl, rfl⟩ := in3 h
              exact W.zret hx hb hr rfl (fun t ht hW => qkA hP hD hS ad58 (congrArg (fun q => wv z q E58 M66) (adj_self hag0).symm) rfl ht) hS.2.2 d_L12_382
            · have h := ite_f (fun q => c9 ((oI_lt0 ok67).mpr q)) h
              refine lv_iconst (v := oI 1) hx hb d_L12_377 (by decide +kernel) ?_
              refine lv_goto (tgt := 382) hx hb d_L12_378 (by decide) ?_
              refine W.wide (k := c1) (n := s1) (by omega) (by omega) ?_
              obtain ⟨rfl, rfl, rfl⟩ := in3 h
              exact W.zret hx hb hr rfl (fun t ht hW => qkA hP hD hS ad58 (congrArg (fun q => wv z q E58 M66) (adj_self hag0).symm) rfl ht) hS.2.2 d_L12_382
    · have h := ite_t ((oI_eq (a := r48) (b := v47_5) ok49 ok50).mp c9) h
      refine lv_iconst (v := oI 1) hx hb d_L12_281 (by decide +kernel) ?_
      refine lv_goto (tgt := 286) hx hb d_L12_282 (by decide) ?_
      refine lv_istore (lv' := [(7, .int (oI 1)), (1, .ref (ad47 1)), (4, .int (oI (1 + r13))), (5, .int (oI v47_5)), (6, .ref (ad47 v47_6))]) hx hb d_L12_286 hl (by decide) rfl (fun ls hl => ?_)
      refine lv_iconst (v := oI 0) hx hb d_L12_288 (by decide +kernel) ?_
      refine lv_istore (lv' := [(8, .int (oI 0)), (7, .int (oI 1)), (1, .ref (ad47 1)), (4, .int (oI (1 + r13))), (5, .int (oI v47_5)), (6, .ref (ad47 v47_6))]) hx hb d_L12_289 hl (by decide) rfl (fun ls hl => ?_)
      obtain ⟨⟨t68, v68_7, v68_8, E68, M68⟩, g68, h⟩ := bd_e h
      obtain ⟨hgw68, h⟩ := ck_e h
      obtain ⟨hL68, h⟩ := ck_e h
      obtain ⟨ok68, h⟩ := ck_e h
      refine s_La_districts_291 l z E47 ad47 (1 + r13) v47_6 hx hb hml hts hown hlocks hA hG hZ mc ms (c0 + 484) (s0 + 11111) (by omega) (by omega) 5000 _ _ ad47 E47 M48 1 0 t68 v68_7 v68_8 E68 M68 (by omega) (by omega) (fun _ _ => rfl) (Nat.le_refl _) g68 (fun ad68 hag68 hEE68 e68 H locs ls hP hD hS hl => ?_) H locs ls hP hD hS (lv_sub hl [2, 3, 5, 1, 0] rfl)
      have hag0 : ∀ i, i < nE E0 → ad68 i = ad0 i := fun i hi => (hag68 i (Nat.lt_of_lt_of_le hi hE0)).trans (hag0 i hi)
      have hE0 : nE E0 ≤ nE E68 := Nat.le_trans hE0 hgw68.1
      have hL : Lay E68 := hL68
      refine lv_iload hx hb d_L12_332 (lv_at hl 2 rfl) ?_
      obtain ⟨ok69, h⟩ := ck_e h
      refine lv_if_eq (tgt := 381) hx hb d_L12_334 (by decide) (fun c9 => ?_) (fun c9 => ?_)
      · have h := ite_t ((oI_eq0 ok69).mp c9) h
        refine lv_iconst (v := oI 0) hx hb d_L12_381 (by decide +kernel) ?_
        refine W.wide (k := c1) (n := s1) (by omega) (by omega) ?_
        obtain ⟨rfl, rfl, rfl⟩ := in3 h
        exact W.zret hx hb hr rfl (fun t ht hW => qkA hP hD hS ad68 (congrArg (fun q => wv z q E68 M68) (adj_self hag0).symm) rfl ht) hS.2.2 d_L12_382
      · have h := ite_f (fun q => c9 ((oI_eq0 ok69).mpr q)) h
        refine lv_aload_n hx hb d_L12_337 rfl (lv_at hl 0 rfl) ?_
        refine lv_iload hx hb d_L12_338 (lv_at hl 1 rfl) ?_
        refine lv_iconst (v := oI 0) hx hb d_L12_340 (by decide +kernel) ?_
        obtain ⟨⟨r70, M70⟩, g70, h⟩ := bd_e h
        refine kV (As := [.int (oI (1 + r13)), .int (oI 0)]) (rest := []) (s_B_districtsWon l z ad68 E68 M68 (1 + r13) 0 r70 M70 hL g70) hx hb hml hown hts w_1644 w_1641 w_1642 w_1643 w_1 md_9e18c6 ⟨Nat.le_of_ble_eq_true rfl, Nat.le_of_ble_eq_true rfl⟩ hG hZ hP hD hS hA 1 (wv_o (ci := 11) (yi_1 hL) (yt_1 hL)) rfl rfl rfl hl.1 rfl (Nat.le_of_ble_eq_true rfl) d_L12_341 ⟨(show _ ≤ mc by omega), (show _ ≤ ms by omega)⟩ (fun _ H locs hP hD hS => ?_)
        have hP : va_P z.1 classes (wv z ad68 E68 M70) H := hP
        have hD : va_D A (wv z ad68 E68 M70) := hD
        refine W.eq (g2 := F0 m 344 ls [.int (oI r70)]) rfl ?_
        refine lv_aload_n hx hb d_L12_344 rfl (lv_at hl 0 rfl) ?_
        refine lv_iload hx hb d_L12_345 (lv_at hl 1 rfl) ?_
        refine lv_iconst (v := oI 1) hx hb d_L12_347 (by decide +kernel) ?_
        obtain ⟨⟨r71, M71⟩, g71, h⟩ := bd_e h
        refine kV (As := [.int (oI (1 + r13)), .int (oI 1)]) (rest := [.int (oI r70)]) (s_B_districtsWon l z ad68 E68 M70 (1 + r13) 1 r71 M71 hL g71) hx hb hml hown hts w_1644 w_1641 w_1642 w_1643 w_1 md_9e18c6 ⟨Nat.le_of_ble_eq_true rfl, Nat.le_of_ble_eq_true rfl⟩ hG hZ hP hD hS hA 1 (wv_o (ci := 11) (yi_1 hL) (yt_1 hL)) rfl rfl rfl hl.1 rfl (Nat.le_of_ble_eq_true rfl) d_L12_348 ⟨(show _ ≤ mc by omega), (show _ ≤ ms by omega)⟩ (fun _ H locs hP hD hS => ?_)
        have hP : va_P z.1 classes (wv z ad68 E68 M71) H := hP
        have hD : va_D A (wv z ad68 E68 M71) := hD
        refine W.eq (g2 := F0 m 351 ls [.int (oI r71), .int (oI r70)]) rfl ?_
        refine lv_iadd hx hb d_L12_351 ?_
        refine nrm (oI_add _ _) ?_
        refine lv_iload hx hb d_L12_352 (lv_at hl 1 rfl) ?_
        obtain ⟨ok72, h⟩ := ck_e h
        obtain ⟨ok73, h⟩ := ck_e h
        refine lv_icmp_gt (tgt := 381) hx hb d_L12_354 (by decide) (fun c9 => ?_) (fun c9 => ?_)
        · have h := ite_t ((oI_lt (a := (1 + r13)) (b := (r70 + r71)) ok73 ok72).mp c9) h
          refine lv_iconst (v := oI 0) hx hb d_L12_381 (by decide +kernel) ?_
          refine W.wide (k := c1) (n := s1) (by omega) (by omega) ?_
          obtain ⟨rfl, rfl, rfl⟩ := in3 h
          exact W.zret hx hb hr rfl (fun t ht hW => qkA hP hD hS ad68 (congrArg (fun q => wv z q E68 M71) (adj_self hag0).symm) rfl ht) hS.2.2 d_L12_382
        · have h := ite_f (fun q => c9 ((oI_lt (a := (1 + r13)) (b := (r70 + r71)) ok73 ok72).mpr q)) h
          refine lv_aload_n hx hb d_L12_357 rfl (lv_at hl 0 rfl) ?_
          refine lv_iload hx hb d_L12_358 (lv_at hl 1 rfl) ?_
          refine lv_iconst (v := oI 0) hx hb d_L12_360 (by decide +kernel) ?_
          obtain ⟨⟨r74, M74⟩, g74, h⟩ := bd_e h
          refine kV (As := [.int (oI (1 + r13)), .int (oI 0)]) (rest := []) (s_B_wasted l z ad68 E68 M71 (1 + r13) 0 r74 M74 hL g74) hx hb hml hown hts w_1652 w_1649 w_1650 w_1651 w_1 md_0ebbab ⟨Nat.le_of_ble_eq_true rfl, Nat.le_of_ble_eq_true rfl⟩ hG hZ hP hD hS hA 1 (wv_o (ci := 11) (yi_1 hL) (yt_1 hL)) rfl rfl rfl hl.1 rfl (Nat.le_of_ble_eq_true rfl) d_L12_361 ⟨(show _ ≤ mc by omega), (show _ ≤ ms by omega)⟩ (fun _ H locs hP hD hS => ?_)
          have hP : va_P z.1 classes (wv z ad68 E68 M74) H := hP
          have hD : va_D A (wv z ad68 E68 M74) := hD
          refine W.eq (g2 := F0 m 364 ls [.int (oI r74)]) rfl ?_
          obtain ⟨ok75, h⟩ := ck_e h
          refine lv_if_lt (tgt := 381) hx hb d_L12_364 (by decide) (fun c9 => ?_) (fun c9 => ?_)
          · have h := ite_t ((oI_lt0 ok75).mp c9) h
            refine lv_iconst (v := oI 0) hx hb d_L12_381 (by decide +kernel) ?_
            refine W.wide (k := c1) (n := s1) (by omega) (by omega) ?_
            obtain ⟨rfl, rfl, rfl⟩ := in3 h
            exact W.zret hx hb hr rfl (fun t ht hW => qkA hP hD hS ad68 (congrArg (fun q => wv z q E68 M74) (adj_self hag0).symm) rfl ht) hS.2.2 d_L12_382
          · have h := ite_f (fun q => c9 ((oI_lt0 ok75).mpr q)) h
            refine lv_aload_n hx hb d_L12_367 rfl (lv_at hl 0 rfl) ?_
            refine lv_iload hx hb d_L12_368 (lv_at hl 1 rfl) ?_
            refine lv_iconst (v := oI 1) hx hb d_L12_370 (by decide +kernel) ?_
            obtain ⟨⟨r76, M76⟩, g76, h⟩ := bd_e h
            refine kV (As := [.int (oI (1 + r13)), .int (oI 1)]) (rest := []) (s_B_wasted l z ad68 E68 M74 (1 + r13) 1 r76 M76 hL g76) hx hb hml hown hts w_1652 w_1649 w_1650 w_1651 w_1 md_0ebbab ⟨Nat.le_of_ble_eq_true rfl, Nat.le_of_ble_eq_true rfl⟩ hG hZ hP hD hS hA 1 (wv_o (ci := 11) (yi_1 hL) (yt_1 hL)) rfl rfl rfl hl.1 rfl (Nat.le_of_ble_eq_true rfl) d_L12_371 ⟨(show _ ≤ mc by omega), (show _ ≤ ms by omega)⟩ (fun _ H locs hP hD hS => ?_)
            have hP : va_P z.1 classes (wv z ad68 E68 M76) H := hP
            have hD : va_D A (wv z ad68 E68 M76) := hD
            refine W.eq (g2 := F0 m 374 ls [.int (oI r76)]) rfl ?_
            obtain ⟨ok77, h⟩ := ck_e h
            refine lv_if_lt (tgt := 381) hx hb d_L12_374 (by decide) (fun c9 => ?_) (fun c9 => ?_)
            · have h := ite_t ((oI_lt0 ok77).mp c9) h
              refine lv_iconst (v := oI 0) hx hb d_L12_381 (by decide +kernel) ?_
              refine W.wide (k := c1) (n := s1) (by omega) (by omega) ?_
              obtain ⟨rfl, rfl, rfl⟩ := in3 h
              exact W.zret hx hb hr rfl (fun t ht hW => qkA hP hD hS ad68 (congrArg (fun q => wv z q E68 M76) (adj_self hag0).symm) rfl ht) hS.2.2 d_L12_382
            · have h := ite_f (fun q => c9 ((oI_lt0 ok77).mpr q)) h
              refine lv_iconst (v := oI 1) hx hb d_L12_377 (by decide +kernel) ?_
              refine lv_goto (tgt := 382) hx hb d_L12_378 (by decide) ?_
              refine W.wide (k := c1) (n := s1) (by omega) (by omega) ?_
              obtain ⟨rfl, rfl, rfl⟩ := in3 h
              exact W.zret hx hb hr rfl (fun t ht hW => qkA hP hD hS ad68 (congrArg (fun q => wv z q E68 M76) (adj_self hag0).symm) rfl ht) hS.2.2 d_L12_382
  exact key E ad 484 11111 0 0 484 11111 _ _ _ (by decide) (by decide) (by decide) (by decide) (fun _ _ => rfl) (Nat.le_refl _) hts hP hS
set_option maxRecDepth 100000 in
set_option maxHeartbeats 4000000 in
theorem s_Cl_append (l : Launch) (z : Zz) (ad : Nat → Nat) (E : Ev) (M : Mm) (x1 : Int) (r : Int) (N : Mm) (hL : Lay E) (h : f_Cl_append E M x1 = some (r, N)) : CT l z ⟨"Ballothall$Council", "append", "(I)I"⟩ prog_3_method_2_code 3 (some .int) [.ref (ad 243), .int (oI x1)] (wv z ad E M) 0 20 0 0 (fun _ => some (.int (oI r))) (fun _ => (wv z ad E N)) := by
  refine CT.of (own := "Ballothall$Council") (by decide +kernel) (Nat.le_of_ble_eq_true rfl) rfl (fun p e s m below meth c A ls hx hb hml hr hts hown hlocks hin hA hG hZ hP hD hS hl => ?_)
  have hl : lv_has ls 3 [(0, .ref (ad 243)), (1, .int (oI x1))] := hl
  have key : ∀ (H : Heap) (locs : List Loc) (args : Array Value), (∀ w ∈ WG, w.before args s = true) → va_P z.1 classes (wv z ad E M) H → va_S A s.heap H locs → W p l e (rmK 0 20 0 0) s m args below meth c H locs 0 0 (MQ below (QK z A (fun _ => some (.int (oI r))) (fun _ => (wv z ad E N))) args s 0 0 A) (F0 m 0 ls []) := by
    intro H locs args hts hP hS
    unfold f_Cl_append at h
    refine lv_aload_n hx hb d_3_2_0 rfl (lv_at hl 0 rfl) ?_
    refine m_gi (C := "Ballothall$Council") (T := TX1) (N := 4) (ci := 1) (k := 0) hx hb hts iX1 hown hG hP (yi_243 hL) (yt_243 hL) rfl (by decide) w_382 (fun _ h9 => h9) rfl rfl d_3_2_1 ?_
    refine lv_istore_n (lv' := [(2, .int (oI (M 243 0))), (0, .ref (ad 243)), (1, .int (oI x1))]) hx hb d_3_2_4 rfl hl (by decide) rfl (fun ls hl => ?_)
    refine lv_aload_n hx hb d_3_2_5 rfl (lv_at hl 1 rfl) ?_
    refine m_gr (j := 244) (C := "Ballothall$Council") (T := TX1) (N := 4) (ci := 1) (k := 2) hx hb hts iX1 hown hG hP (yi_243 hL) (yt_243 hL) rfl (by decide) w_386 (fun _ h9 => h9) rfl rfl (yr_243_2 hL) d_3_2_6 ?_
    refine lv_iload_n hx hb d_3_2_9 rfl (lv_at hl 0 rfl) ?_
    refine lv_iload_n hx hb d_3_2_10 rfl (lv_at hl 2 rfl) ?_
    obtain ⟨ok0, h⟩ := ck_e h
    refine m_is hx hb hG hP hD hS (yi_244 hL) (yt_244 hL) ok0 d_3_2_11 (fun H locs hP hD hS => ?_)
    have hP : va_P z.1 classes (wv z ad E (u2 M 244 (M 243 0).toNat x1)) H := hP
    have hD : va_D A (wv z ad E (u2 M 244 (M 243 0).toNat x1)) := hD
    refine lv_aload_n hx hb d_3_2_12 rfl (lv_at hl 1 rfl) ?_
    refine lv_dup hx hb d_3_2_13 rfl ?_
    refine m_gi (C := "Ballothall$Council") (T := TX1) (N := 4) (ci := 1) (k := 0) hx hb hts iX1 hown hG hP (yi_243 hL) (yt_243 hL) rfl (by decide) w_382 (fun _ h9 => h9) rfl rfl d_3_2_14 ?_
    refine lv_iconst (v := oI 1) hx hb d_3_2_17 (by decide +kernel) ?_
    refine lv_iadd hx hb d_3_2_18 ?_
    refine nrm (oI_add _ _) ?_
    refine m_pi (C := "Ballothall$Council") (T := TX1) (N := 4) (ci := 1) (k := 0) (ty := .int) hx hb hts iX1 hown hG hP hD hS (yi_243 hL) (yt_243 hL) rfl (by decide) w_382 (fun _ h9 => h9) rfl rfl tyX1_ok nmX1 rfl (by decide +kernel) rfl rfl d_3_2_19 (fun H locs hP hD hS => ?_)
    have hP : va_P z.1 classes (wv z ad E (u2 (u2 M 244 (M 243 0).toNat x1) 243 0 (((u2 M 244 (M 243 0).toNat x1) 243 0) + 1))) H := hP
    have hD : va_D A (wv z ad E (u2 (u2 M 244 (M 243 0).toNat x1) 243 0 (((u2 M 244 (M 243 0).toNat x1) 243 0) + 1))) := hD
    refine lv_iload_n hx hb d_3_2_22 rfl (lv_at hl 0 rfl) ?_
    obtain ⟨rfl, rfl⟩ := in2 h
    exact W.iret hx hb hr (fun t ht hW => qkA hP hD hS (fun k => k) rfl rfl ht) hS.2.2 d_3_2_23
  exact key _ _ _ hts hP hS
set_option maxRecDepth 100000 in
set_option maxHeartbeats 4000000 in
theorem s_B_member (l : Launch) (z : Zz) (ad : Nat → Nat) (E : Ev) (M : Mm) (x1 : Int) (r : Int) (N : Mm) (hL : Lay E) (h : f_B_member E M x1 = some (r, N)) : CT l z ⟨"Ballothall", "member", "(I)I"⟩ prog_1_method_46_code 3 (some .int) [.ref (ad 1), .int (oI x1)] (wv z ad E M) 2 63 0 0 (fun _ => some (.int (oI r))) (fun _ => (wv z ad E N)) := by
  refine CT.of (own := "Ballothall") (by decide +kernel) (Nat.le_of_ble_eq_true rfl) rfl (fun p e s m below meth c A ls hx hb hml hr hts hown hlocks hin hA hG hZ hP hD hS hl => ?_)
  have hl : lv_has ls 3 [(0, .ref (ad 1)), (1, .int (oI x1))] := hl
  have key : ∀ (H : Heap) (locs : List Loc) (args : Array Value), (∀ w ∈ WG, w.before args s = true) → va_P z.1 classes (wv z ad E M) H → va_S A s.heap H locs → W p l e (rmK 2 63 0 0) s m args below meth c H locs 0 0 (MQ below (QK z A (fun _ => some (.int (oI r))) (fun _ => (wv z ad E N))) args s 0 0 A) (F0 m 0 ls []) := by
    intro H locs args hts hP hS
    unfold f_B_member at h
    refine lv_iload_n hx hb d_1_46_0 rfl (lv_at hl 1 rfl) ?_
    refine lv_iconst (v := oI 0) hx hb d_1_46_1 (by decide +kernel) ?_
    refine lv_sipush (v := oI 1000) hx hb d_1_46_2 (by decide +kernel) ?_
    obtain ⟨_, g0, h⟩ := bd_e h
    refine kS (As := [.int (oI x1), .int (oI 0), .int (oI 1000)]) (rest := []) (s_B_needRange l z ad E M x1 0 1000 hL g0) hx hb hml hown hts w_548 w_546 w_547 w_1 md_519134 ⟨Nat.le_of_ble_eq_true rfl, Nat.le_of_ble_eq_true rfl⟩ hG hZ hP hD hS hA rfl hl.1 rfl (Nat.le_of_ble_eq_true rfl) d_1_46_5 ⟨Nat.le_of_ble_eq_true rfl, Nat.le_of_ble_eq_true rfl⟩ (fun _ H locs hP hD hS => ?_)
    have hP : va_P z.1 classes (wv z ad E M) H := hP
    have hD : va_D A (wv z ad E M) := hD
    refine W.eq (g2 := F0 m 8 ls []) rfl ?_
    refine lv_aload_n hx hb d_1_46_8 rfl (lv_at hl 0 rfl) ?_
    refine m_gr (j := 243) (C := "Ballothall") (T := TX11) (N := 14) (ci := 11) (k := 6) hx hb hts iX11 hown hG hP (yi_1 hL) (yt_1 hL) rfl (by decide) w_403 (fun _ h9 => h9) rfl rfl (yr_1_6 hL) d_1_46_9 ?_
    refine m_giN (C := "Ballothall$Council") (T := TX1) (N := 4) (ci := 1) (k := 0) hx hb hts iX1 hown hG hP (yi_243 hL) (yt_243 hL) rfl (by decide) n_383 rfl (fun _ h9 => h9) rfl rfl d_1_46_12 ?_
    refine lv_iconst (v := oI 1) hx hb d_1_46_15 (by decide +kernel) ?_
    refine lv_iadd hx hb d_1_46_16 ?_
    refine nrm (oI_add _ _) ?_
    refine lv_bipush (v := oI 12) hx hb d_1_46_17 (by decide +kernel) ?_
    obtain ⟨_, g1, h⟩ := bd_e h
    refine kS (As := [.int (oI ((M 243 0) + 1)), .int (oI 12)]) (rest := []) (s_B_needRoom l z ad E M ((M 243 0) + 1) 12 hL g1) hx hb hml hown hts w_446 w_444 w_445 w_1 md_ec9fa9 ⟨Nat.le_of_ble_eq_true rfl, Nat.le_of_ble_eq_true rfl⟩ hG hZ hP hD hS hA rfl hl.1 rfl (Nat.le_of_ble_eq_true rfl) d_1_46_19 ⟨Nat.le_of_ble_eq_true rfl, Nat.le_of_ble_eq_true rfl⟩ (fun _ H locs hP hD hS => ?_)
    have hP : va_P z.1 classes (wv z ad E M) H := hP
    have hD : va_D A (wv z ad E M) := hD
    refine W.eq (g2 := F0 m 22 ls []) rfl ?_
    refine lv_aload_n hx hb d_1_46_22 rfl (lv_at hl 0 rfl) ?_
    refine m_gr (j := 243) (C := "Ballothall") (T := TX11) (N := 14) (ci := 11) (k := 6) hx hb hts iX11 hown hG hP (yi_1 hL) (yt_1 hL) rfl (by decide) w_403 (fun _ h9 => h9) rfl rfl (yr_1_6 hL) d_1_46_23 ?_
    refine lv_iload_n hx hb d_1_46_26 rfl (lv_at hl 1 rfl) ?_
    obtain ⟨⟨r2, M2⟩, g2, h⟩ := bd_e h
    refine kVN (As := [.int (oI x1)]) (rest := []) (s_Cl_append l z ad E M x1 r2 M2 hL g2) hx hb hml hown hts w_1663 n_1660 w_1662 w_s_eb7ceb w_11 md_843631 ⟨Nat.le_of_ble_eq_true rfl, Nat.le_of_ble_eq_true rfl⟩ hG hZ hP hD hS hA 243 (wv_o (ci := 1) (yi_243 hL) (yt_243 hL)) rfl rfl rfl hl.1 rfl (Nat.le_of_ble_eq_true rfl) d_1_46_27 ⟨Nat.le_of_ble_eq_true rfl, Nat.le_of_ble_eq_true rfl⟩ (fun _ H locs hP hD hS => ?_)
    have hP : va_P z.1 classes (wv z ad E M2) H := hP
    have hD : va_D A (wv z ad E M2) := hD
    refine W.eq (g2 := F0 m 30 ls [.int (oI r2)]) rfl ?_
    refine lv_istore_n (lv' := [(2, .int (oI r2)), (0, .ref (ad 1)), (1, .int (oI x1))]) hx hb d_1_46_30 rfl hl (by decide) rfl (fun ls hl => ?_)
    refine lv_aload_n hx hb d_1_46_31 rfl (lv_at hl 1 rfl) ?_
    refine lv_bipush (v := oI 11) hx hb d_1_46_32 (by decide +kernel) ?_
    refine lv_iload_n hx hb d_1_46_34 rfl (lv_at hl 0 rfl) ?_
    refine lv_iconst (v := oI 0) hx hb d_1_46_35 (by decide +kernel) ?_
    obtain ⟨M3, g3, h⟩ := bd_e h
    refine kV (As := [.int (oI 11), .int (oI r2), .int (oI 0)]) (rest := []) (s_B_remember l z ad E M2 11 r2 0 M3 hL g3) hx hb hml hown hts w_519 w_516 w_518 w_s_b872b3 w_1 md_7af0bb ⟨Nat.le_of_ble_eq_true rfl, Nat.le_of_ble_eq_true rfl⟩ hG hZ hP hD hS hA 1 (wv_o (ci := 11) (yi_1 hL) (yt_1 hL)) rfl rfl rfl hl.1 rfl (Nat.le_of_ble_eq_true rfl) d_1_46_36 ⟨Nat.le_of_ble_eq_true rfl, Nat.le_of_ble_eq_true rfl⟩ (fun _ H locs hP hD hS => ?_)
    have hP : va_P z.1 classes (wv z ad E M3) H := hP
    have hD : va_D A (wv z ad E M3) := hD
    refine W.eq (g2 := F0 m 39 ls []) rfl ?_
    refine lv_iload_n hx hb d_1_46_39 rfl (lv_at hl 0 rfl) ?_
    obtain ⟨rfl, rfl⟩ := in2 h
    exact W.iret hx hb hr (fun t ht hW => qkA hP hD hS (fun k => k) rfl rfl ht) hS.2.2 d_1_46_40
  exact key _ _ _ hts hP hS
set_option maxRecDepth 100000 in
set_option maxHeartbeats 4000000 in
theorem s_B_setQuota (l : Launch) (z : Zz) (ad : Nat → Nat) (E : Ev) (M : Mm) (x1 : Int) (r : Int) (N : Mm) (hL : Lay E) (h : f_B_setQuota E M x1 = some (r, N)) : CT l z ⟨"Ballothall", "setQuota", "(I)I"⟩ prog_1_method_47_code 3 (some .int) [.ref (ad 1), .int (oI x1)] (wv z ad E M) 2 63 0 0 (fun _ => some (.int (oI r))) (fun _ => (wv z ad E N)) := by
  refine CT.of (own := "Ballothall") (by decide +kernel) (Nat.le_of_ble_eq_true rfl) rfl (fun p e s m below meth c A ls hx hb hml hr hts hown hlocks hin hA hG hZ hP hD hS hl => ?_)
  have hl : lv_has ls 3 [(0, .ref (ad 1)), (1, .int (oI x1))] := hl
  have key : ∀ (H : Heap) (locs : List Loc) (args : Array Value), (∀ w ∈ WG, w.before args s = true) → va_P z.1 classes (wv z ad E M) H → va_S A s.heap H locs → W p l e (rmK 2 63 0 0) s m args below meth c H locs 0 0 (MQ below (QK z A (fun _ => some (.int (oI r))) (fun _ => (wv z ad E N))) args s 0 0 A) (F0 m 0 ls []) := by
    intro H locs args hts hP hS
    unfold f_B_setQuota at h
    refine lv_iload_n hx hb d_1_47_0 rfl (lv_at hl 1 rfl) ?_
    refine lv_iconst (v := oI 1) hx hb d_1_47_1 (by decide +kernel) ?_
    refine lv_sipush (v := oI 12000) hx hb d_1_47_2 (by decide +kernel) ?_
    obtain ⟨_, g0, h⟩ := bd_e h
    refine kS (As := [.int (oI x1), .int (oI 1), .int (oI 12000)]) (rest := []) (s_B_needRange l z ad E M x1 1 12000 hL g0) hx hb hml hown hts w_548 w_546 w_547 w_1 md_519134 ⟨Nat.le_of_ble_eq_true rfl, Nat.le_of_ble_eq_true rfl⟩ hG hZ hP hD hS hA rfl hl.1 rfl (Nat.le_of_ble_eq_true rfl) d_1_47_5 ⟨Nat.le_of_ble_eq_true rfl, Nat.le_of_ble_eq_true rfl⟩ (fun _ H locs hP hD hS => ?_)
    have hP : va_P z.1 classes (wv z ad E M) H := hP
    have hD : va_D A (wv z ad E M) := hD
    refine W.eq (g2 := F0 m 8 ls []) rfl ?_
    refine lv_aload_n hx hb d_1_47_8 rfl (lv_at hl 0 rfl) ?_
    refine m_gr (j := 243) (C := "Ballothall") (T := TX11) (N := 14) (ci := 11) (k := 6) hx hb hts iX11 hown hG hP (yi_1 hL) (yt_1 hL) rfl (by decide) w_403 (fun _ h9 => h9) rfl rfl (yr_1_6 hL) d_1_47_9 ?_
    refine m_giN (C := "Ballothall$Council") (T := TX1) (N := 4) (ci := 1) (k := 1) hx hb hts iX1 hown hG hP (yi_243 hL) (yt_243 hL) rfl (by decide) n_385 rfl (fun _ h9 => h9) rfl rfl d_1_47_12 ?_
    refine lv_istore_n (lv' := [(2, .int (oI (M 243 1))), (0, .ref (ad 1)), (1, .int (oI x1))]) hx hb d_1_47_15 rfl hl (by decide) rfl (fun ls hl => ?_)
    refine lv_aload_n hx hb d_1_47_16 rfl (lv_at hl 1 rfl) ?_
    refine m_gr (j := 243) (C := "Ballothall") (T := TX11) (N := 14) (ci := 11) (k := 6) hx hb hts iX11 hown hG hP (yi_1 hL) (yt_1 hL) rfl (by decide) w_403 (fun _ h9 => h9) rfl rfl (yr_1_6 hL) d_1_47_17 ?_
    refine lv_iload_n hx hb d_1_47_20 rfl (lv_at hl 2 rfl) ?_
    refine m_piN (C := "Ballothall$Council") (T := TX1) (N := 4) (ci := 1) (k := 1) (ty := .int) hx hb hts iX1 hown hG hP hD hS (yi_243 hL) (yt_243 hL) rfl (by decide) n_385 rfl (fun _ h9 => h9) rfl rfl tyX1_ok nmX1 rfl (by decide +kernel) rfl rfl d_1_47_21 (fun H locs hP hD hS => ?_)
    have hP : va_P z.1 classes (wv z ad E (u2 M 243 1 x1)) H := hP
    have hD : va_D A (wv z ad E (u2 M 243 1 x1)) := hD
    refine lv_aload_n hx hb d_1_47_24 rfl (lv_at hl 1 rfl) ?_
    refine lv_bipush (v := oI 12) hx hb d_1_47_25 (by decide +kernel) ?_
    refine lv_iconst (v := oI 0) hx hb d_1_47_27 (by decide +kernel) ?_
    refine lv_iload_n hx hb d_1_47_28 rfl (lv_at hl 0 rfl) ?_
    obtain ⟨M1, g1, h⟩ := bd_e h
    refine kV (As := [.int (oI 12), .int (oI 0), .int (oI (M 243 1))]) (rest := []) (s_B_remember l z ad E (u2 M 243 1 x1) 12 0 (M 243 1) M1 hL g1) hx hb hml hown hts w_519 w_516 w_518 w_s_b872b3 w_1 md_7af0bb ⟨Nat.le_of_ble_eq_true rfl, Nat.le_of_ble_eq_true rfl⟩ hG hZ hP hD hS hA 1 (wv_o (ci := 11) (yi_1 hL) (yt_1 hL)) rfl rfl rfl hl.1 rfl (Nat.le_of_ble_eq_true rfl) d_1_47_29 ⟨Nat.le_of_ble_eq_true rfl, Nat.le_of_ble_eq_true rfl⟩ (fun _ H locs hP hD hS => ?_)
    have hP : va_P z.1 classes (wv z ad E M1) H := hP
    have hD : va_D A (wv z ad E M1) := hD
    refine W.eq (g2 := F0 m 32 ls []) rfl ?_
    refine lv_iload_n hx hb d_1_47_32 rfl (lv_at hl 0 rfl) ?_
    obtain ⟨rfl, rfl⟩ := in2 h
    exact W.iret hx hb hr (fun t ht hW => qkA hP hD hS (fun k => k) rfl rfl ht) hS.2.2 d_1_47_33
  exact key _ _ _ hts hP hS
set_option maxRecDepth 100000 in
set_option maxHeartbeats 4000000 in
theorem s_B_ordersTurned (l : Launch) (z : Zz) (ad : Nat → Nat) (E : Ev) (M : Mm) (x1 : Int) (r : Int) (N : Mm) (hL : Lay E) (h : f_B_ordersTurned E M x1 = some (r, N)) : CT l z ⟨"Ballothall", "ordersTurned", "(I)J"⟩ prog_1_method_49_code 2 (some .long) [.ref (ad 1), .int (oI x1)] (wv z ad E M) 3 88 0 0 (fun _ => some (.long (oJ r))) (fun _ => (wv z ad E N)) := by
  refine CT.of (own := "Ballothall") (by decide +kernel) (Nat.le_of_ble_eq_true rfl) rfl (fun p e s m below meth c A ls hx hb hml hr hts hown hlocks hin hA hG hZ hP hD hS hl => ?_)
  have hl : lv_has ls 2 [(0, .ref (ad 1)), (1, .int (oI x1))] := hl
  have key : ∀ (H : Heap) (locs : List Loc) (args : Array Value), (∀ w ∈ WG, w.before args s = true) → va_P z.1 classes (wv z ad E M) H → va_S A s.heap H locs → W p l e (rmK 3 88 0 0) s m args below meth c H locs 0 0 (MQ below (QK z A (fun _ => some (.long (oJ r))) (fun _ => (wv z ad E N))) args s 0 0 A) (F0 m 0 ls []) := by
    intro H locs args hts hP hS
    unfold f_B_ordersTurned at h
    refine lv_iload_n hx hb d_1_49_0 rfl (lv_at hl 1 rfl) ?_
    refine lv_aload_n hx hb d_1_49_1 rfl (lv_at hl 0 rfl) ?_
    refine m_gr (j := 243) (C := "Ballothall") (T := TX11) (N := 14) (ci := 11) (k := 6) hx hb hts iX11 hown hG hP (yi_1 hL) (yt_1 hL) rfl (by decide) w_403 (fun _ h9 => h9) rfl rfl (yr_1_6 hL) d_1_49_2 ?_
    refine m_giN (C := "Ballothall$Council") (T := TX1) (N := 4) (ci := 1) (k := 0) hx hb hts iX1 hown hG hP (yi_243 hL) (yt_243 hL) rfl (by decide) n_383 rfl (fun _ h9 => h9) rfl rfl d_1_49_5 ?_
    obtain ⟨_, g0, h⟩ := bd_e h
    refine kS (As := [.int (oI x1), .int (oI (M 243 0))]) (rest := []) (s_B_needIndex l z ad E M x1 (M 243 0) hL g0) hx hb hml hown hts w_529 w_527 w_528 w_1 md_6cb26b ⟨Nat.le_of_ble_eq_true rfl, Nat.le_of_ble_eq_true rfl⟩ hG hZ hP hD hS hA rfl hl.1 rfl (Nat.le_of_ble_eq_true rfl) d_1_49_8 ⟨Nat.le_of_ble_eq_true rfl, Nat.le_of_ble_eq_true rfl⟩ (fun _ H locs hP hD hS => ?_)
    have hP : va_P z.1 classes (wv z ad E M) H := hP
    have hD : va_D A (wv z ad E M) := hD
    refine W.eq (g2 := F0 m 11 ls []) rfl ?_
    refine lv_aload_n hx hb d_1_49_11 rfl (lv_at hl 0 rfl) ?_
    refine m_gr (j := 243) (C := "Ballothall") (T := TX11) (N := 14) (ci := 11) (k := 6) hx hb hts iX11 hown hG hP (yi_1 hL) (yt_1 hL) rfl (by decide) w_403 (fun _ h9 => h9) rfl rfl (yr_1_6 hL) d_1_49_12 ?_
    obtain ⟨M1, g1, h⟩ := bd_e h
    refine kVN (As := []) (rest := []) (s_Cl_findSums l z ad E M M1 hL g1) hx hb hml hown hts w_754 n_1672 w_753 w_s_13b3b8 w_11 md_bc486d ⟨Nat.le_of_ble_eq_true rfl, Nat.le_of_ble_eq_true rfl⟩ hG hZ hP hD hS hA 243 (wv_o (ci := 1) (yi_243 hL) (yt_243 hL)) rfl rfl rfl hl.1 rfl (Nat.le_of_ble_eq_true rfl) d_1_49_15 ⟨Nat.le_of_ble_eq_true rfl, Nat.le_of_ble_eq_true rfl⟩ (fun _ H locs hP hD hS => ?_)
    have hP : va_P z.1 classes (wv z ad E M1) H := hP
    have hD : va_D A (wv z ad E M1) := hD
    refine W.eq (g2 := F0 m 18 ls []) rfl ?_
    refine lv_aload_n hx hb d_1_49_18 rfl (lv_at hl 0 rfl) ?_
    refine m_gr (j := 243) (C := "Ballothall") (T := TX11) (N := 14) (ci := 11) (k := 6) hx hb hts iX11 hown hG hP (yi_1 hL) (yt_1 hL) rfl (by decide) w_403 (fun _ h9 => h9) rfl rfl (yr_1_6 hL) d_1_49_19 ?_
    refine lv_iload_n hx hb d_1_49_22 rfl (lv_at hl 1 rfl) ?_
    obtain ⟨r2, g2, h⟩ := bd_e h
    refine kVN (As := [.int (oI x1)]) (rest := []) (s_Cl_ordersTurnedBy l z ad E M1 x1 r2 hL g2) hx hb hml hown hts w_758 n_1673 w_757 w_s_b6ce20 w_11 md_27e5a0 ⟨Nat.le_of_ble_eq_true rfl, Nat.le_of_ble_eq_true rfl⟩ hG hZ hP hD hS hA 243 (wv_o (ci := 1) (yi_243 hL) (yt_243 hL)) rfl rfl rfl hl.1 rfl (Nat.le_of_ble_eq_true rfl) d_1_49_23 ⟨Nat.le_of_ble_eq_true rfl, Nat.le_of_ble_eq_true rfl⟩ (fun _ H locs hP hD hS => ?_)
    have hP : va_P z.1 classes (wv z ad E M1) H := hP
    have hD : va_D A (wv z ad E M1) := hD
    refine W.eq (g2 := F0 m 26 ls [.long (oJ r2)]) rfl ?_
    obtain ⟨rfl, rfl⟩ := in2 h
    exact W.lret hx hb hr (fun t ht hW => qkA hP hD hS (fun k => k) rfl rfl ht) hS.2.2 d_1_49_26
  exact key _ _ _ hts hP hS
set_option maxRecDepth 100000 in
set_option maxHeartbeats 4000000 in
theorem b_Cl_setsSwungBy_4b (l : Launch) (z : Zz) (ad : Nat → Nat) (E : Ev) (M : Mm) (x1 : Int) (x2 : Int) (x3 : Int) (t : Nat) (w2 : Int) (w3 : Int)  {Q : State → Prop} {p : Program} {e : Env} {s : State} {m : MethodId} {below : List Frame} {meth : Method} {c : Code} {A : Nat → Prop} {args : Array Value} (hx : p.tables.exec = Jvm.exec) (hb : c.code = prog_3_method_5_code) (hml : c.maxLocals = 4) (hts : ∀ w ∈ WG, w.before args s = true) (hown : s.vm.findClass "Ballothall$Council" = some m.cls) (hlocks : meth.locks = false) (hA : ∀ q, s.heap.size ≤ q → A q) (hG : KG z s) (hZ : FZ z A s) (hL : Lay E) (h : Cl_setsSwungBy_4b E M x1 x2 x3 = some (t, w2, w3)) (k0 : t = 0 → ∀ (H : Heap) (locs : List Loc) (ls : Array Slot), va_P z.1 classes (wv z ad E M) H → va_D A (wv z ad E M) → va_S A s.heap H locs → lv_has ls 4 [(0, .ref (ad 243)), (1, .int (oI x1)), (2, .int (oI w2)), (3, .int (oI w3))] → W p l e (rmK 2 63 0 0) s m args below meth c H locs 0 0 Q (F0 m 4 ls [])) (k1 : t = 1 → ∀ (H : Heap) (locs : List Loc) (ls : Array Slot), va_P z.1 classes (wv z ad E M) H → va_D A (wv z ad E M) → va_S A s.heap H locs → lv_has ls 4 [(2, .int (oI w2))] → W p l e (rmK 2 63 0 0) s m args below meth c H locs 0 0 Q (F0 m 32 ls [])) : ∀ (H : Heap) (locs : List Loc) (ls : Array Slot), va_P z.1 classes (wv z ad E M) H → va_D A (wv z ad E M) → va_S A s.heap H locs → lv_has ls 4 [(0, .ref (ad 243)), (1, .int (oI x1)), (2, .int (oI x2)), (3, .int (oI x3))] → W p l e (rmK 2 63 0 0) s m args below meth c H locs 0 0 Q (F0 m 4 ls []) := by
  intro H locs ls hP hD hS hl
  unfold Cl_setsSwungBy_4b at h
  refine lv_iload_n hx hb d_3_5_4 rfl (lv_at hl 3 rfl) ?_
  refine lv_iconst (v := oI 1) hx hb d_3_5_5 (by decide +kernel) ?_
  refine lv_aload_n hx hb d_3_5_6 rfl (lv_at hl 0 rfl) ?_
  refine m_gi (C := "Ballothall$Council") (T := TX1) (N := 4) (ci := 1) (k := 0) hx hb hts iX1 hown hG hP (yi_243 hL) (yt_243 hL) rfl (by decide) w_382 (fun _ h9 => h9) rfl rfl d_3_5_7 ?_
  obtain ⟨ok0, h⟩ := ck_e h
  refine lv_ishl hx hb d_3_5_10 ?_
  refine nrm (oI_one_shl ok0) ?_
  obtain ⟨ok1, h⟩ := ck_e h
  obtain ⟨ok2, h⟩ := ck_e h
  refine lv_icmp_ge (tgt := 32) hx hb d_3_5_11 (by decide) (fun c9 => ?_) (fun c9 => ?_)
  · have h := ite_t ((oI_le (a := (2 ^ (M 243 0).toNat)) (b := x3) ok2 ok1).mp c9) h
    obtain ⟨rfl, rfl, rfl⟩ := in3 h
    exact k1 rfl H locs ls hP hD hS (lv_sub hl [2] rfl)
  · have h := ite_f (fun q => c9 ((oI_le (a := (2 ^ (M 243 0).toNat)) (b := x3) ok2 ok1).mpr q)) h
    refine lv_aload_n hx hb d_3_5_14 rfl (lv_at hl 0 rfl) ?_
    refine lv_iload_n hx hb d_3_5_15 rfl (lv_at hl 3 rfl) ?_
    refine lv_iload_n hx hb d_3_5_16 rfl (lv_at hl 1 rfl) ?_
    obtain ⟨r3, g3, h⟩ := bd_e h
    refine kV (As := [.int (oI x3), .int (oI x1)]) (rest := []) (s_Cl_isSwung l z ad E M x3 x1 r3 hL g3) hx hb hml hown hts w_762 w_759 w_761 w_s_ce08ed w_11 md_99b449 ⟨Nat.le_of_ble_eq_true rfl, Nat.le_of_ble_eq_true rfl⟩ hG hZ hP hD hS hA 243 (wv_o (ci := 1) (yi_243 hL) (yt_243 hL)) rfl rfl rfl hl.1 rfl (Nat.le_of_ble_eq_true rfl) d_3_5_17 ⟨Nat.le_of_ble_eq_true rfl, Nat.le_of_ble_eq_true rfl⟩ (fun _ H locs hP hD hS => ?_)
    have hP : va_P z.1 classes (wv z ad E M) H := hP
    have hD : va_D A (wv z ad E M) := hD
    refine W.eq (g2 := F0 m 20 ls [.int (oI r3)]) rfl ?_
    obtain ⟨ok4, h⟩ := ck_e h
    refine lv_if_eq (tgt := 26) hx hb d_3_5_20 (by decide) (fun c9 => ?_) (fun c9 => ?_)
    · have h := ite_t ((oI_eq0 ok4).mp c9) h
      refine lv_iinc (v := oI (x3 + 1)) (lv' := [(3, .int (oI (x3 + 1))), (0, .ref (ad 243)), (1, .int (oI x1)), (2, .int (oI x2))]) hx hb d_3_5_26 hl (k := 3) rfl (oI_add x3 1) (by decide) rfl (fun ls hl => ?_)
      refine lv_goto (tgt := 4) hx hb d_3_5_29 (by decide) ?_
      obtain ⟨rfl, rfl, rfl⟩ := in3 h
      exact k0 rfl H locs ls hP hD hS (lv_sub hl [1, 2, 3, 0] rfl)
    · have h := ite_f (fun q => c9 ((oI_eq0 ok4).mpr q)) h
      refine lv_iinc (v := oI (x2 + 1)) (lv' := [(2, .int (oI (x2 + 1))), (0, .ref (ad 243)), (1, .int (oI x1)), (3, .int (oI x3))]) hx hb d_3_5_23 hl (k := 2) rfl (oI_add x2 1) (by decide) rfl (fun ls hl => ?_)
      refine lv_iinc (v := oI (x3 + 1)) (lv' := [(3, .int (oI (x3 + 1))), (2, .int (oI (x2 + 1))), (0, .ref (ad 243)), (1, .int (oI x1))]) hx hb d_3_5_26 hl (k := 3) rfl (oI_add x3 1) (by decide) rfl (fun ls hl => ?_)
      refine lv_goto (tgt := 4) hx hb d_3_5_29 (by decide) ?_
      obtain ⟨rfl, rfl, rfl⟩ := in3 h
      exact k0 rfl H locs ls hP hD hS (lv_sub hl [2, 3, 1, 0] rfl)
set_option maxRecDepth 100000 in
set_option maxHeartbeats 4000000 in
theorem s_Cl_setsSwungBy_4 (l : Launch) (z : Zz) (ad : Nat → Nat) (E : Ev) (x1 : Int) {Q : State → Prop} {p : Program} {e : Env} {s : State} {m : MethodId} {below : List Frame} {meth : Method} {c : Code} {A : Nat → Prop} {args : Array Value} (hx : p.tables.exec = Jvm.exec) (hb : c.code = prog_3_method_5_code) (hml : c.maxLocals = 4) (hts : ∀ w ∈ WG, w.before args s = true) (hown : s.vm.findClass "Ballothall$Council" = some m.cls) (hlocks : meth.locks = false) (hA : ∀ q, s.heap.size ≤ q → A q) (hG : KG z s) (hZ : FZ z A s) (hL : Lay E) : ∀ (fu : Nat) (M : Mm) (x2 : Int) (x3 : Int) (t : Nat) (w2 : Int) (w3 : Int), l_Cl_setsSwungBy_4 E x1 fu M x2 x3 = some (t, w2, w3) → (t = 1 → ∀ (H : Heap) (locs : List Loc) (ls : Array Slot), va_P z.1 classes (wv z ad E M) H → va_D A (wv z ad E M) → va_S A s.heap H locs → lv_has ls 4 [(2, .int (oI w2))] → W p l e (rmK 2 63 0 0) s m args below meth c H locs 0 0 Q (F0 m 32 ls [])) → ∀ (H : Heap) (locs : List Loc) (ls : Array Slot), va_P z.1 classes (wv z ad E M) H → va_D A (wv z ad E M) → va_S A s.heap H locs → lv_has ls 4 [(0, .ref (ad 243)), (1, .int (oI x1)), (2, .int (oI x2)), (3, .int (oI x3))] → W p l e (rmK 2 63 0 0) s m args below meth c H locs 0 0 Q (F0 m 4 ls []) := by
  intro fu
  induction fu with
  | zero =>
    intro M x2 x3 t w2 w3 h
    have h : (none : Option (Nat × Int × Int)) = some _ := h
    cases h
  | succ fu ih =>
    intro M x2 x3 t w2 w3 h k1 H locs ls hP hD hS hl
    obtain ⟨⟨t0, w20, w30⟩, g0, h⟩ := bd_e h
    refine b_Cl_setsSwungBy_4b l z ad E M x1 x2 x3 t0 w20 w30 hx hb hml hts hown hlocks hA hG hZ hL g0 (fun e0 => ?_) (fun e0 => ?_) H locs ls hP hD hS hl
    · subst e0
      have h := ite_t rfl h
      exact ih M w20 w30 t w2 w3 h k1
    · subst e0
      have h := ite_f (by decide) h
      obtain ⟨rfl, rfl, rfl⟩ := in3 h
      exact k1 rfl
set_option maxRecDepth 100000 in
set_option maxHeartbeats 4000000 in
theorem s_Cl_setsSwungBy (l : Launch) (z : Zz) (ad : Nat → Nat) (E : Ev) (M : Mm) (x1 : Int) (r : Int)  (hL : Lay E) (h : f_Cl_setsSwungBy E M x1 = some r) : CT l z ⟨"Ballothall$Council", "setsSwungBy", "(I)I"⟩ prog_3_method_5_code 4 (some .int) [.ref (ad 243), .int (oI x1)] (wv z ad E M) 2 63 0 0 (fun _ => some (.int (oI r))) (fun _ => (wv z ad E M)) := by
  refine CT.of (own := "Ballothall$Council") (by decide +kernel) (Nat.le_of_ble_eq_true rfl) rfl (fun p e s m below meth c A ls hx hb hml hr hts hown hlocks hin hA hG hZ hP hD hS hl => ?_)
  have hl : lv_has ls 4 [(0, .ref (ad 243)), (1, .int (oI x1))] := hl
  have key : ∀ (H : Heap) (locs : List Loc) (args : Array Value), (∀ w ∈ WG, w.before args s = true) → va_P z.1 classes (wv z ad E M) H → va_S A s.heap H locs → W p l e (rmK 2 63 0 0) s m args below meth c H locs 0 0 (MQ below (QK z A (fun _ => some (.int (oI r))) (fun _ => (wv z ad E M))) args s 0 0 A) (F0 m 0 ls []) := by
    intro H locs args hts hP hS
    unfold f_Cl_setsSwungBy at h
    refine lv_iconst (v := oI 0) hx hb d_3_5_0 (by decide +kernel) ?_
    refine lv_istore_n (lv' := [(2, .int (oI 0)), (0, .ref (ad 243)), (1, .int (oI x1))]) hx hb d_3_5_1 rfl hl (by decide) rfl (fun ls hl => ?_)
    refine lv_iconst (v := oI 0) hx hb d_3_5_2 (by decide +kernel) ?_
    refine lv_istore_n (lv' := [(3, .int (oI 0)), (2, .int (oI 0)), (0, .ref (ad 243)), (1, .int (oI x1))]) hx hb d_3_5_3 rfl hl (by decide) rfl (fun ls hl => ?_)
    obtain ⟨⟨t5, v5_2, v5_3⟩, g5, h⟩ := bd_e h
    obtain ⟨ok5, h⟩ := ck_e h
    refine s_Cl_setsSwungBy_4 l z ad E x1 hx hb hml hts hown hlocks hA hG hZ hL FU M 0 0 t5 v5_2 v5_3 g5 (fun e5 H locs ls hP hD hS hl => ?_) H locs ls hP hD hS (lv_sub hl [2, 3, 1, 0] rfl)
    refine lv_iload_n hx hb d_3_5_32 rfl (lv_at hl 0 rfl) ?_
    obtain rfl := in1 h
    exact W.iret hx hb hr (fun t ht hW => qkA hP hD hS (fun k => k) rfl rfl ht) hS.2.2 d_3_5_33
  exact key _ _ _ hts hP hS
set_option maxRecDepth 100000 in
set_option maxHeartbeats 4000000 in
theorem s_B_swings (l : Launch) (z : Zz) (ad : Nat → Nat) (E : Ev) (M : Mm) (x1 : Int) (r : Int) (N : Mm) (hL : Lay E) (h : f_B_swings E M x1 = some (r, N)) : CT l z ⟨"Ballothall", "swings", "(I)I"⟩ prog_1_method_48_code 2 (some .int) [.ref (ad 1), .int (oI x1)] (wv z ad E M) 3 86 0 0 (fun _ => some (.int (oI r))) (fun _ => (wv z ad E N)) := by
  refine CT.of (own := "Ballothall") (by decide +kernel) (Nat.le_of_ble_eq_true rfl) rfl (fun p e s m below meth c A ls hx hb hml hr hts hown hlocks hin hA hG hZ hP hD hS hl => ?_)
  have hl : lv_has ls 2 [(0, .ref (ad 1)), (1, .int (oI x1))] := hl
  have key : ∀ (H : Heap) (locs : List Loc) (args : Array Value), (∀ w ∈ WG, w.before args s = true) → va_P z.1 classes (wv z ad E M) H → va_S A s.heap H locs → W p l e (rmK 3 86 0 0) s m args below meth c H locs 0 0 (MQ below (QK z A (fun _ => some (.int (oI r))) (fun _ => (wv z ad E N))) args s 0 0 A) (F0 m 0 ls []) := by
    intro H locs args hts hP hS
    unfold f_B_swings at h
    refine lv_iload_n hx hb d_1_48_0 rfl (lv_at hl 1 rfl) ?_
    refine lv_aload_n hx hb d_1_48_1 rfl (lv_at hl 0 rfl) ?_
    refine m_gr (j := 243) (C := "Ballothall") (T := TX11) (N := 14) (ci := 11) (k := 6) hx hb hts iX11 hown hG hP (yi_1 hL) (yt_1 hL) rfl (by decide) w_403 (fun _ h9 => h9) rfl rfl (yr_1_6 hL) d_1_48_2 ?_
    refine m_giN (C := "Ballothall$Council") (T := TX1) (N := 4) (ci := 1) (k := 0) hx hb hts iX1 hown hG hP (yi_243 hL) (yt_243 hL) rfl (by decide) n_383 rfl (fun _ h9 => h9) rfl rfl d_1_48_5 ?_
    obtain ⟨_, g0, h⟩ := bd_e h
    refine kS (As := [.int (oI x1), .int (oI (M 243 0))]) (rest := []) (s_B_needIndex l z ad E M x1 (M 243 0) hL g0) hx hb hml hown hts w_529 w_527 w_528 w_1 md_6cb26b ⟨Nat.le_of_ble_eq_true rfl, Nat.le_of_ble_eq_true rfl⟩ hG hZ hP hD hS hA rfl hl.1 rfl (Nat.le_of_ble_eq_true rfl) d_1_48_8 ⟨Nat.le_of_ble_eq_true rfl, Nat.le_of_ble_eq_true rfl⟩ (fun _ H locs hP hD hS => ?_)
    have hP : va_P z.1 classes (wv z ad E M) H := hP
    have hD : va_D A (wv z ad E M) := hD
    refine W.eq (g2 := F0 m 11 ls []) rfl ?_
    refine lv_aload_n hx hb d_1_48_11 rfl (lv_at hl 0 rfl) ?_
    refine m_gr (j := 243) (C := "Ballothall") (T := TX11) (N := 14) (ci := 11) (k := 6) hx hb hts iX11 hown hG hP (yi_1 hL) (yt_1 hL) rfl (by decide) w_403 (fun _ h9 => h9) rfl rfl (yr_1_6 hL) d_1_48_12 ?_
    obtain ⟨M1, g1, h⟩ := bd_e h
    refine kVN (As := []) (rest := []) (s_Cl_findSums l z ad E M M1 hL g1) hx hb hml hown hts w_754 n_1672 w_753 w_s_13b3b8 w_11 md_bc486d ⟨Nat.le_of_ble_eq_true rfl, Nat.le_of_ble_eq_true rfl⟩ hG hZ hP hD hS hA 243 (wv_o (ci := 1) (yi_243 hL) (yt_243 hL)) rfl rfl rfl hl.1 rfl (Nat.le_of_ble_eq_true rfl) d_1_48_15 ⟨Nat.le_of_ble_eq_true rfl, Nat.le_of_ble_eq_true rfl⟩ (fun _ H locs hP hD hS => ?_)
    have hP : va_P z.1 classes (wv z ad E M1) H := hP
    have hD : va_D A (wv z ad E M1) := hD
    refine W.eq (g2 := F0 m 18 ls []) rfl ?_
    refine lv_aload_n hx hb d_1_48_18 rfl (lv_at hl 0 rfl) ?_
    refine m_gr (j := 243) (C := "Ballothall") (T := TX11) (N := 14) (ci := 11) (k := 6) hx hb hts iX11 hown hG hP (yi_1 hL) (yt_1 hL) rfl (by decide) w_403 (fun _ h9 => h9) rfl rfl (yr_1_6 hL) d_1_48_19 ?_
    refine lv_iload_n hx hb d_1_48_22 rfl (lv_at hl 1 rfl) ?_
    obtain ⟨r2, g2, h⟩ := bd_e h
    refine kVN (As := [.int (oI x1)]) (rest := []) (s_Cl_setsSwungBy l z ad E M1 x1 r2 hL g2) hx hb hml hown hts w_1681 n_1678 w_1680 w_s_cd90bd w_11 md_4de701 ⟨Nat.le_of_ble_eq_true rfl, Nat.le_of_ble_eq_true rfl⟩ hG hZ hP hD hS hA 243 (wv_o (ci := 1) (yi_243 hL) (yt_243 hL)) rfl rfl rfl hl.1 rfl (Nat.le_of_ble_eq_true rfl) d_1_48_23 ⟨Nat.le_of_ble_eq_true rfl, Nat.le_of_ble_eq_true rfl⟩ (fun _ H locs hP hD hS => ?_)
    have hP : va_P z.1 classes (wv z ad E M1) H := hP
    have hD : va_D A (wv z ad E M1) := hD
    refine W.eq (g2 := F0 m 26 ls [.int (oI r2)]) rfl ?_
    obtain ⟨rfl, rfl⟩ := in2 h
    exact W.iret hx hb hr (fun t ht hW => qkA hP hD hS (fun k => k) rfl rfl ht) hS.2.2 d_1_48_26
  exact key _ _ _ hts hP hS
