set_option maxRecDepth 100000 in
set_option maxHeartbeats 4000000 in
theorem s_B_wasted_32 (l : Launch) (z : Zz) (ad : Nat → Nat) (E : Ev) (x1 : Int) (x2 : Int) {Q : State → Prop} {p : Program} {e : Env} {s : State} {m : MethodId} {below : List Frame} {meth : Method} {c : Code} {A : Nat → Prop} {args : Array Value} (hx : p.tables.exec = Jvm.exec) (hb : c.code = prog_1_method_45_code) (hml : c.maxLocals = 7) (hts : ∀ w ∈ WG, w.before args s = true) (hown : s.vm.findClass "Ballothall" = some m.cls) (hlocks : meth.locks = false) (hA : ∀ q, s.heap.size ≤ q → A q) (hG : KG z s) (hZ : FZ z A s) (hL : Lay E) : ∀ (fu : Nat) (M : Mm) (x3 : Int) (x4 : Int) (t : Nat) (w3 : Int) (w4 : Int) (N : Mm), l_B_wasted_32 E x1 x2 fu M x3 x4 = some (t, w3, w4, N) → (t = 1 → ∀ (H : Heap) (locs : List Loc) (ls : Array Slot), va_P z.1 classes (wv z ad E N) H → va_D A (wv z ad E N) → va_S A s.heap H locs → lv_has ls 7 [(3, .int (oI w3))] → W p l e (rmK 3 91 0 0) s m args below meth c H locs 0 0 Q (F0 m 97 ls [])) → ∀ (H : Heap) (locs : List Loc) (ls : Array Slot), va_P z.1 classes (wv z ad E M) H → va_D A (wv z ad E M) → va_S A s.heap H locs → lv_has ls 7 [(0, .ref (ad 1)), (1, .int (oI x1)), (2, .int (oI x2)), (3, .int (oI x3)), (4, .int (oI x4))] → W p l e (rmK 3 91 0 0) s m args below meth c H locs 0 0 Q (F0 m 32 ls []) := by
  intro fu
  induction fu with
  | zero =>
    intro M x3 x4 t w3 w4 N h
    have h : (none : Option (Nat × Int × Int × Mm)) = some _ := h
    cases h
  | succ fu ih =>
    intro M x3 x4 t w3 w4 N h k1 H locs ls hP hD hS hl
    obtain ⟨⟨t0, w30, w40, N9⟩, g0, h⟩ := bd_e h
    refine b_B_wasted_32b l z ad E M x1 x2 x3 x4 t0 w30 w40 N9 hx hb hml hts hown hlocks hA hG hZ hL g0 (fun e0 => ?_) (fun e0 => ?_) H locs ls hP hD hS hl
    · subst e0
      have h := ite_t rfl h
      exact ih N9 w30 w40 t w3 w4 N h k1
    · subst e0
      have h := ite_f (by decide) h
      obtain ⟨rfl, rfl, rfl, rfl⟩ := in4 h
      exact k1 rfl
set_option maxRecDepth 100000 in
set_option maxHeartbeats 4000000 in
theorem s_B_wasted (l : Launch) (z : Zz) (ad : Nat → Nat) (E : Ev) (M : Mm) (x1 : Int) (x2 : Int) (r : Int) (N : Mm) (hL : Lay E) (h : f_B_wasted E M x1 x2 = some (r, N)) : CT l z ⟨"Ballothall", "wasted", "(II)I"⟩ prog_1_method_45_code 7 (some .int) [.ref (ad 1), .int (oI x1), .int (oI x2)] (wv z ad E M) 3 91 0 0 (fun _ => some (.int (oI r))) (fun _ => (wv z ad E N)) := by
  refine CT.of (own := "Ballothall") (by decide +kernel) (Nat.le_of_ble_eq_true rfl) rfl (fun p e s m below meth c A ls hx hb hml hr hts hown hlocks hin hA hG hZ hP hD hS hl => ?_)
  have hl : lv_has ls 7 [(0, .ref (ad 1)), (1, .int (oI x1)), (2, .int (oI x2))] := hl
  have key : ∀ (H : Heap) (locs : List Loc) (args : Array Value), (∀ w ∈ WG, w.before args s = true) → va_P z.1 classes (wv z ad E M) H → va_S A s.heap H locs → W p l e (rmK 3 91 0 0) s m args below meth c H locs 0 0 (MQ below (QK z A (fun _ => some (.int (oI r))) (fun _ => (wv z ad E N))) args s 0 0 A) (F0 m 0 ls []) := by
    intro H locs args hts hP hS
    unfold f_B_wasted at h
    refine lv_iload_n hx hb d_1_45_0 rfl (lv_at hl 1 rfl) ?_
    refine lv_iconst (v := oI 1) hx hb d_1_45_1 (by decide +kernel) ?_
    refine lv_aload_n hx hb d_1_45_2 rfl (lv_at hl 0 rfl) ?_
    refine m_gr (j := 219) (C := "Ballothall") (T := TX11) (N := 14) (ci := 11) (k := 5) hx hb hts iX11 hown hG hP (yi_1 hL) (yt_1 hL) rfl (by decide) w_402 (fun _ h9 => h9) rfl rfl (yr_1_5 hL) d_1_45_3 ?_
    refine m_giN (C := "Ballothall$Wards") (T := TX10) (N := 5) (ci := 10) (k := 0) hx hb hts iX10 hown hG hP (yi_219 hL) (yt_219 hL) rfl (by decide) n_359 rfl (fun _ h9 => h9) rfl rfl d_1_45_6 ?_
    obtain ⟨_, g100, h⟩ := bd_e h
    refine kS (As := [.int (oI x1), .int (oI 1), .int (oI (M 219 0))]) (rest := []) (s_B_needRange l z ad E M x1 1 (M 219 0) hL g100) hx hb hml hown hts w_548 w_546 w_547 w_1 md_519134 ⟨Nat.le_of_ble_eq_true rfl, Nat.le_of_ble_eq_true rfl⟩ hG hZ hP hD hS hA rfl hl.1 rfl (Nat.le_of_ble_eq_true rfl) d_1_45_9 ⟨Nat.le_of_ble_eq_true rfl, Nat.le_of_ble_eq_true rfl⟩ (fun _ H locs hP hD hS => ?_)
    have hP : va_P z.1 classes (wv z ad E M) H := hP
    have hD : va_D A (wv z ad E M) := hD
    refine W.eq (g2 := F0 m 12 ls []) rfl ?_
    refine lv_iload_n hx hb d_1_45_12 rfl (lv_at hl 2 rfl) ?_
    refine lv_iconst (v := oI 0) hx hb d_1_45_13 (by decide +kernel) ?_
    refine lv_iconst (v := oI 1) hx hb d_1_45_14 (by decide +kernel) ?_
    obtain ⟨_, g101, h⟩ := bd_e h
    refine kS (As := [.int (oI x2), .int (oI 0), .int (oI 1)]) (rest := []) (s_B_needRange l z ad E M x2 0 1 hL g101) hx hb hml hown hts w_548 w_546 w_547 w_1 md_519134 ⟨Nat.le_of_ble_eq_true rfl, Nat.le_of_ble_eq_true rfl⟩ hG hZ hP hD hS hA rfl hl.1 rfl (Nat.le_of_ble_eq_true rfl) d_1_45_15 ⟨Nat.le_of_ble_eq_true rfl, Nat.le_of_ble_eq_true rfl⟩ (fun _ H locs hP hD hS => ?_)
    have hP : va_P z.1 classes (wv z ad E M) H := hP
    have hD : va_D A (wv z ad E M) := hD
    refine W.eq (g2 := F0 m 18 ls []) rfl ?_
    refine lv_aload_n hx hb d_1_45_18 rfl (lv_at hl 0 rfl) ?_
    refine m_gr (j := 219) (C := "Ballothall") (T := TX11) (N := 14) (ci := 11) (k := 5) hx hb hts iX11 hown hG hP (yi_1 hL) (yt_1 hL) rfl (by decide) w_402 (fun _ h9 => h9) rfl rfl (yr_1_5 hL) d_1_45_19 ?_
    refine lv_iload_n hx hb d_1_45_22 rfl (lv_at hl 1 rfl) ?_
    obtain ⟨⟨r102, M102⟩, g102, h⟩ := bd_e h
    refine kVN (As := [.int (oI x1)]) (rest := []) (s_Wa_divide l z ad E M x1 r102 M102 hL g102) hx hb hml hown hts w_1621 n_1618 w_1620 w_s_af9e07 w_10 md_d7e64c ⟨Nat.le_of_ble_eq_true rfl, Nat.le_of_ble_eq_true rfl⟩ hG hZ hP hD hS hA 219 (wv_o (ci := 10) (yi_219 hL) (yt_219 hL)) rfl rfl rfl hl.1 rfl (Nat.le_of_ble_eq_true rfl) d_1_45_23 ⟨Nat.le_of_ble_eq_true rfl, Nat.le_of_ble_eq_true rfl⟩ (fun _ H locs hP hD hS => ?_)
    have hP : va_P z.1 classes (wv z ad E M102) H := hP
    have hD : va_D A (wv z ad E M102) := hD
    refine W.eq (g2 := F0 m 26 ls [.int (oI r102)]) rfl ?_
    refine lv_pop hx hb d_1_45_26 rfl ?_
    refine lv_iconst (v := oI 0) hx hb d_1_45_27 (by decide +kernel) ?_
    refine lv_istore_n (lv' := [(3, .int (oI 0)), (0, .ref (ad 1)), (1, .int (oI x1)), (2, .int (oI x2))]) hx hb d_1_45_28 rfl hl (by decide) rfl (fun ls hl => ?_)
    refine lv_iconst (v := oI 0) hx hb d_1_45_29 (by decide +kernel) ?_
    refine lv_istore (lv' := [(4, .int (oI 0)), (3, .int (oI 0)), (0, .ref (ad 1)), (1, .int (oI x1)), (2, .int (oI x2))]) hx hb d_1_45_30 hl (by decide) rfl (fun ls hl => ?_)
    obtain ⟨⟨t111, v111_3, v111_4, M111⟩, g111, h⟩ := bd_e h
    obtain ⟨ok111, h⟩ := ck_e h
    refine s_B_wasted_32 l z ad E x1 x2 hx hb hml hts hown hlocks hA hG hZ hL FU M102 0 0 t111 v111_3 v111_4 M111 g111 (fun e111 H locs ls hP hD hS hl => ?_) H locs ls hP hD hS (lv_sub hl [2, 3, 4, 1, 0] rfl)
    refine lv_iload_n hx hb d_1_45_97 rfl (lv_at hl 0 rfl) ?_
    obtain ⟨rfl, rfl⟩ := in2 h
    exact W.iret hx hb hr (fun t ht hW => qkA hP hD hS (fun k => k) rfl rfl ht) hS.2.2 d_1_45_98
  exact key _ _ _ hts hP hS
set_option maxRecDepth 100000 in
set_option maxHeartbeats 4000000 in
theorem b_La_districts_24b (l : Launch) (z : Zz) (E0 : Ev) (ad0 : Nat → Nat) (ad : Nat → Nat) (E : Ev) (M : Mm) (q0 : Nat) (x2 : Int) (q3 : Nat) (x4 : Int) (t : Nat) (w4 : Int) (F : Ev) (N : Mm) {Q : State → Prop} {p : Program} {e : Env} {s : State} {m : MethodId} {below : List Frame} {meth : Method} {c : Code} {A : Nat → Prop} {args : Array Value} (hx : p.tables.exec = Jvm.exec) (hb : c.code = method_12_code) (hml : c.maxLocals = 13) (hts : ∀ w ∈ WG, w.before args s = true) (hown : s.vm.findClass "BallothallLaw" = some m.cls) (hlocks : meth.locks = false) (hA : ∀ q, s.heap.size ≤ q → A q) (hG : KG z s) (hZ : FZ z A s) (mc ms c0 s0 c1 s1 : Nat) (hc : c0 + 0 ≤ c1) (hs : s0 + 0 ≤ s1) (hm : c1 ≤ mc) (hm2 : s1 ≤ ms) (hag0 : ∀ i, i < nE E0 → ad i = ad0 i) (hE0 : nE E0 ≤ nE E) (h : La_districts_24b E M q0 x2 q3 x4 = some (t, w4, F, N)) (k0 : ∀ (ad1 : Nat → Nat), (∀ i, i < nE E0 → ad1 i = ad0 i) → nE E0 ≤ nE F → t = 0 → ∀ (H : Heap) (locs : List Loc) (ls : Array Slot), va_P z.1 classes (wv z ad1 F N) H → va_D A (wv z ad1 F N) → va_S A s.heap H locs → lv_has ls 13 [(0, .ref (ad1 q0)), (1, .ref (ad1 1)), (2, .int (oI x2)), (3, .ref (ad1 q3)), (4, .int (oI w4))] → W p l e (rmK 4 117 mc ms) s m args below meth c H locs c1 s1 Q (F0 m 24 ls [])) (k1 : ∀ (ad1 : Nat → Nat), (∀ i, i < nE E0 → ad1 i = ad0 i) → nE E0 ≤ nE F → t = 1 → ∀ (H : Heap) (locs : List Loc) (ls : Array Slot), va_P z.1 classes (wv z ad1 F N) H → va_D A (wv z ad1 F N) → va_S A s.heap H locs → lv_has ls 13 [(0, .ref (ad1 q0)), (1, .ref (ad1 1)), (2, .int (oI x2)), (3, .ref (ad1 q3))] → W p l e (rmK 4 117 mc ms) s m args below meth c H locs c1 s1 Q (F0 m 70 ls [])) : ∀ (H : Heap) (locs : List Loc) (ls : Array Slot), va_P z.1 classes (wv z ad E M) H → va_D A (wv z ad E M) → va_S A s.heap H locs → lv_has ls 13 [(0, .ref (ad q0)), (1, .ref (ad 1)), (2, .int (oI x2)), (3, .ref (ad q3)), (4, .int (oI x4))] → W p l e (rmK 4 117 mc ms) s m args below meth c H locs c0 s0 Q (F0 m 24 ls []) := by
  intro H locs ls hP hD hS hl
  unfold La_districts_24b at h
  obtain ⟨hL, h⟩ := ck_e h
  obtain ⟨h_q0, h⟩ := ck_e h
  obtain ⟨h_q3, h⟩ := ck_e h
  refine lv_iload hx hb d_L12_24 (lv_at hl 4 rfl) ?_
  refine lv_iload_n hx hb d_L12_26 rfl (lv_at hl 2 rfl) ?_
  obtain ⟨ok105, h⟩ := ck_e h
  obtain ⟨ok106, h⟩ := ck_e h
  refine lv_icmp_ge (tgt := 70) hx hb d_L12_27 (by decide) (fun c9 => ?_) (fun c9 => ?_)
  · have h := ite_t ((oI_le (a := x2) (b := x4) ok106 ok105).mp c9) h
    obtain ⟨rfl, rfl, rfl, rfl⟩ := in4 h
    exact W.wide (by omega) (by omega) (k1 ad hag0 hE0 rfl H locs ls hP hD hS (lv_sub hl [0, 1, 2, 3] rfl))
  · have h := ite_f (fun q => c9 ((oI_le (a := x2) (b := x4) ok106 ok105).mpr q)) h
    refine lv_aload_n hx hb d_L12_30 rfl (lv_at hl 3 rfl) ?_
    refine lv_iload hx hb d_L12_31 (lv_at hl 4 rfl) ?_
    refine lv_iconst (v := oI 1) hx hb d_L12_33 (by decide +kernel) ?_
    refine lv_aload_n hx hb d_L12_34 rfl (lv_at hl 0 rfl) ?_
    refine lv_bipush (v := oI 50) hx hb d_L12_35 (by decide +kernel) ?_
    obtain ⟨⟨r107, M107⟩, g107, h⟩ := bd_e h
    refine kS (As := [.ref (ad q0), .int (oI 50)]) (rest := [.int (oI 1), .int (oI x4), .ref (ad q3)]) (s_La_next l z ad E M q0 50 r107 M107 hL g107) hx hb hml hown hts w_797 w_795 w_796 w_0 md_199d8f ⟨Nat.le_of_ble_eq_true rfl, Nat.le_of_ble_eq_true rfl⟩ hG hZ hP hD hS hA rfl hl.1 rfl (Nat.le_of_ble_eq_true rfl) d_L12_37 ⟨(show _ ≤ mc by omega), (show _ ≤ ms by omega)⟩ (fun _ H locs hP hD hS => ?_)
    have hP : va_P z.1 classes (wv z ad E M107) H := hP
    have hD : va_D A (wv z ad E M107) := hD
    refine W.eq (g2 := F0 m 40 ls [.int (oI r107), .int (oI 1), .int (oI x4), .ref (ad q3)]) rfl ?_
    refine lv_iadd hx hb d_L12_40 ?_
    refine nrm (oI_add _ _) ?_
    obtain ⟨ok108, h⟩ := ck_e h
    refine m_is hx hb hG hP hD hS h_q3.1 (isIA_T h_q3) ok108 d_L12_41 (fun H locs hP hD hS => ?_)
    have hP : va_P z.1 classes (wv z ad E (u2 M107 q3 x4.toNat (1 + r107))) H := hP
    have hD : va_D A (wv z ad E (u2 M107 q3 x4.toNat (1 + r107))) := hD
    refine lv_aload_n hx hb d_L12_42 rfl (lv_at hl 1 rfl) ?_
    refine lv_aload_n hx hb d_L12_43 rfl (lv_at hl 3 rfl) ?_
    refine lv_iload hx hb d_L12_44 (lv_at hl 4 rfl) ?_
    refine m_ia hx hb hG hP h_q3.1 (isIA_T h_q3) ok108 d_L12_46 ?_
    refine lv_aload_n hx hb d_L12_47 rfl (lv_at hl 0 rfl) ?_
    refine lv_bipush (v := oI 30) hx hb d_L12_48 (by decide +kernel) ?_
    obtain ⟨⟨r109, M109⟩, g109, h⟩ := bd_e h
    refine kS (As := [.ref (ad q0), .int (oI 30)]) (rest := [.int (oI ((u2 M107 q3 x4.toNat (1 + r107)) q3 x4.toNat)), .ref (ad 1)]) (s_La_next l z ad E (u2 M107 q3 x4.toNat (1 + r107)) q0 30 r109 M109 hL g109) hx hb hml hown hts w_797 w_795 w_796 w_0 md_199d8f ⟨Nat.le_of_ble_eq_true rfl, Nat.le_of_ble_eq_true rfl⟩ hG hZ hP hD hS hA rfl hl.1 rfl (Nat.le_of_ble_eq_true rfl) d_L12_50 ⟨(show _ ≤ mc by omega), (show _ ≤ ms by omega)⟩ (fun _ H locs hP hD hS => ?_)
    have hP : va_P z.1 classes (wv z ad E M109) H := hP
    have hD : va_D A (wv z ad E M109) := hD
    refine W.eq (g2 := F0 m 53 ls [.int (oI r109), .int (oI ((u2 M107 q3 x4.toNat (1 + r107)) q3 x4.toNat)), .ref (ad 1)]) rfl ?_
    refine lv_aload_n hx hb d_L12_53 rfl (lv_at hl 0 rfl) ?_
    refine lv_bipush (v := oI 30) hx hb d_L12_54 (by decide +kernel) ?_
    obtain ⟨⟨r110, M110⟩, g110, h⟩ := bd_e h
    refine kS (As := [.ref (ad q0), .int (oI 30)]) (rest := [.int (oI r109), .int (oI ((u2 M107 q3 x4.toNat (1 + r107)) q3 x4.toNat)), .ref (ad 1)]) (s_La_next l z ad E M109 q0 30 r110 M110 hL g110) hx hb hml hown hts w_797 w_795 w_796 w_0 md_199d8f ⟨Nat.le_of_ble_eq_true rfl, Nat.le_of_ble_eq_true rfl⟩ hG hZ hP hD hS hA rfl hl.1 rfl (Nat.le_of_ble_eq_true rfl) d_L12_56 ⟨(show _ ≤ mc by omega), (show _ ≤ ms by omega)⟩ (fun _ H locs hP hD hS => ?_)
    have hP : va_P z.1 classes (wv z ad E M110) H := hP
    have hD : va_D A (wv z ad E M110) := hD
    refine W.eq (g2 := F0 m 59 ls [.int (oI r110), .int (oI r109), .int (oI ((u2 M107 q3 x4.toNat (1 + r107)) q3 x4.toNat)), .ref (ad 1)]) rfl ?_
    obtain ⟨⟨r111, M111⟩, g111, h⟩ := bd_e h
    refine kV (As := [.int (oI ((u2 M107 q3 x4.toNat (1 + r107)) q3 x4.toNat)), .int (oI r109), .int (oI r110)]) (rest := []) (s_B_ward l z ad E M110 ((u2 M107 q3 x4.toNat (1 + r107)) q3 x4.toNat) r109 r110 r111 M111 hL g111) hx hb hml hown hts w_1609 w_1606 w_1607 w_1608 w_1 md_8c59c6 ⟨Nat.le_of_ble_eq_true rfl, Nat.le_of_ble_eq_true rfl⟩ hG hZ hP hD hS hA 1 (wv_o (ci := 11) (yi_1 hL) (yt_1 hL)) rfl rfl rfl hl.1 rfl (Nat.le_of_ble_eq_true rfl) d_L12_59 ⟨(show _ ≤ mc by omega), (show _ ≤ ms by omega)⟩ (fun _ H locs hP hD hS => ?_)
    have hP : va_P z.1 classes (wv z ad E M111) H := hP
    have hD : va_D A (wv z ad E M111) := hD
    refine W.eq (g2 := F0 m 62 ls [.int (oI r111)]) rfl ?_
    refine lv_istore (lv' := [(5, .int (oI r111)), (0, .ref (ad q0)), (1, .ref (ad 1)), (2, .int (oI x2)), (3, .ref (ad q3)), (4, .int (oI x4))]) hx hb d_L12_62 hl (by decide) rfl (fun ls hl => ?_)
    refine lv_iinc (v := oI (x4 + 1)) (lv' := [(4, .int (oI (x4 + 1))), (5, .int (oI r111)), (0, .ref (ad q0)), (1, .ref (ad 1)), (2, .int (oI x2)), (3, .ref (ad q3))]) hx hb d_L12_64 hl (k := 5) rfl (oI_add x4 1) (by decide) rfl (fun ls hl => ?_)
    refine lv_goto (tgt := 24) hx hb d_L12_67 (by decide) ?_
    obtain ⟨rfl, rfl, rfl, rfl⟩ := in4 h
    exact W.wide (by omega) (by omega) (k0 ad hag0 hE0 rfl H locs ls hP hD hS (lv_sub hl [2, 3, 4, 5, 0] rfl))
set_option maxRecDepth 100000 in
set_option maxHeartbeats 4000000 in
theorem s_La_districts_24 (l : Launch) (z : Zz) (E0 : Ev) (ad0 : Nat → Nat) (q0 : Nat) (x2 : Int) (q3 : Nat) {Q : State → Prop} {p : Program} {e : Env} {s : State} {m : MethodId} {below : List Frame} {meth : Method} {c : Code} {A : Nat → Prop} {args : Array Value} (hx : p.tables.exec = Jvm.exec) (hb : c.code = method_12_code) (hml : c.maxLocals = 13) (hts : ∀ w ∈ WG, w.before args s = true) (hown : s.vm.findClass "BallothallLaw" = some m.cls) (hlocks : meth.locks = false) (hA : ∀ q, s.heap.size ≤ q → A q) (hG : KG z s) (hZ : FZ z A s) (mc ms c1 s1 : Nat) (hm : c1 ≤ mc) (hm2 : s1 ≤ ms) : ∀ (fu c0 s0 : Nat) (ad : Nat → Nat) (E : Ev) (M : Mm) (x4 : Int) (t : Nat) (w4 : Int) (F : Ev) (N : Mm), c0 + fu * 0 ≤ c1 → s0 + fu * 0 ≤ s1 → (∀ i, i < nE E0 → ad i = ad0 i) → nE E0 ≤ nE E → l_La_districts_24 q0 x2 q3 fu E M x4 = some (t, w4, F, N) → (∀ (ad1 : Nat → Nat), (∀ i, i < nE E0 → ad1 i = ad0 i) → nE E0 ≤ nE F → t = 1 → ∀ (H : Heap) (locs : List Loc) (ls : Array Slot), va_P z.1 classes (wv z ad1 F N) H → va_D A (wv z ad1 F N) → va_S A s.heap H locs → lv_has ls 13 [(0, .ref (ad1 q0)), (1, .ref (ad1 1)), (2, .int (oI x2)), (3, .ref (ad1 q3))] → W p l e (rmK 4 117 mc ms) s m args below meth c H locs c1 s1 Q (F0 m 70 ls [])) → ∀ (H : Heap) (locs : List Loc) (ls : Array Slot), va_P z.1 classes (wv z ad E M) H → va_D A (wv z ad E M) → va_S A s.heap H locs → lv_has ls 13 [(0, .ref (ad q0)), (1, .ref (ad 1)), (2, .int (oI x2)), (3, .ref (ad q3)), (4, .int (oI x4))] → W p l e (rmK 4 117 mc ms) s m args below meth c H locs c0 s0 Q (F0 m 24 ls []) := by
  intro fu
  induction fu with
  | zero =>
    intro c0 s0 ad E M x4 t w4 F N hc hs hag0 hE0 h
    have h : (none : Option (Nat × Int × Ev × Mm)) = some _ := h
    cases h
  | succ fu ih =>
    intro c0 s0 ad E M x4 t w4 F N hc hs hag0 hE0 h k1 H locs ls hP hD hS hl
    obtain ⟨⟨t0, w40, F9, N9⟩, g0, h⟩ := bd_e h
    refine W.wide (Nat.le_refl _) (Nat.le_refl _) (b_La_districts_24b l z E0 ad0 ad E M q0 x2 q3 x4 t0 w40 F9 N9 hx hb hml hts hown hlocks hA hG hZ mc ms c0 s0 (c0 + 0) (s0 + 0) (Nat.le_refl _) (Nat.le_refl _) (by omega) (by omega) hag0 hE0 g0 (fun ad1 ha he e0 => ?_) (fun ad1 ha he e0 => ?_) H locs ls hP hD hS hl)
    · subst e0
      have h := ite_t rfl h
      exact ih (c0 + 0) (s0 + 0) ad1 F9 N9 w40 t w4 F N (by omega) (by omega) ha he h k1
    · subst e0
      have h := ite_f (by decide) h
      obtain ⟨rfl, rfl, rfl, rfl⟩ := in4 h
      exact fun H locs ls hP hD hS hl => W.wide (by omega) (by omega) (k1 ad1 ha he rfl H locs ls hP hD hS hl)
set_option maxRecDepth 100000 in
set_option maxHeartbeats 4000000 in
theorem b_La_districts_j170 (l : Launch) (z : Zz) (E0 : Ev) (ad0 : Nat → Nat) (ad : Nat → Nat) (E : Ev) (M : Mm) (x2 : Int) (q3 : Nat) (x4 : Int) (x5 : Int) (q6 : Nat) (x7 : Int) (x8 : Int) (x9 : Int) (q10 : Nat) (x11 : Int) (x12 : Int) (t : Nat) (w8 : Int) (w9 : Int) (w11 : Int) (w12 : Int) (F : Ev) (N : Mm) {Q : State → Prop} {p : Program} {e : Env} {s : State} {m : MethodId} {below : List Frame} {meth : Method} {c : Code} {A : Nat → Prop} {args : Array Value} (hx : p.tables.exec = Jvm.exec) (hb : c.code = method_12_code) (hml : c.maxLocals = 13) (hts : ∀ w ∈ WG, w.before args s = true) (hown : s.vm.findClass "BallothallLaw" = some m.cls) (hlocks : meth.locks = false) (hA : ∀ q, s.heap.size ≤ q → A q) (hG : KG z s) (hZ : FZ z A s) (mc ms c0 s0 c1 s1 : Nat) (hc : c0 + 0 ≤ c1) (hs : s0 + 0 ≤ s1) (hm : c1 ≤ mc) (hm2 : s1 ≤ ms) (hag0 : ∀ i, i < nE E0 → ad i = ad0 i) (hE0 : nE E0 ≤ nE E) (h : La_districts_j170 E M x2 q3 x4 x5 q6 x7 x8 x9 q10 x11 x12 = some (t, w8, w9, w11, w12, F, N)) (k0 : ∀ (ad1 : Nat → Nat), (∀ i, i < nE E0 → ad1 i = ad0 i) → nE E0 ≤ nE F → t = 0 → ∀ (H : Heap) (locs : List Loc) (ls : Array Slot), va_P z.1 classes (wv z ad1 F N) H → va_D A (wv z ad1 F N) → va_S A s.heap H locs → lv_has ls 13 [(1, .ref (ad1 1)), (2, .int (oI x2)), (3, .ref (ad1 q3)), (4, .int (oI x4)), (5, .int (oI x5)), (6, .ref (ad1 q6)), (7, .int (oI x7)), (8, .int (oI w8)), (9, .int (oI w9)), (10, .ref (ad1 q10)), (11, .int (oI w11)), (12, .int (oI w12))] → W p l e (rmK 4 117 mc ms) s m args below meth c H locs c1 s1 Q (F0 m 136 ls [])) (k1 : ∀ (ad1 : Nat → Nat), (∀ i, i < nE E0 → ad1 i = ad0 i) → nE E0 ≤ nE F → t = 1 → ∀ (H : Heap) (locs : List Loc) (ls : Array Slot), va_P z.1 classes (wv z ad1 F N) H → va_D A (wv z ad1 F N) → va_S A s.heap H locs → lv_has ls 13 [(1, .ref (ad1 1)), (2, .int (oI x2)), (3, .ref (ad1 q3)), (4, .int (oI x4)), (5, .int (oI x5)), (6, .ref (ad1 q6)), (7, .int (oI x7)), (8, .int (oI w8)), (10, .ref (ad1 q10))] → W p l e (rmK 4 117 mc ms) s m args below meth c H locs c1 s1 Q (F0 m 198 ls [])) : ∀ (H : Heap) (locs : List Loc) (ls : Array Slot), va_P z.1 classes (wv z ad E M) H → va_D A (wv z ad E M) → va_S A s.heap H locs → lv_has ls 13 [(1, .ref (ad 1)), (2, .int (oI x2)), (3, .ref (ad q3)), (4, .int (oI x4)), (5, .int (oI x5)), (6, .ref (ad q6)), (7, .int (oI x7)), (8, .int (oI x8)), (9, .int (oI x9)), (10, .ref (ad q10)), (11, .int (oI x11)), (12, .int (oI x12))] → W p l e (rmK 4 117 mc ms) s m args below meth c H locs c0 s0 Q (F0 m 170 ls []) := by
  intro H locs ls hP hD hS hl
  unfold La_districts_j170 at h
  obtain ⟨hL, h⟩ := ck_e h
  obtain ⟨h_q3, h⟩ := ck_e h
  obtain ⟨h_q6, h⟩ := ck_e h
  obtain ⟨h_q10, h⟩ := ck_e h
  refine lv_iload hx hb d_L12_170 (lv_at hl 7 rfl) ?_
  refine lv_iload hx hb d_L12_172 (lv_at hl 8 rfl) ?_
  obtain ⟨ok128, h⟩ := ck_e h
  obtain ⟨ok129, h⟩ := ck_e h
  refine va_mmax hx hb (by rw [hml]; exact hl.1.symm) hown (hts _ w_1326) (hts _ w_632) (hts _ w_17) (hts _ w_max) (Nat.le_of_ble_eq_true rfl) (Nat.le_of_ble_eq_true rfl) (show _ ≤ mc by omega) (show _ ≤ ms by omega) d_L12_174 ?_
  refine nrm (mx_oI (a := x8) (b := x9) ok128 ok129) ?_
  refine lv_istore (lv' := [(8, .int (oI (max x8 x9))), (1, .ref (ad 1)), (2, .int (oI x2)), (3, .ref (ad q3)), (4, .int (oI x4)), (5, .int (oI x5)), (6, .ref (ad q6)), (7, .int (oI x7)), (9, .int (oI x9)), (10, .ref (ad q10)), (11, .int (oI x11)), (12, .int (oI x12))]) hx hb d_L12_177 hl (by decide) rfl (fun ls hl => ?_)
  refine lv_iconst (v := oI 0) hx hb d_L12_179 (by decide +kernel) ?_
  refine lv_istore (lv' := [(9, .int (oI 0)), (8, .int (oI (max x8 x9))), (1, .ref (ad 1)), (2, .int (oI x2)), (3, .ref (ad q3)), (4, .int (oI x4)), (5, .int (oI x5)), (6, .ref (ad q6)), (7, .int (oI x7)), (10, .ref (ad q10)), (11, .int (oI x11)), (12, .int (oI x12))]) hx hb d_L12_180 hl (by decide) rfl (fun ls hl => ?_)
  refine lv_aload hx hb d_L12_182 (lv_at hl 9 rfl) ?_
  refine lv_iload hx hb d_L12_184 (lv_at hl 10 rfl) ?_
  refine lv_iload hx hb d_L12_186 (lv_at hl 11 rfl) ?_
  obtain ⟨ok130, h⟩ := ck_e h
  refine m_is hx hb hG hP hD hS h_q10.1 (isIA_T h_q10) ok130 d_L12_188 (fun H locs hP hD hS => ?_)
  have hP : va_P z.1 classes (wv z ad E (u2 M q10 x11.toNat x12)) H := hP
  have hD : va_D A (wv z ad E (u2 M q10 x11.toNat x12)) := hD
  refine lv_iinc (v := oI (x11 + 1)) (lv' := [(11, .int (oI (x11 + 1))), (9, .int (oI 0)), (8, .int (oI (max x8 x9))), (1, .ref (ad 1)), (2, .int (oI x2)), (3, .ref (ad q3)), (4, .int (oI x4)), (5, .int (oI x5)), (6, .ref (ad q6)), (7, .int (oI x7)), (10, .ref (ad q10)), (12, .int (oI x12))]) hx hb d_L12_189 hl (k := 10) rfl (oI_add x11 1) (by decide) rfl (fun ls hl => ?_)
  refine lv_iinc (v := oI (x12 + 1)) (lv' := [(12, .int (oI (x12 + 1))), (11, .int (oI (x11 + 1))), (9, .int (oI 0)), (8, .int (oI (max x8 x9))), (1, .ref (ad 1)), (2, .int (oI x2)), (3, .ref (ad q3)), (4, .int (oI x4)), (5, .int (oI x5)), (6, .ref (ad q6)), (7, .int (oI x7)), (10, .ref (ad q10))]) hx hb d_L12_192 hl (k := 11) rfl (oI_add x12 1) (by decide) rfl (fun ls hl => ?_)
  refine lv_goto (tgt := 136) hx hb d_L12_195 (by decide) ?_
  obtain ⟨rfl, rfl, rfl, rfl, rfl, rfl, rfl⟩ := in7 h
  exact W.wide (by omega) (by omega) (k0 ad hag0 hE0 rfl H locs ls hP hD hS (lv_sub hl [4, 5, 6, 7, 8, 9, 10, 3, 2, 11, 1, 0] rfl))
set_option maxRecDepth 100000 in
set_option maxHeartbeats 4000000 in
theorem b_La_districts_136b (l : Launch) (z : Zz) (E0 : Ev) (ad0 : Nat → Nat) (ad : Nat → Nat) (E : Ev) (M : Mm) (x2 : Int) (q3 : Nat) (x4 : Int) (x5 : Int) (q6 : Nat) (x7 : Int) (q10 : Nat) (x8 : Int) (x9 : Int) (x11 : Int) (x12 : Int) (t : Nat) (w8 : Int) (w9 : Int) (w11 : Int) (w12 : Int) (F : Ev) (N : Mm) {Q : State → Prop} {p : Program} {e : Env} {s : State} {m : MethodId} {below : List Frame} {meth : Method} {c : Code} {A : Nat → Prop} {args : Array Value} (hx : p.tables.exec = Jvm.exec) (hb : c.code = method_12_code) (hml : c.maxLocals = 13) (hts : ∀ w ∈ WG, w.before args s = true) (hown : s.vm.findClass "BallothallLaw" = some m.cls) (hlocks : meth.locks = false) (hA : ∀ q, s.heap.size ≤ q → A q) (hG : KG z s) (hZ : FZ z A s) (mc ms c0 s0 c1 s1 : Nat) (hc : c0 + 0 ≤ c1) (hs : s0 + 0 ≤ s1) (hm : c1 ≤ mc) (hm2 : s1 ≤ ms) (hag0 : ∀ i, i < nE E0 → ad i = ad0 i) (hE0 : nE E0 ≤ nE E) (h : La_districts_136b E M x2 q3 x4 x5 q6 x7 q10 x8 x9 x11 x12 = some (t, w8, w9, w11, w12, F, N)) (k0 : ∀ (ad1 : Nat → Nat), (∀ i, i < nE E0 → ad1 i = ad0 i) → nE E0 ≤ nE F → t = 0 → ∀ (H : Heap) (locs : List Loc) (ls : Array Slot), va_P z.1 classes (wv z ad1 F N) H → va_D A (wv z ad1 F N) → va_S A s.heap H locs → lv_has ls 13 [(1, .ref (ad1 1)), (2, .int (oI x2)), (3, .ref (ad1 q3)), (4, .int (oI x4)), (5, .int (oI x5)), (6, .ref (ad1 q6)), (7, .int (oI x7)), (8, .int (oI w8)), (9, .int (oI w9)), (10, .ref (ad1 q10)), (11, .int (oI w11)), (12, .int (oI w12))] → W p l e (rmK 4 117 mc ms) s m args below meth c H locs c1 s1 Q (F0 m 136 ls [])) (k1 : ∀ (ad1 : Nat → Nat), (∀ i, i < nE E0 → ad1 i = ad0 i) → nE E0 ≤ nE F → t = 1 → ∀ (H : Heap) (locs : List Loc) (ls : Array Slot), va_P z.1 classes (wv z ad1 F N) H → va_D A (wv z ad1 F N) → va_S A s.heap H locs → lv_has ls 13 [(1, .ref (ad1 1)), (2, .int (oI x2)), (3, .ref (ad1 q3)), (4, .int (oI x4)), (5, .int (oI x5)), (6, .ref (ad1 q6)), (7, .int (oI x7)), (8, .int (oI w8)), (10, .ref (ad1 q10))] → W p l e (rmK 4 117 mc ms) s m args below meth c H locs c1 s1 Q (F0 m 198 ls [])) : ∀ (H : Heap) (locs : List Loc) (ls : Array Slot), va_P z.1 classes (wv z ad E M) H → va_D A (wv z ad E M) → va_S A s.heap H locs → lv_has ls 13 [(1, .ref (ad 1)), (2, .int (oI x2)), (3, .ref (ad q3)), (4, .int (oI x4)), (5, .int (oI x5)), (6, .ref (ad q6)), (7, .int (oI x7)), (8, .int (oI x8)), (9, .int (oI x9)), (10, .ref (ad q10)), (11, .int (oI x11)), (12, .int (oI x12))] → W p l e (rmK 4 117 mc ms) s m args below meth c H locs c0 s0 Q (F0 m 136 ls []) := by
  intro H locs ls hP hD hS hl
  unfold La_districts_136b at h
  obtain ⟨hL, h⟩ := ck_e h
  obtain ⟨h_q3, h⟩ := ck_e h
  obtain ⟨h_q6, h⟩ := ck_e h
  obtain ⟨h_q10, h⟩ := ck_e h
  refine lv_iload hx hb d_L12_136 (lv_at hl 11 rfl) ?_
  refine lv_iload_n hx hb d_L12_138 rfl (lv_at hl 1 rfl) ?_
  obtain ⟨ok124, h⟩ := ck_e h
  obtain ⟨ok125, h⟩ := ck_e h
  refine lv_icmp_ge (tgt := 198) hx hb d_L12_139 (by decide) (fun c9 => ?_) (fun c9 => ?_)
  · have h := ite_t ((oI_le (a := x2) (b := x12) ok125 ok124).mp c9) h
    obtain ⟨rfl, rfl, rfl, rfl, rfl, rfl, rfl⟩ := in7 h
    exact W.wide (by omega) (by omega) (k1 ad hag0 hE0 rfl H locs ls hP hD hS (lv_sub hl [0, 1, 2, 3, 4, 5, 6, 7, 9] rfl))
  · have h := ite_f (fun q => c9 ((oI_le (a := x2) (b := x12) ok125 ok124).mpr q)) h
    refine lv_iload hx hb d_L12_142 (lv_at hl 8 rfl) ?_
    refine lv_aload_n hx hb d_L12_144 rfl (lv_at hl 2 rfl) ?_
    refine lv_iload hx hb d_L12_145 (lv_at hl 11 rfl) ?_
    obtain ⟨ok126, h⟩ := ck_e h
    refine m_ia hx hb hG hP h_q3.1 (isIA_T h_q3) ok126 d_L12_147 ?_
    refine lv_iadd hx hb d_L12_148 ?_
    refine nrm (oI_add _ _) ?_
    refine lv_istore (lv' := [(9, .int (oI (x9 + (M q3 x12.toNat)))), (1, .ref (ad 1)), (2, .int (oI x2)), (3, .ref (ad q3)), (4, .int (oI x4)), (5, .int (oI x5)), (6, .ref (ad q6)), (7, .int (oI x7)), (8, .int (oI x8)), (10, .ref (ad q10)), (11, .int (oI x11)), (12, .int (oI x12))]) hx hb d_L12_149 hl (by decide) rfl (fun ls hl => ?_)
    refine lv_iload hx hb d_L12_151 (lv_at hl 11 rfl) ?_
    refine lv_iload_n hx hb d_L12_153 rfl (lv_at hl 2 rfl) ?_
    refine lv_iconst (v := oI 1) hx hb d_L12_154 (by decide +kernel) ?_
    refine lv_isub hx hb d_L12_155 ?_
    refine nrm (oI_sub _ _) ?_
    obtain ⟨ok127, h⟩ := ck_e h
    refine lv_icmp_eq (tgt := 170) hx hb d_L12_156 (by decide) (fun c9 => ?_) (fun c9 => ?_)
    · have h := ite_t ((oI_eq (a := x12) (b := (x2 - 1)) ok124 ok127).mp c9) h
      exact b_La_districts_j170 l z E0 ad0 ad E M x2 q3 x4 x5 q6 x7 x8 (x9 + (M q3 x12.toNat)) q10 x11 x12 t w8 w9 w11 w12 F N hx hb hml hts hown hlocks hA hG hZ mc ms _ _ c1 s1 (by omega) (by omega) hm hm2 hag0 hE0 h k0 k1 H locs ls hP hD hS (lv_sub hl [1, 2, 3, 4, 5, 6, 7, 8, 0, 9, 10, 11] rfl)
    · have h := ite_f (fun q => c9 ((oI_eq (a := x12) (b := (x2 - 1)) ok124 ok127).mpr q)) h
      refine lv_iload hx hb d_L12_159 (lv_at hl 7 rfl) ?_
      refine lv_iload hx hb d_L12_161 (lv_at hl 11 rfl) ?_
      obtain ⟨ok131, h⟩ := ck_e h
      obtain ⟨ok132, h⟩ := ck_e h
      refine lv_ishr hx hb d_L12_163 ?_
      refine nrm (oI_shr (a := x7) ok131 ok132.1 ok132.2) ?_
      refine lv_iconst (v := oI 1) hx hb d_L12_164 (by decide +kernel) ?_
      refine lv_iand hx hb d_L12_165 ?_
      refine nrm (oI_m1 _) ?_
      refine lv_iconst (v := oI 1) hx hb d_L12_166 (by decide +kernel) ?_
      refine lv_icmp_ne (tgt := 192) hx hb d_L12_167 (by decide) (fun c9 => ?_) (fun c9 => ?_)
      · have h := ite_f (fun q => c9 ((oI_eq (a := ((x7 / 2 ^ x12.toNat) % 2)) (b := (1 : Int)) ⟨by omega, by omega⟩ (by decide)).mpr q)) h
        refine lv_iinc (v := oI (x12 + 1)) (lv' := [(12, .int (oI (x12 + 1))), (9, .int (oI (x9 + (M q3 x12.toNat)))), (1, .ref (ad 1)), (2, .int (oI x2)), (3, .ref (ad q3)), (4, .int (oI x4)), (5, .int (oI x5)), (6, .ref (ad q6)), (7, .int (oI x7)), (8, .int (oI x8)), (10, .ref (ad q10)), (11, .int (oI x11))]) hx hb d_L12_192 hl (k := 11) rfl (oI_add x12 1) (by decide) rfl (fun ls hl => ?_)
        refine lv_goto (tgt := 136) hx hb d_L12_195 (by decide) ?_
        obtain ⟨rfl, rfl, rfl, rfl, rfl, rfl, rfl⟩ := in7 h
        exact W.wide (by omega) (by omega) (k0 ad hag0 hE0 rfl H locs ls hP hD hS (lv_sub hl [2, 3, 4, 5, 6, 7, 8, 9, 1, 10, 11, 0] rfl))
      · have h := ite_t ((oI_eq (a := ((x7 / 2 ^ x12.toNat) % 2)) (b := (1 : Int)) ⟨by omega, by omega⟩ (by decide)).mp c9) h
        exact b_La_districts_j170 l z E0 ad0 ad E M x2 q3 x4 x5 q6 x7 x8 (x9 + (M q3 x12.toNat)) q10 x11 x12 t w8 w9 w11 w12 F N hx hb hml hts hown hlocks hA hG hZ mc ms _ _ c1 s1 (by omega) (by omega) hm hm2 hag0 hE0 h k0 k1 H locs ls hP hD hS (lv_sub hl [1, 2, 3, 4, 5, 6, 7, 8, 0, 9, 10, 11] rfl)
set_option maxRecDepth 100000 in
set_option maxHeartbeats 4000000 in
theorem s_La_districts_136 (l : Launch) (z : Zz) (E0 : Ev) (ad0 : Nat → Nat) (x2 : Int) (q3 : Nat) (x4 : Int) (x5 : Int) (q6 : Nat) (x7 : Int) (q10 : Nat) {Q : State → Prop} {p : Program} {e : Env} {s : State} {m : MethodId} {below : List Frame} {meth : Method} {c : Code} {A : Nat → Prop} {args : Array Value} (hx : p.tables.exec = Jvm.exec) (hb : c.code = method_12_code) (hml : c.maxLocals = 13) (hts : ∀ w ∈ WG, w.before args s = true) (hown : s.vm.findClass "BallothallLaw" = some m.cls) (hlocks : meth.locks = false) (hA : ∀ q, s.heap.size ≤ q → A q) (hG : KG z s) (hZ : FZ z A s) (mc ms c1 s1 : Nat) (hm : c1 ≤ mc) (hm2 : s1 ≤ ms) : ∀ (fu c0 s0 : Nat) (ad : Nat → Nat) (E : Ev) (M : Mm) (x8 : Int) (x9 : Int) (x11 : Int) (x12 : Int) (t : Nat) (w8 : Int) (w9 : Int) (w11 : Int) (w12 : Int) (F : Ev) (N : Mm), c0 + fu * 0 ≤ c1 → s0 + fu * 0 ≤ s1 → (∀ i, i < nE E0 → ad i = ad0 i) → nE E0 ≤ nE E → l_La_districts_136 x2 q3 x4 x5 q6 x7 q10 fu E M x8 x9 x11 x12 = some (t, w8, w9, w11, w12, F, N) → (∀ (ad1 : Nat → Nat), (∀ i, i < nE E0 → ad1 i = ad0 i) → nE E0 ≤ nE F → t = 1 → ∀ (H : Heap) (locs : List Loc) (ls : Array Slot), va_P z.1 classes (wv z ad1 F N) H → va_D A (wv z ad1 F N) → va_S A s.heap H locs → lv_has ls 13 [(1, .ref (ad1 1)), (2, .int (oI x2)), (3, .ref (ad1 q3)), (4, .int (oI x4)), (5, .int (oI x5)), (6, .ref (ad1 q6)), (7, .int (oI x7)), (8, .int (oI w8)), (10, .ref (ad1 q10))] → W p l e (rmK 4 117 mc ms) s m args below meth c H locs c1 s1 Q (F0 m 198 ls [])) → ∀ (H : Heap) (locs : List Loc) (ls : Array Slot), va_P z.1 classes (wv z ad E M) H → va_D A (wv z ad E M) → va_S A s.heap H locs → lv_has ls 13 [(1, .ref (ad 1)), (2, .int (oI x2)), (3, .ref (ad q3)), (4, .int (oI x4)), (5, .int (oI x5)), (6, .ref (ad q6)), (7, .int (oI x7)), (8, .int (oI x8)), (9, .int (oI x9)), (10, .ref (ad q10)), (11, .int (oI x11)), (12, .int (oI x12))] → W p l e (rmK 4 117 mc ms) s m args below meth c H locs c0 s0 Q (F0 m 136 ls []) := by
  intro fu
  induction fu with
  | zero =>
    intro c0 s0 ad E M x8 x9 x11 x12 t w8 w9 w11 w12 F N hc hs hag0 hE0 h
    have h : (none : Option (Nat × Int × Int × Int × Int × Ev × Mm)) = some _ := h
    cases h
  | succ fu ih =>
    intro c0 s0 ad E M x8 x9 x11 x12 t w8 w9 w11 w12 F N hc hs hag0 hE0 h k1 H locs ls hP hD hS hl
    obtain ⟨⟨t0, w80, w90, w110, w120, F9, N9⟩, g0, h⟩ := bd_e h
    refine W.wide (Nat.le_refl _) (Nat.le_refl _) (b_La_districts_136b l z E0 ad0 ad E M x2 q3 x4 x5 q6 x7 q10 x8 x9 x11 x12 t0 w80 w90 w110 w120 F9 N9 hx hb hml hts hown hlocks hA hG hZ mc ms c0 s0 (c0 + 0) (s0 + 0) (Nat.le_refl _) (Nat.le_refl _) (by omega) (by omega) hag0 hE0 g0 (fun ad1 ha he e0 => ?_) (fun ad1 ha he e0 => ?_) H locs ls hP hD hS hl)
    · subst e0
      have h := ite_t rfl h
      exact ih (c0 + 0) (s0 + 0) ad1 F9 N9 w80 w90 w110 w120 t w8 w9 w11 w12 F N (by omega) (by omega) ha he h k1
    · subst e0
      have h := ite_f (by decide) h
      obtain ⟨rfl, rfl, rfl, rfl, rfl, rfl, rfl⟩ := in7 h
      exact fun H locs ls hP hD hS hl => W.wide (by omega) (by omega) (k1 ad1 ha he rfl H locs ls hP hD hS hl)
set_option maxRecDepth 100000 in
set_option maxHeartbeats 4000000 in
theorem b_La_districts_201b (l : Launch) (z : Zz) (E0 : Ev) (ad0 : Nat → Nat) (ad : Nat → Nat) (E : Ev) (M : Mm) (x2 : Int) (q3 : Nat) (x4 : Int) (x5 : Int) (q6 : Nat) (x7 : Int) (x8 : Int) (q10 : Nat) (x12 : Int) (t : Nat) (w12 : Int) (F : Ev) (N : Mm) {Q : State → Prop} {p : Program} {e : Env} {s : State} {m : MethodId} {below : List Frame} {meth : Method} {c : Code} {A : Nat → Prop} {args : Array Value} (hx : p.tables.exec = Jvm.exec) (hb : c.code = method_12_code) (hml : c.maxLocals = 13) (hts : ∀ w ∈ WG, w.before args s = true) (hown : s.vm.findClass "BallothallLaw" = some m.cls) (hlocks : meth.locks = false) (hA : ∀ q, s.heap.size ≤ q → A q) (hG : KG z s) (hZ : FZ z A s) (mc ms c0 s0 c1 s1 : Nat) (hc : c0 + 0 ≤ c1) (hs : s0 + 0 ≤ s1) (hm : c1 ≤ mc) (hm2 : s1 ≤ ms) (hag0 : ∀ i, i < nE E0 → ad i = ad0 i) (hE0 : nE E0 ≤ nE E) (h : La_districts_201b E M x2 q3 x4 x5 q6 x7 x8 q10 x12 = some (t, w12, F, N)) (k0 : ∀ (ad1 : Nat → Nat), (∀ i, i < nE E0 → ad1 i = ad0 i) → nE E0 ≤ nE F → t = 0 → ∀ (H : Heap) (locs : List Loc) (ls : Array Slot), va_P z.1 classes (wv z ad1 F N) H → va_D A (wv z ad1 F N) → va_S A s.heap H locs → lv_has ls 13 [(1, .ref (ad1 1)), (2, .int (oI x2)), (3, .ref (ad1 q3)), (4, .int (oI x4)), (5, .int (oI x5)), (6, .ref (ad1 q6)), (7, .int (oI x7)), (8, .int (oI x8)), (10, .ref (ad1 q10)), (12, .int (oI w12))] → W p l e (rmK 4 117 mc ms) s m args below meth c H locs c1 s1 Q (F0 m 201 ls [])) (k1 : ∀ (ad1 : Nat → Nat), (∀ i, i < nE E0 → ad1 i = ad0 i) → nE E0 ≤ nE F → t = 1 → ∀ (H : Heap) (locs : List Loc) (ls : Array Slot), va_P z.1 classes (wv z ad1 F N) H → va_D A (wv z ad1 F N) → va_S A s.heap H locs → lv_has ls 13 [(1, .ref (ad1 1)), (2, .int (oI x2)), (3, .ref (ad1 q3)), (4, .int (oI x4)), (5, .int (oI x5)), (6, .ref (ad1 q6)), (7, .int (oI x7)), (8, .int (oI x8)), (10, .ref (ad1 q10)), (12, .int (oI w12))] → W p l e (rmK 4 117 mc ms) s m args below meth c H locs c1 s1 Q (F0 m 229 ls [])) : ∀ (H : Heap) (locs : List Loc) (ls : Array Slot), va_P z.1 classes (wv z ad E M) H → va_D A (wv z ad E M) → va_S A s.heap H locs → lv_has ls 13 [(1, .ref (ad 1)), (2, .int (oI x2)), (3, .ref (ad q3)), (4, .int (oI x4)), (5, .int (oI x5)), (6, .ref (ad q6)), (7, .int (oI x7)), (8, .int (oI x8)), (10, .ref (ad q10)), (12, .int (oI x12))] → W p l e (rmK 4 117 mc ms) s m args below meth c H locs c0 s0 Q (F0 m 201 ls []) := by
  intro H locs ls hP hD hS hl
  unfold La_districts_201b at h
  obtain ⟨hL, h⟩ := ck_e h
  obtain ⟨h_q3, h⟩ := ck_e h
  obtain ⟨h_q6, h⟩ := ck_e h
  obtain ⟨h_q10, h⟩ := ck_e h
  refine lv_iload hx hb d_L12_201 (lv_at hl 9 rfl) ?_
  refine lv_iload hx hb d_L12_203 (lv_at hl 3 rfl) ?_
  refine lv_iconst (v := oI 1) hx hb d_L12_205 (by decide +kernel) ?_
  refine lv_isub hx hb d_L12_206 ?_
  refine nrm (oI_sub _ _) ?_
  obtain ⟨ok134, h⟩ := ck_e h
  obtain ⟨ok135, h⟩ := ck_e h
  refine lv_icmp_ge (tgt := 229) hx hb d_L12_207 (by decide) (fun c9 => ?_) (fun c9 => ?_)
  · have h := ite_t ((oI_le (a := (x4 - 1)) (b := x12) ok135 ok134).mp c9) h
    obtain ⟨rfl, rfl, rfl, rfl⟩ := in4 h
    exact W.wide (by omega) (by omega) (k1 ad hag0 hE0 rfl H locs ls hP hD hS (lv_sub hl [0, 1, 2, 3, 4, 5, 6, 7, 8, 9] rfl))
  · have h := ite_f (fun q => c9 ((oI_le (a := (x4 - 1)) (b := x12) ok135 ok134).mpr q)) h
    refine lv_aload hx hb d_L12_210 (lv_at hl 8 rfl) ?_
    refine lv_iload hx hb d_L12_212 (lv_at hl 9 rfl) ?_
    obtain ⟨ok136, h⟩ := ck_e h
    refine m_ia hx hb hG hP h_q10.1 (isIA_T h_q10) ok136 d_L12_214 ?_
    refine lv_aload hx hb d_L12_215 (lv_at hl 5 rfl) ?_
    refine lv_iload hx hb d_L12_217 (lv_at hl 9 rfl) ?_
    obtain ⟨ok137, h⟩ := ck_e h
    refine m_ia hx hb hG hP h_q6.1 (isIA_T h_q6) ok137 d_L12_219 ?_
    obtain ⟨ok138, h⟩ := ck_e h
    obtain ⟨ok139, h⟩ := ck_e h
    refine lv_icmp_ne (tgt := 229) hx hb d_L12_220 (by decide) (fun c9 => ?_) (fun c9 => ?_)
    · have h := ite_f (fun q => c9 ((oI_eq (a := (M q10 x12.toNat)) (b := (M q6 x12.toNat)) ok138 ok139).mpr q)) h
      obtain ⟨rfl, rfl, rfl, rfl⟩ := in4 h
      exact W.wide (by omega) (by omega) (k1 ad hag0 hE0 rfl H locs ls hP hD hS (lv_sub hl [0, 1, 2, 3, 4, 5, 6, 7, 8, 9] rfl))
    · have h := ite_t ((oI_eq (a := (M q10 x12.toNat)) (b := (M q6 x12.toNat)) ok138 ok139).mp c9) h
      refine lv_iinc (v := oI (x12 + 1)) (lv' := [(12, .int (oI (x12 + 1))), (1, .ref (ad 1)), (2, .int (oI x2)), (3, .ref (ad q3)), (4, .int (oI x4)), (5, .int (oI x5)), (6, .ref (ad q6)), (7, .int (oI x7)), (8, .int (oI x8)), (10, .ref (ad q10))]) hx hb d_L12_223 hl (k := 9) rfl (oI_add x12 1) (by decide) rfl (fun ls hl => ?_)
      refine lv_goto (tgt := 201) hx hb d_L12_226 (by decide) ?_
      obtain ⟨rfl, rfl, rfl, rfl⟩ := in4 h
      exact W.wide (by omega) (by omega) (k0 ad hag0 hE0 rfl H locs ls hP hD hS (lv_sub hl [1, 2, 3, 4, 5, 6, 7, 8, 9, 0] rfl))
set_option maxRecDepth 100000 in
set_option maxHeartbeats 4000000 in
theorem s_La_districts_201 (l : Launch) (z : Zz) (E0 : Ev) (ad0 : Nat → Nat) (x2 : Int) (q3 : Nat) (x4 : Int) (x5 : Int) (q6 : Nat) (x7 : Int) (x8 : Int) (q10 : Nat) {Q : State → Prop} {p : Program} {e : Env} {s : State} {m : MethodId} {below : List Frame} {meth : Method} {c : Code} {A : Nat → Prop} {args : Array Value} (hx : p.tables.exec = Jvm.exec) (hb : c.code = method_12_code) (hml : c.maxLocals = 13) (hts : ∀ w ∈ WG, w.before args s = true) (hown : s.vm.findClass "BallothallLaw" = some m.cls) (hlocks : meth.locks = false) (hA : ∀ q, s.heap.size ≤ q → A q) (hG : KG z s) (hZ : FZ z A s) (mc ms c1 s1 : Nat) (hm : c1 ≤ mc) (hm2 : s1 ≤ ms) : ∀ (fu c0 s0 : Nat) (ad : Nat → Nat) (E : Ev) (M : Mm) (x12 : Int) (t : Nat) (w12 : Int) (F : Ev) (N : Mm), c0 + fu * 0 ≤ c1 → s0 + fu * 0 ≤ s1 → (∀ i, i < nE E0 → ad i = ad0 i) → nE E0 ≤ nE E → l_La_districts_201 x2 q3 x4 x5 q6 x7 x8 q10 fu E M x12 = some (t, w12, F, N) → (∀ (ad1 : Nat → Nat), (∀ i, i < nE E0 → ad1 i = ad0 i) → nE E0 ≤ nE F → t = 1 → ∀ (H : Heap) (locs : List Loc) (ls : Array Slot), va_P z.1 classes (wv z ad1 F N) H → va_D A (wv z ad1 F N) → va_S A s.heap H locs → lv_has ls 13 [(1, .ref (ad1 1)), (2, .int (oI x2)), (3, .ref (ad1 q3)), (4, .int (oI x4)), (5, .int (oI x5)), (6, .ref (ad1 q6)), (7, .int (oI x7)), (8, .int (oI x8)), (10, .ref (ad1 q10)), (12, .int (oI w12))] → W p l e (rmK 4 117 mc ms) s m args below meth c H locs c1 s1 Q (F0 m 229 ls [])) → ∀ (H : Heap) (locs : List Loc) (ls : Array Slot), va_P z.1 classes (wv z ad E M) H → va_D A (wv z ad E M) → va_S A s.heap H locs → lv_has ls 13 [(1, .ref (ad 1)), (2, .int (oI x2)), (3, .ref (ad q3)), (4, .int (oI x4)), (5, .int (oI x5)), (6, .ref (ad q6)), (7, .int (oI x7)), (8, .int (oI x8)), (10, .ref (ad q10)), (12, .int (oI x12))] → W p l e (rmK 4 117 mc ms) s m args below meth c H locs c0 s0 Q (F0 m 201 ls []) := by
  intro fu
  induction fu with
  | zero =>
    intro c0 s0 ad E M x12 t w12 F N hc hs hag0 hE0 h
    have h : (none : Option (Nat × Int × Ev × Mm)) = some _ := h
    cases h
  | succ fu ih =>
    intro c0 s0 ad E M x12 t w12 F N hc hs hag0 hE0 h k1 H locs ls hP hD hS hl
    obtain ⟨⟨t0, w120, F9, N9⟩, g0, h⟩ := bd_e h
    refine W.wide (Nat.le_refl _) (Nat.le_refl _) (b_La_districts_201b l z E0 ad0 ad E M x2 q3 x4 x5 q6 x7 x8 q10 x12 t0 w120 F9 N9 hx hb hml hts hown hlocks hA hG hZ mc ms c0 s0 (c0 + 0) (s0 + 0) (Nat.le_refl _) (Nat.le_refl _) (by omega) (by omega) hag0 hE0 g0 (fun ad1 ha he e0 => ?_) (fun ad1 ha he e0 => ?_) H locs ls hP hD hS hl)
    · subst e0
      have h := ite_t rfl h
      exact ih (c0 + 0) (s0 + 0) ad1 F9 N9 w120 t w12 F N (by omega) (by omega) ha he h k1
    · subst e0
      have h := ite_f (by decide) h
      obtain ⟨rfl, rfl, rfl, rfl⟩ := in4 h
      exact fun H locs ls hP hD hS hl => W.wide (by omega) (by omega) (k1 ad1 ha he rfl H locs ls hP hD hS hl)
set_option maxRecDepth 100000 in
set_option maxHeartbeats 4000000 in
theorem b_La_districts_j229 (l : Launch) (z : Zz) (E0 : Ev) (ad0 : Nat → Nat) (ad : Nat → Nat) (E : Ev) (M : Mm) (x2 : Int) (q3 : Nat) (x4 : Int) (x5 : Int) (q6 : Nat) (x7 : Int) (x8 : Int) (q10 : Nat) (x12 : Int) (t : Nat) (w5 : Int) (w6 : Nat) (w7 : Int) (F : Ev) (N : Mm) {Q : State → Prop} {p : Program} {e : Env} {s : State} {m : MethodId} {below : List Frame} {meth : Method} {c : Code} {A : Nat → Prop} {args : Array Value} (hx : p.tables.exec = Jvm.exec) (hb : c.code = method_12_code) (hml : c.maxLocals = 13) (hts : ∀ w ∈ WG, w.before args s = true) (hown : s.vm.findClass "BallothallLaw" = some m.cls) (hlocks : meth.locks = false) (hA : ∀ q, s.heap.size ≤ q → A q) (hG : KG z s) (hZ : FZ z A s) (mc ms c0 s0 c1 s1 : Nat) (hc : c0 + 0 ≤ c1) (hs : s0 + 0 ≤ s1) (hm : c1 ≤ mc) (hm2 : s1 ≤ ms) (hag0 : ∀ i, i < nE E0 → ad i = ad0 i) (hE0 : nE E0 ≤ nE E) (h : La_districts_j229 E M x2 q3 x4 x5 q6 x7 x8 q10 x12 = some (t, w5, w6, w7, F, N)) (k0 : ∀ (ad1 : Nat → Nat), (∀ i, i < nE E0 → ad1 i = ad0 i) → nE E0 ≤ nE F → t = 0 → ∀ (H : Heap) (locs : List Loc) (ls : Array Slot), va_P z.1 classes (wv z ad1 F N) H → va_D A (wv z ad1 F N) → va_S A s.heap H locs → lv_has ls 13 [(1, .ref (ad1 1)), (2, .int (oI x2)), (3, .ref (ad1 q3)), (4, .int (oI x4)), (5, .int (oI w5)), (6, .ref (ad1 w6)), (7, .int (oI w7))] → W p l e (rmK 4 117 mc ms) s m args below meth c H locs c1 s1 Q (F0 m 93 ls [])) (k1 : ∀ (ad1 : Nat → Nat), (∀ i, i < nE E0 → ad1 i = ad0 i) → nE E0 ≤ nE F → t = 1 → ∀ (H : Heap) (locs : List Loc) (ls : Array Slot), va_P z.1 classes (wv z ad1 F N) H → va_D A (wv z ad1 F N) → va_S A s.heap H locs → lv_has ls 13 [(1, .ref (ad1 1)), (4, .int (oI x4)), (5, .int (oI w5)), (6, .ref (ad1 w6))] → W p l e (rmK 4 117 mc ms) s m args below meth c H locs c1 s1 Q (F0 m 270 ls [])) : ∀ (H : Heap) (locs : List Loc) (ls : Array Slot), va_P z.1 classes (wv z ad E M) H → va_D A (wv z ad E M) → va_S A s.heap H locs → lv_has ls 13 [(1, .ref (ad 1)), (2, .int (oI x2)), (3, .ref (ad q3)), (4, .int (oI x4)), (5, .int (oI x5)), (6, .ref (ad q6)), (7, .int (oI x7)), (8, .int (oI x8)), (10, .ref (ad q10)), (12, .int (oI x12))] → W p l e (rmK 4 117 mc ms) s m args below meth c H locs c0 s0 Q (F0 m 229 ls []) := by
  intro H locs ls hP hD hS hl
  unfold La_districts_j229 at h
  obtain ⟨hL, h⟩ := ck_e h
  obtain ⟨h_q3, h⟩ := ck_e h
  obtain ⟨h_q6, h⟩ := ck_e h
  obtain ⟨h_q10, h⟩ := ck_e h
  refine lv_iload hx hb d_L12_229 (lv_at hl 7 rfl) ?_
  refine lv_iload hx hb d_L12_231 (lv_at hl 4 rfl) ?_
  obtain ⟨ok141, h⟩ := ck_e h
  obtain ⟨ok142, h⟩ := ck_e h
  refine lv_icmp_lt (tgt := 256) hx hb d_L12_233 (by decide) (fun c9 => ?_) (fun c9 => ?_)
  · have h := ite_t ((oI_lt (a := x8) (b := x5) ok141 ok142).mp c9) h
    refine lv_iload hx hb d_L12_256 (lv_at hl 7 rfl) ?_
    refine lv_istore (lv' := [(5, .int (oI x8)), (1, .ref (ad 1)), (2, .int (oI x2)), (3, .ref (ad q3)), (4, .int (oI x4)), (6, .ref (ad q6)), (7, .int (oI x7)), (8, .int (oI x8)), (10, .ref (ad q10)), (12, .int (oI x12))]) hx hb d_L12_258 hl (by decide) rfl (fun ls hl => ?_)
    refine lv_aload hx hb d_L12_260 (lv_at hl 8 rfl) ?_
    refine lv_astore (lv' := [(6, .ref (ad q10)), (5, .int (oI x8)), (1, .ref (ad 1)), (2, .int (oI x2)), (3, .ref (ad q3)), (4, .int (oI x4)), (7, .int (oI x7)), (8, .int (oI x8)), (10, .ref (ad q10)), (12, .int (oI x12))]) hx hb d_L12_262 hl (by decide) rfl (fun ls hl => ?_)
    refine lv_iinc (v := oI (x7 + 1)) (lv' := [(7, .int (oI (x7 + 1))), (6, .ref (ad q10)), (5, .int (oI x8)), (1, .ref (ad 1)), (2, .int (oI x2)), (3, .ref (ad q3)), (4, .int (oI x4)), (8, .int (oI x8)), (10, .ref (ad q10)), (12, .int (oI x12))]) hx hb d_L12_264 hl (k := 6) rfl (oI_add x7 1) (by decide) rfl (fun ls hl => ?_)
    refine lv_goto (tgt := 93) hx hb d_L12_267 (by decide) ?_
    obtain ⟨rfl, rfl, rfl, rfl, rfl, rfl⟩ := in6 h
    exact W.wide (by omega) (by omega) (k0 ad hag0 hE0 rfl H locs ls hP hD hS (lv_sub hl [3, 4, 5, 6, 2, 1, 0] rfl))
  · have h := ite_f (fun q => c9 ((oI_lt (a := x8) (b := x5) ok141 ok142).mpr q)) h
    refine lv_iload hx hb d_L12_236 (lv_at hl 7 rfl) ?_
    refine lv_iload hx hb d_L12_238 (lv_at hl 4 rfl) ?_
    refine lv_icmp_ne (tgt := 264) hx hb d_L12_240 (by decide) (fun c9 => ?_) (fun c9 => ?_)
    · have h := ite_f (fun q => c9 ((oI_eq (a := x8) (b := x5) ok141 ok142).mpr q)) h
      refine lv_iinc (v := oI (x7 + 1)) (lv' := [(7, .int (oI (x7 + 1))), (1, .ref (ad 1)), (2, .int (oI x2)), (3, .ref (ad q3)), (4, .int (oI x4)), (5, .int (oI x5)), (6, .ref (ad q6)), (8, .int (oI x8)), (10, .ref (ad q10)), (12, .int (oI x12))]) hx hb d_L12_264 hl (k := 6) rfl (oI_add x7 1) (by decide) rfl (fun ls hl => ?_)
      refine lv_goto (tgt := 93) hx hb d_L12_267 (by decide) ?_
      obtain ⟨rfl, rfl, rfl, rfl, rfl, rfl⟩ := in6 h
      exact W.wide (by omega) (by omega) (k0 ad hag0 hE0 rfl H locs ls hP hD hS (lv_sub hl [1, 2, 3, 4, 5, 6, 0] rfl))
    · have h := ite_t ((oI_eq (a := x8) (b := x5) ok141 ok142).mp c9) h
      refine lv_aload hx hb d_L12_243 (lv_at hl 8 rfl) ?_
      refine lv_iload hx hb d_L12_245 (lv_at hl 9 rfl) ?_
      obtain ⟨ok143, h⟩ := ck_e h
      refine m_ia hx hb hG hP h_q10.1 (isIA_T h_q10) ok143 d_L12_247 ?_
      refine lv_aload hx hb d_L12_248 (lv_at hl 5 rfl) ?_
      refine lv_iload hx hb d_L12_250 (lv_at hl 9 rfl) ?_
      obtain ⟨ok144, h⟩ := ck_e h
      refine m_ia hx hb hG hP h_q6.1 (isIA_T h_q6) ok144 d_L12_252 ?_
      obtain ⟨ok145, h⟩ := ck_e h
      obtain ⟨ok146, h⟩ := ck_e h
      refine lv_icmp_ge (tgt := 264) hx hb d_L12_253 (by decide) (fun c9 => ?_) (fun c9 => ?_)
      · have h := ite_t ((oI_le (a := (M q6 x12.toNat)) (b := (M q10 x12.toNat)) ok146 ok145).mp c9) h
        refine lv_iinc (v := oI (x7 + 1)) (lv' := [(7, .int (oI (x7 + 1))), (1, .ref (ad 1)), (2, .int (oI x2)), (3, .ref (ad q3)), (4, .int (oI x4)), (5, .int (oI x5)), (6, .ref (ad q6)), (8, .int (oI x8)), (10, .ref (ad q10)), (12, .int (oI x12))]) hx hb d_L12_264 hl (k := 6) rfl (oI_add x7 1) (by decide) rfl (fun ls hl => ?_)
        refine lv_goto (tgt := 93) hx hb d_L12_267 (by decide) ?_
        obtain ⟨rfl, rfl, rfl, rfl, rfl, rfl⟩ := in6 h
        exact W.wide (by omega) (by omega) (k0 ad hag0 hE0 rfl H locs ls hP hD hS (lv_sub hl [1, 2, 3, 4, 5, 6, 0] rfl))
      · have h := ite_f (fun q => c9 ((oI_le (a := (M q6 x12.toNat)) (b := (M q10 x12.toNat)) ok146 ok145).mpr q)) h
        refine lv_iload hx hb d_L12_256 (lv_at hl 7 rfl) ?_
        refine lv_istore (lv' := [(5, .int (oI x8)), (1, .ref (ad 1)), (2, .int (oI x2)), (3, .ref (ad q3)), (4, .int (oI x4)), (6, .ref (ad q6)), (7, .int (oI x7)), (8, .int (oI x8)), (10, .ref (ad q10)), (12, .int (oI x12))]) hx hb d_L12_258 hl (by decide) rfl (fun ls hl => ?_)
        refine lv_aload hx hb d_L12_260 (lv_at hl 8 rfl) ?_
        refine lv_astore (lv' := [(6, .ref (ad q10)), (5, .int (oI x8)), (1, .ref (ad 1)), (2, .int (oI x2)), (3, .ref (ad q3)), (4, .int (oI x4)), (7, .int (oI x7)), (8, .int (oI x8)), (10, .ref (ad q10)), (12, .int (oI x12))]) hx hb d_L12_262 hl (by decide) rfl (fun ls hl => ?_)
        refine lv_iinc (v := oI (x7 + 1)) (lv' := [(7, .int (oI (x7 + 1))), (6, .ref (ad q10)), (5, .int (oI x8)), (1, .ref (ad 1)), (2, .int (oI x2)), (3, .ref (ad q3)), (4, .int (oI x4)), (8, .int (oI x8)), (10, .ref (ad q10)), (12, .int (oI x12))]) hx hb d_L12_264 hl (k := 6) rfl (oI_add x7 1) (by decide) rfl (fun ls hl => ?_)
        refine lv_goto (tgt := 93) hx hb d_L12_267 (by decide) ?_
        obtain ⟨rfl, rfl, rfl, rfl, rfl, rfl⟩ := in6 h
        exact W.wide (by omega) (by omega) (k0 ad hag0 hE0 rfl H locs ls hP hD hS (lv_sub hl [3, 4, 5, 6, 2, 1, 0] rfl))
set_option maxRecDepth 100000 in
set_option maxHeartbeats 4000000 in
theorem b_La_districts_93b (l : Launch) (z : Zz) (E0 : Ev) (ad0 : Nat → Nat) (ad : Nat → Nat) (E : Ev) (M : Mm) (x2 : Int) (q3 : Nat) (x4 : Int) (x5 : Int) (q6 : Nat) (x7 : Int) (t : Nat) (w5 : Int) (w6 : Nat) (w7 : Int) (F : Ev) (N : Mm) {Q : State → Prop} {p : Program} {e : Env} {s : State} {m : MethodId} {below : List Frame} {meth : Method} {c : Code} {A : Nat → Prop} {args : Array Value} (hx : p.tables.exec = Jvm.exec) (hb : c.code = method_12_code) (hml : c.maxLocals = 13) (hts : ∀ w ∈ WG, w.before args s = true) (hown : s.vm.findClass "BallothallLaw" = some m.cls) (hlocks : meth.locks = false) (hA : ∀ q, s.heap.size ≤ q → A q) (hG : KG z s) (hZ : FZ z A s) (mc ms c0 s0 c1 s1 : Nat) (hc : c0 + 1 ≤ c1) (hs : s0 + 8 ≤ s1) (hm : c1 ≤ mc) (hm2 : s1 ≤ ms) (hag0 : ∀ i, i < nE E0 → ad i = ad0 i) (hE0 : nE E0 ≤ nE E) (h : La_districts_93b E M x2 q3 x4 x5 q6 x7 = some (t, w5, w6, w7, F, N)) (k0 : ∀ (ad1 : Nat → Nat), (∀ i, i < nE E0 → ad1 i = ad0 i) → nE E0 ≤ nE F → t = 0 → ∀ (H : Heap) (locs : List Loc) (ls : Array Slot), va_P z.1 classes (wv z ad1 F N) H → va_D A (wv z ad1 F N) → va_S A s.heap H locs → lv_has ls 13 [(1, .ref (ad1 1)), (2, .int (oI x2)), (3, .ref (ad1 q3)), (4, .int (oI x4)), (5, .int (oI w5)), (6, .ref (ad1 w6)), (7, .int (oI w7))] → W p l e (rmK 4 117 mc ms) s m args below meth c H locs c1 s1 Q (F0 m 93 ls [])) (k1 : ∀ (ad1 : Nat → Nat), (∀ i, i < nE E0 → ad1 i = ad0 i) → nE E0 ≤ nE F → t = 1 → ∀ (H : Heap) (locs : List Loc) (ls : Array Slot), va_P z.1 classes (wv z ad1 F N) H → va_D A (wv z ad1 F N) → va_S A s.heap H locs → lv_has ls 13 [(1, .ref (ad1 1)), (4, .int (oI x4)), (5, .int (oI w5)), (6, .ref (ad1 w6))] → W p l e (rmK 4 117 mc ms) s m args below meth c H locs c1 s1 Q (F0 m 270 ls [])) : ∀ (H : Heap) (locs : List Loc) (ls : Array Slot), va_P z.1 classes (wv z ad E M) H → va_D A (wv z ad E M) → va_S A s.heap H locs → lv_has ls 13 [(1, .ref (ad 1)), (2, .int (oI x2)), (3, .ref (ad q3)), (4, .int (oI x4)), (5, .int (oI x5)), (6, .ref (ad q6)), (7, .int (oI x7))] → W p l e (rmK 4 117 mc ms) s m args below meth c H locs c0 s0 Q (F0 m 93 ls []) := by
  intro H locs ls hP hD hS hl
  unfold La_districts_93b at h
  obtain ⟨hL, h⟩ := ck_e h
  obtain ⟨h_q3, h⟩ := ck_e h
  obtain ⟨h_q6, h⟩ := ck_e h
  refine lv_iload hx hb d_L12_93 (lv_at hl 6 rfl) ?_
  refine lv_iconst (v := oI 1) hx hb d_L12_95 (by decide +kernel) ?_
  refine lv_iload_n hx hb d_L12_96 rfl (lv_at hl 1 rfl) ?_
  refine lv_iconst (v := oI 1) hx hb d_L12_97 (by decide +kernel) ?_
  refine lv_isub hx hb d_L12_98 ?_
  refine nrm (oI_sub _ _) ?_
  obtain ⟨ok116, h⟩ := ck_e h
  refine lv_ishl hx hb d_L12_99 ?_
  refine nrm (oI_one_shl ok116) ?_
  obtain ⟨ok117, h⟩ := ck_e h
  obtain ⟨ok118, h⟩ := ck_e h
  refine lv_icmp_ge (tgt := 270) hx hb d_L12_100 (by decide) (fun c9 => ?_) (fun c9 => ?_)
  · have h := ite_t ((oI_le (a := (2 ^ (x2 - 1).toNat)) (b := x7) ok118 ok117).mp c9) h
    obtain ⟨rfl, rfl, rfl, rfl, rfl, rfl⟩ := in6 h
    exact W.wide (by omega) (by omega) (k1 ad hag0 hE0 rfl H locs ls hP hD hS (lv_sub hl [0, 3, 4, 5] rfl))
  · have h := ite_f (fun q => c9 ((oI_le (a := (2 ^ (x2 - 1).toNat)) (b := x7) ok118 ok117).mpr q)) h
    refine lv_iload hx hb d_L12_103 (lv_at hl 6 rfl) ?_
    obtain ⟨r119, g119, h⟩ := bd_e h
    refine kS (As := [.int (oI x7)]) (rest := []) (s_In_bitCount l z ad E M x7 r119 hL g119) hx hb hml hown hts w_657 w_1256 w_656 w_30 md_eafe8c ⟨Nat.le_of_ble_eq_true rfl, Nat.le_of_ble_eq_true rfl⟩ hG hZ hP hD hS hA rfl hl.1 rfl (Nat.le_of_ble_eq_true rfl) d_L12_105 ⟨(show _ ≤ mc by omega), (show _ ≤ ms by omega)⟩ (fun _ H locs hP hD hS => ?_)
    have hP : va_P z.1 classes (wv z ad E M) H := hP
    have hD : va_D A (wv z ad E M) := hD
    refine W.eq (g2 := F0 m 108 ls [.int (oI r119)]) rfl ?_
    refine lv_iload hx hb d_L12_108 (lv_at hl 3 rfl) ?_
    refine lv_iconst (v := oI 1) hx hb d_L12_110 (by decide +kernel) ?_
    refine lv_isub hx hb d_L12_111 ?_
    refine nrm (oI_sub _ _) ?_
    obtain ⟨ok120, h⟩ := ck_e h
    obtain ⟨ok121, h⟩ := ck_e h
    refine lv_icmp_eq (tgt := 118) hx hb d_L12_112 (by decide) (fun c9 => ?_) (fun c9 => ?_)
    · have h := ite_t ((oI_eq (a := r119) (b := (x4 - 1)) ok120 ok121).mp c9) h
      refine lv_iconst (v := oI 0) hx hb d_L12_118 (by decide +kernel) ?_
      refine lv_istore (lv' := [(8, .int (oI 0)), (1, .ref (ad 1)), (2, .int (oI x2)), (3, .ref (ad q3)), (4, .int (oI x4)), (5, .int (oI x5)), (6, .ref (ad q6)), (7, .int (oI x7))]) hx hb d_L12_119 hl (by decide) rfl (fun ls hl => ?_)
      refine lv_iconst (v := oI 0) hx hb d_L12_121 (by decide +kernel) ?_
      refine lv_istore (lv' := [(9, .int (oI 0)), (8, .int (oI 0)), (1, .ref (ad 1)), (2, .int (oI x2)), (3, .ref (ad q3)), (4, .int (oI x4)), (5, .int (oI x5)), (6, .ref (ad q6)), (7, .int (oI x7))]) hx hb d_L12_122 hl (by decide) rfl (fun ls hl => ?_)
      refine lv_iload hx hb d_L12_124 (lv_at hl 5 rfl) ?_
      obtain ⟨ok122, h⟩ := ck_e h
      obtain ⟨p123, ep123, h⟩ := nb_e h
      obtain ⟨E123, eE123, h⟩ := nb_e h
      obtain ⟨M123, eM123, h⟩ := nb_e h
      refine m_newI (x := x4) (N := 8) hx hb ok122.1 ok122.2 (by decide) (hts _ w_100) hG hP hD hS hA (show _ ≤ mc by omega) (show _ ≤ ms by omega) d_L12_126 (fun ad123 H hag123 hP hD hS => ?_)
      have hP : va_P z.1 classes (wv z ad123 E123 M123) H := by rw [eE123, eM123]; exact hP
      have hD : va_D A (wv z ad123 E123 M123) := by rw [eE123, eM123]; exact hD
      refine W.eq (g2 := F0 m 128 ls (.ref (ad123 p123) :: [])) (by rw [ep123] <;> rfl) ?_
      have hl : lv_has ls 13 [(9, .int (oI 0)), (8, .int (oI 0)), (1, .ref (ad123 1)), (2, .int (oI x2)), (3, .ref (ad123 q3)), (4, .int (oI x4)), (5, .int (oI x5)), (6, .ref (ad123 q6)), (7, .int (oI x7))] := by rw [hag123 1 (yi_1 hL), hag123 q3 h_q3.1, hag123 q6 h_q6.1]; exact hl
      have hgw123 : Gw E E123 := by rw [eE123]; exact gw_new _ _
      have hL123 : Lay E123 := by rw [eE123]; exact lay_new hL
      have hag0 : ∀ i, i < nE E0 → ad123 i = ad0 i := fun i hi => (hag123 i (Nat.lt_of_lt_of_le hi hE0)).trans (hag0 i hi)
      have hE0 : nE E0 ≤ nE E123 := Nat.le_trans hE0 hgw123.1
      have hL : Lay E123 := hL123
      have h_q3 : isIA E123 q3 := isA_up hgw123 h_q3
      have h_q6 : isIA E123 q6 := isA_up hgw123 h_q6
      have h_p123 : isIA E123 p123 := by rw [ep123, eE123]; exact ⟨new_i _ _, by rw [new_T]⟩
      refine lv_astore (lv' := [(10, .ref (ad123 p123)), (9, .int (oI 0)), (8, .int (oI 0)), (1, .ref (ad123 1)), (2, .int (oI x2)), (3, .ref (ad123 q3)), (4, .int (oI x4)), (5, .int (oI x5)), (6, .ref (ad123 q6)), (7, .int (oI x7))]) hx hb d_L12_128 hl (by decide) rfl (fun ls hl => ?_)
      refine lv_iconst (v := oI 0) hx hb d_L12_130 (by decide +kernel) ?_
      refine lv_istore (lv' := [(11, .int (oI 0)), (10, .ref (ad123 p123)), (9, .int (oI 0)), (8, .int (oI 0)), (1, .ref (ad123 1)), (2, .int (oI x2)), (3, .ref (ad123 q3)), (4, .int (oI x4)), (5, .int (oI x5)), (6, .ref (ad123 q6)), (7, .int (oI x7))]) hx hb d_L12_131 hl (by decide) rfl (fun ls hl => ?_)
      refine lv_iconst (v := oI 0) hx hb d_L12_133 (by decide +kernel) ?_
      refine lv_istore (lv' := [(12, .int (oI 0)), (11, .int (oI 0)), (10, .ref (ad123 p123)), (9, .int (oI 0)), (8, .int (oI 0)), (1, .ref (ad123 1)), (2, .int (oI x2)), (3, .ref (ad123 q3)), (4, .int (oI x4)), (5, .int (oI x5)), (6, .ref (ad123 q6)), (7, .int (oI x7))]) hx hb d_L12_134 hl (by decide) rfl (fun ls hl => ?_)
      obtain ⟨⟨t133, v133_8, v133_9, v133_11, v133_12, E133, M133⟩, g133, h⟩ := bd_e h
      obtain ⟨hgw133, h⟩ := ck_e h
      obtain ⟨hL133, h⟩ := ck_e h
      obtain ⟨ok133, h⟩ := ck_e h
      refine s_La_districts_136 l z E123 ad123 x2 q3 x4 x5 q6 x7 p123 hx hb hml hts hown hlocks hA hG hZ mc ms (c0 + 1) (s0 + 8) (by omega) (by omega) 5000 _ _ ad123 E123 M123 0 0 0 0 t133 v133_8 v133_9 v133_11 v133_12 E133 M133 (by omega) (by omega) (fun _ _ => rfl) (Nat.le_refl _) g133 (fun ad133 hag133 hEE133 e133 H locs ls hP hD hS hl => ?_) H locs ls hP hD hS (lv_sub hl [5, 6, 7, 8, 9, 10, 11, 4, 3, 2, 1, 0] rfl)
      have hag0 : ∀ i, i < nE E0 → ad133 i = ad0 i := fun i hi => (hag133 i (Nat.lt_of_lt_of_le hi hE0)).trans (hag0 i hi)
      have hE0 : nE E0 ≤ nE E133 := Nat.le_trans hE0 hgw133.1
      have hL : Lay E133 := hL133
      have h_q3 : isIA E133 q3 := isA_up hgw133 h_q3
      have h_q6 : isIA E133 q6 := isA_up hgw133 h_q6
      have h_p123 : isIA E133 p123 := isA_up hgw133 h_p123
      refine lv_iconst (v := oI 0) hx hb d_L12_198 (by decide +kernel) ?_
      refine lv_istore (lv' := [(12, .int (oI 0)), (1, .ref (ad133 1)), (2, .int (oI x2)), (3, .ref (ad133 q3)), (4, .int (oI x4)), (5, .int (oI x5)), (6, .ref (ad133 q6)), (7, .int (oI x7)), (8, .int (oI v133_8)), (10, .ref (ad133 p123))]) hx hb d_L12_199 hl (by decide) rfl (fun ls hl => ?_)
      obtain ⟨⟨t140, v140_12, E140, M140⟩, g140, h⟩ := bd_e h
      obtain ⟨hgw140, h⟩ := ck_e h
      obtain ⟨hL140, h⟩ := ck_e h
      obtain ⟨ok140, h⟩ := ck_e h
      refine s_La_districts_201 l z E133 ad133 x2 q3 x4 x5 q6 x7 v133_8 p123 hx hb hml hts hown hlocks hA hG hZ mc ms (c0 + 1) (s0 + 8) (by omega) (by omega) 5000 _ _ ad133 E133 M133 0 t140 v140_12 E140 M140 (by omega) (by omega) (fun _ _ => rfl) (Nat.le_refl _) g140 (fun ad140 hag140 hEE140 e140 H locs ls hP hD hS hl => ?_) H locs ls hP hD hS (lv_sub hl [1, 2, 3, 4, 5, 6, 7, 8, 9, 0] rfl)
      have hag0 : ∀ i, i < nE E0 → ad140 i = ad0 i := fun i hi => (hag140 i (Nat.lt_of_lt_of_le hi hE0)).trans (hag0 i hi)
      have hE0 : nE E0 ≤ nE E140 := Nat.le_trans hE0 hgw140.1
      have hL : Lay E140 := hL140
      have h_q3 : isIA E140 q3 := isA_up hgw140 h_q3
      have h_q6 : isIA E140 q6 := isA_up hgw140 h_q6
      have h_p123 : isIA E140 p123 := isA_up hgw140 h_p123
      exact b_La_districts_j229 l z E0 ad0 ad140 E140 M140 x2 q3 x4 x5 q6 x7 v133_8 p123 v140_12 t w5 w6 w7 F N hx hb hml hts hown hlocks hA hG hZ mc ms _ _ c1 s1 (by omega) (by omega) hm hm2 hag0 hE0 h k0 k1 H locs ls hP hD hS (lv_sub hl [0, 1, 2, 3, 4, 5, 6, 7, 8, 9] rfl)
    · have h := ite_f (fun q => c9 ((oI_eq (a := r119) (b := (x4 - 1)) ok120 ok121).mpr q)) h
      refine lv_goto (tgt := 264) hx hb d_L12_115 (by decide) ?_
      refine lv_iinc (v := oI (x7 + 1)) (lv' := [(7, .int (oI (x7 + 1))), (1, .ref (ad 1)), (2, .int (oI x2)), (3, .ref (ad q3)), (4, .int (oI x4)), (5, .int (oI x5)), (6, .ref (ad q6))]) hx hb d_L12_264 hl (k := 6) rfl (oI_add x7 1) (by decide) rfl (fun ls hl => ?_)
      refine lv_goto (tgt := 93) hx hb d_L12_267 (by decide) ?_
      obtain ⟨rfl, rfl, rfl, rfl, rfl, rfl⟩ := in6 h
      exact W.wide (by omega) (by omega) (k0 ad hag0 hE0 rfl H locs ls hP hD hS (lv_sub hl [1, 2, 3, 4, 5, 6, 0] rfl))
set_option maxRecDepth 100000 in
set_option maxHeartbeats 4000000 in
theorem s_La_districts_93 (l : Launch) (z : Zz) (E0 : Ev) (ad0 : Nat → Nat) (x2 : Int) (q3 : Nat) (x4 : Int) {Q : State → Prop} {p : Program} {e : Env} {s : State} {m : MethodId} {below : List Frame} {meth : Method} {c : Code} {A : Nat → Prop} {args : Array Value} (hx : p.tables.exec = Jvm.exec) (hb : c.code = method_12_code) (hml : c.maxLocals = 13) (hts : ∀ w ∈ WG, w.before args s = true) (hown : s.vm.findClass "BallothallLaw" = some m.cls) (hlocks : meth.locks = false) (hA : ∀ q, s.heap.size ≤ q → A q) (hG : KG z s) (hZ : FZ z A s) (mc ms c1 s1 : Nat) (hm : c1 ≤ mc) (hm2 : s1 ≤ ms) : ∀ (fu c0 s0 : Nat) (ad : Nat → Nat) (E : Ev) (M : Mm) (x5 : Int) (q6 : Nat) (x7 : Int) (t : Nat) (w5 : Int) (w6 : Nat) (w7 : Int) (F : Ev) (N : Mm), c0 + fu * 1 ≤ c1 → s0 + fu * 8 ≤ s1 → (∀ i, i < nE E0 → ad i = ad0 i) → nE E0 ≤ nE E → l_La_districts_93 x2 q3 x4 fu E M x5 q6 x7 = some (t, w5, w6, w7, F, N) → (∀ (ad1 : Nat → Nat), (∀ i, i < nE E0 → ad1 i = ad0 i) → nE E0 ≤ nE F → t = 1 → ∀ (H : Heap) (locs : List Loc) (ls : Array Slot), va_P z.1 classes (wv z ad1 F N) H → va_D A (wv z ad1 F N) → va_S A s.heap H locs → lv_has ls 13 [(1, .ref (ad1 1)), (4, .int (oI x4)), (5, .int (oI w5)), (6, .ref (ad1 w6))] → W p l e (rmK 4 117 mc ms) s m args below meth c H locs c1 s1 Q (F0 m 270 ls [])) → ∀ (H : Heap) (locs : List Loc) (ls : Array Slot), va_P z.1 classes (wv z ad E M) H → va_D A (wv z ad E M) → va_S A s.heap H locs → lv_has ls 13 [(1, .ref (ad 1)), (2, .int (oI x2)), (3, .ref (ad q3)), (4, .int (oI x4)), (5, .int (oI x5)), (6, .ref (ad q6)), (7, .int (oI x7))] → W p l e (rmK 4 117 mc ms) s m args below meth c H locs c0 s0 Q (F0 m 93 ls []) := by
  intro fu
  induction fu with
  | zero =>
    intro c0 s0 ad E M x5 q6 x7 t w5 w6 w7 F N hc hs hag0 hE0 h
    have h : (none : Option (Nat × Int × Nat × Int × Ev × Mm)) = some _ := h
    cases h
  | succ fu ih =>
    intro c0 s0 ad E M x5 q6 x7 t w5 w6 w7 F N hc hs hag0 hE0 h k1 H locs ls hP hD hS hl
    obtain ⟨⟨t0, w50, w60, w70, F9, N9⟩, g0, h⟩ := bd_e h
    refine W.wide (Nat.le_refl _) (Nat.le_refl _) (b_La_districts_93b l z E0 ad0 ad E M x2 q3 x4 x5 q6 x7 t0 w50 w60 w70 F9 N9 hx hb hml hts hown hlocks hA hG hZ mc ms c0 s0 (c0 + 1) (s0 + 8) (Nat.le_refl _) (Nat.le_refl _) (by omega) (by omega) hag0 hE0 g0 (fun ad1 ha he e0 => ?_) (fun ad1 ha he e0 => ?_) H locs ls hP hD hS hl)
    · subst e0
      have h := ite_t rfl h
      exact ih (c0 + 1) (s0 + 8) ad1 F9 N9 w50 w60 w70 t w5 w6 w7 F N (by omega) (by omega) ha he h k1
    · subst e0
      have h := ite_f (by decide) h
      obtain ⟨rfl, rfl, rfl, rfl, rfl, rfl⟩ := in6 h
      exact fun H locs ls hP hD hS hl => W.wide (by omega) (by omega) (k1 ad1 ha he rfl H locs ls hP hD hS hl)
set_option maxRecDepth 100000 in
set_option maxHeartbeats 4000000 in
theorem b_La_districts_291b (l : Launch) (z : Zz) (E0 : Ev) (ad0 : Nat → Nat) (ad : Nat → Nat) (E : Ev) (M : Mm) (x4 : Int) (q6 : Nat) (x7 : Int) (x8 : Int) (t : Nat) (w7 : Int) (w8 : Int) (F : Ev) (N : Mm) {Q : State → Prop} {p : Program} {e : Env} {s : State} {m : MethodId} {below : List Frame} {meth : Method} {c : Code} {A : Nat → Prop} {args : Array Value} (hx : p.tables.exec = Jvm.exec) (hb : c.code = method_12_code) (hml : c.maxLocals = 13) (hts : ∀ w ∈ WG, w.before args s = true) (hown : s.vm.findClass "BallothallLaw" = some m.cls) (hlocks : meth.locks = false) (hA : ∀ q, s.heap.size ≤ q → A q) (hG : KG z s) (hZ : FZ z A s) (mc ms c0 s0 c1 s1 : Nat) (hc : c0 + 0 ≤ c1) (hs : s0 + 0 ≤ s1) (hm : c1 ≤ mc) (hm2 : s1 ≤ ms) (hag0 : ∀ i, i < nE E0 → ad i = ad0 i) (hE0 : nE E0 ≤ nE E) (h : La_districts_291b E M x4 q6 x7 x8 = some (t, w7, w8, F, N)) (k0 : ∀ (ad1 : Nat → Nat), (∀ i, i < nE E0 → ad1 i = ad0 i) → nE E0 ≤ nE F → t = 0 → ∀ (H : Heap) (locs : List Loc) (ls : Array Slot), va_P z.1 classes (wv z ad1 F N) H → va_D A (wv z ad1 F N) → va_S A s.heap H locs → lv_has ls 13 [(1, .ref (ad1 1)), (4, .int (oI x4)), (6, .ref (ad1 q6)), (7, .int (oI w7)), (8, .int (oI w8))] → W p l e (rmK 4 117 mc ms) s m args below meth c H locs c1 s1 Q (F0 m 291 ls [])) (k1 : ∀ (ad1 : Nat → Nat), (∀ i, i < nE E0 → ad1 i = ad0 i) → nE E0 ≤ nE F → t = 1 → ∀ (H : Heap) (locs : List Loc) (ls : Array Slot), va_P z.1 classes (wv z ad1 F N) H → va_D A (wv z ad1 F N) → va_S A s.heap H locs → lv_has ls 13 [(1, .ref (ad1 1)), (4, .int (oI x4)), (7, .int (oI w7))] → W p l e (rmK 4 117 mc ms) s m args below meth c H locs c1 s1 Q (F0 m 332 ls [])) : ∀ (H : Heap) (locs : List Loc) (ls : Array Slot), va_P z.1 classes (wv z ad E M) H → va_D A (wv z ad E M) → va_S A s.heap H locs → lv_has ls 13 [(1, .ref (ad 1)), (4, .int (oI x4)), (6, .ref (ad q6)), (7, .int (oI x7)), (8, .int (oI x8))] → W p l e (rmK 4 117 mc ms) s m args below meth c H locs c0 s0 Q (F0 m 291 ls []) := by
  intro H locs ls hP hD hS hl
  unfold La_districts_291b at h
  obtain ⟨hL, h⟩ := ck_e h
  obtain ⟨h_q6, h⟩ := ck_e h
  refine lv_iload hx hb d_L12_291 (lv_at hl 4 rfl) ?_
  refine lv_iload hx hb d_L12_293 (lv_at hl 1 rfl) ?_
  obtain ⟨ok151, h⟩ := ck_e h
  obtain ⟨ok152, h⟩ := ck_e h
  refine lv_icmp_ge (tgt := 332) hx hb d_L12_295 (by decide) (fun c9 => ?_) (fun c9 => ?_)
  · have h := ite_t ((oI_le (a := x4) (b := x8) ok152 ok151).mp c9) h
    obtain ⟨rfl, rfl, rfl, rfl, rfl⟩ := in5 h
    exact W.wide (by omega) (by omega) (k1 ad hag0 hE0 rfl H locs ls hP hD hS (lv_sub hl [0, 1, 3] rfl))
  · have h := ite_f (fun q => c9 ((oI_le (a := x4) (b := x8) ok152 ok151).mpr q)) h
    refine lv_iload hx hb d_L12_298 (lv_at hl 3 rfl) ?_
    obtain ⟨ok153, h⟩ := ck_e h
    refine lv_if_eq (tgt := 323) hx hb d_L12_300 (by decide) (fun c9 => ?_) (fun c9 => ?_)
    · have h := ite_t ((oI_eq0 ok153).mp c9) h
      refine lv_iconst (v := oI 0) hx hb d_L12_323 (by decide +kernel) ?_
      refine lv_istore (lv' := [(7, .int (oI 0)), (1, .ref (ad 1)), (4, .int (oI x4)), (6, .ref (ad q6)), (8, .int (oI x8))]) hx hb d_L12_324 hl (by decide) rfl (fun ls hl => ?_)
      refine lv_iinc (v := oI (x8 + 1)) (lv' := [(8, .int (oI (x8 + 1))), (7, .int (oI 0)), (1, .ref (ad 1)), (4, .int (oI x4)), (6, .ref (ad q6))]) hx hb d_L12_326 hl (k := 4) rfl (oI_add x8 1) (by decide) rfl (fun ls hl => ?_)
      refine lv_goto (tgt := 291) hx hb d_L12_329 (by decide) ?_
      obtain ⟨rfl, rfl, rfl, rfl, rfl⟩ := in5 h
      exact W.wide (by omega) (by omega) (k0 ad hag0 hE0 rfl H locs ls hP hD hS (lv_sub hl [2, 3, 4, 1, 0] rfl))
    · have h := ite_f (fun q => c9 ((oI_eq0 ok153).mpr q)) h
      refine lv_aload_n hx hb d_L12_303 rfl (lv_at hl 0 rfl) ?_
      refine lv_iload hx hb d_L12_304 (lv_at hl 1 rfl) ?_
      refine lv_iload hx hb d_L12_306 (lv_at hl 4 rfl) ?_
      obtain ⟨⟨r154, M154⟩, g154, h⟩ := bd_e h
      refine kV (As := [.int (oI x4), .int (oI x8)]) (rest := []) (s_B_districtEnd l z ad E M x4 x8 r154 M154 hL g154) hx hb hml hown hts w_1640 w_1637 w_1638 w_1639 w_1 md_a0f53c ⟨Nat.le_of_ble_eq_true rfl, Nat.le_of_ble_eq_true rfl⟩ hG hZ hP hD hS hA 1 (wv_o (ci := 11) (yi_1 hL) (yt_1 hL)) rfl rfl rfl hl.1 rfl (Nat.le_of_ble_eq_true rfl) d_L12_308 ⟨(show _ ≤ mc by omega), (show _ ≤ ms by omega)⟩ (fun _ H locs hP hD hS => ?_)
      have hP : va_P z.1 classes (wv z ad E M154) H := hP
      have hD : va_D A (wv z ad E M154) := hD
      refine W.eq (g2 := F0 m 311 ls [.int (oI r154)]) rfl ?_
      refine lv_aload hx hb d_L12_311 (lv_at hl 2 rfl) ?_
      refine lv_iload hx hb d_L12_313 (lv_at hl 4 rfl) ?_
      obtain ⟨ok155, h⟩ := ck_e h
      refine m_ia hx hb hG hP h_q6.1 (isIA_T h_q6) ok155 d_L12_315 ?_
      obtain ⟨ok156, h⟩ := ck_e h
      obtain ⟨ok157, h⟩ := ck_e h
      refine lv_icmp_ne (tgt := 323) hx hb d_L12_316 (by decide) (fun c9 => ?_) (fun c9 => ?_)
      · have h := ite_f (fun q => c9 ((oI_eq (a := r154) (b := (M154 q6 x8.toNat)) ok156 ok157).mpr q)) h
        refine lv_iconst (v := oI 0) hx hb d_L12_323 (by decide +kernel) ?_
        refine lv_istore (lv' := [(7, .int (oI 0)), (1, .ref (ad 1)), (4, .int (oI x4)), (6, .ref (ad q6)), (8, .int (oI x8))]) hx hb d_L12_324 hl (by decide) rfl (fun ls hl => ?_)
        refine lv_iinc (v := oI (x8 + 1)) (lv' := [(8, .int (oI (x8 + 1))), (7, .int (oI 0)), (1, .ref (ad 1)), (4, .int (oI x4)), (6, .ref (ad q6))]) hx hb d_L12_326 hl (k := 4) rfl (oI_add x8 1) (by decide) rfl (fun ls hl => ?_)
        refine lv_goto (tgt := 291) hx hb d_L12_329 (by decide) ?_
        obtain ⟨rfl, rfl, rfl, rfl, rfl⟩ := in5 h
        exact W.wide (by omega) (by omega) (k0 ad hag0 hE0 rfl H locs ls hP hD hS (lv_sub hl [2, 3, 4, 1, 0] rfl))
      · have h := ite_t ((oI_eq (a := r154) (b := (M154 q6 x8.toNat)) ok156 ok157).mp c9) h
        refine lv_iconst (v := oI 1) hx hb d_L12_319 (by decide +kernel) ?_
        refine lv_goto (tgt := 324) hx hb d_L12_320 (by decide) ?_
        refine lv_istore (lv' := [(7, .int (oI 1)), (1, .ref (ad 1)), (4, .int (oI x4)), (6, .ref (ad q6)), (8, .int (oI x8))]) hx hb d_L12_324 hl (by decide) rfl (fun ls hl => ?_)
        refine lv_iinc (v := oI (x8 + 1)) (lv' := [(8, .int (oI (x8 + 1))), (7, .int (oI 1)), (1, .ref (ad 1)), (4, .int (oI x4)), (6, .ref (ad q6))]) hx hb d_L12_326 hl (k := 4) rfl (oI_add x8 1) (by decide) rfl (fun ls hl => ?_)
        refine lv_goto (tgt := 291) hx hb d_L12_329 (by decide) ?_
        obtain ⟨rfl, rfl, rfl, rfl, rfl⟩ := in5 h
        exact W.wide (by omega) (by omega) (k0 ad hag0 hE0 rfl H locs ls hP hD hS (lv_sub hl [2, 3, 4, 1, 0] rfl))
set_option maxRecDepth 100000 in
set_option maxHeartbeats 4000000 in
theorem s_La_districts_291 (l : Launch) (z : Zz) (E0 : Ev) (ad0 : Nat → Nat) (x4 : Int) (q6 : Nat) {Q : State → Prop} {p : Program} {e : Env} {s : State} {m : MethodId} {below : List Frame} {meth : Method} {c : Code} {A : Nat → Prop} {args : Array Value} (hx : p.tables.exec = Jvm.exec) (hb : c.code = method_12_code) (hml : c.maxLocals = 13) (hts : ∀ w ∈ WG, w.before args s = true) (hown : s.vm.findClass "BallothallLaw" = some m.cls) (hlocks : meth.locks = false) (hA : ∀ q, s.heap.size ≤ q → A q) (hG : KG z s) (hZ : FZ z A s) (mc ms c1 s1 : Nat) (hm : c1 ≤ mc) (hm2 : s1 ≤ ms) : ∀ (fu c0 s0 : Nat) (ad : Nat → Nat) (E : Ev) (M : Mm) (x7 : Int) (x8 : Int) (t : Nat) (w7 : Int) (w8 : Int) (F : Ev) (N : Mm), c0 + fu * 0 ≤ c1 → s0 + fu * 0 ≤ s1 → (∀ i, i < nE E0 → ad i = ad0 i) → nE E0 ≤ nE E → l_La_districts_291 x4 q6 fu E M x7 x8 = some (t, w7, w8, F, N) → (∀ (ad1 : Nat → Nat), (∀ i, i < nE E0 → ad1 i = ad0 i) → nE E0 ≤ nE F → t = 1 → ∀ (H : Heap) (locs : List Loc) (ls : Array Slot), va_P z.1 classes (wv z ad1 F N) H → va_D A (wv z ad1 F N) → va_S A s.heap H locs → lv_has ls 13 [(1, .ref (ad1 1)), (4, .int (oI x4)), (7, .int (oI w7))] → W p l e (rmK 4 117 mc ms) s m args below meth c H locs c1 s1 Q (F0 m 332 ls [])) → ∀ (H : Heap) (locs : List Loc) (ls : Array Slot), va_P z.1 classes (wv z ad E M) H → va_D A (wv z ad E M) → va_S A s.heap H locs → lv_has ls 13 [(1, .ref (ad 1)), (4, .int (oI x4)), (6, .ref (ad q6)), (7, .int (oI x7)), (8, .int (oI x8))] → W p l e (rmK 4 117 mc ms) s m args below meth c H locs c0 s0 Q (F0 m 291 ls []) := by
  intro fu
  induction fu with
  | zero =>
    intro c0 s0 ad E M x7 x8 t w7 w8 F N hc hs hag0 hE0 h
    have h : (none : Option (Nat × Int × Int × Ev × Mm)) = some _ := h
    cases h
  | succ fu ih =>
    intro c0 s0 ad E M x7 x8 t w7 w8 F N hc hs hag0 hE0 h k1 H locs ls hP hD hS hl
    obtain ⟨⟨t0, w70, w80, F9, N9⟩, g0, h⟩ := bd_e h
    refine W.wide (Nat.le_refl _) (Nat.le_refl _) (b_La_districts_291b l z E0 ad0 ad E M x4 q6 x7 x8 t0 w70 w80 F9 N9 hx hb hml hts hown hlocks hA hG hZ mc ms c0 s0 (c0 + 0) (s0 + 0) (Nat.le_refl _) (Nat.le_refl _) (by omega) (by omega) hag0 hE0 g0 (fun ad1 ha he e0 => ?_) (fun ad1 ha he e0 => ?_) H locs ls hP hD hS hl)
    · subst e0
      have h := ite_t rfl h
      exact ih (c0 + 0) (s0 + 0) ad1 F9 N9 w70 w80 t w7 w8 F N (by omega) (by omega) ha he h k1
    · subst e0
      have h := ite_f (by decide) h
      obtain ⟨rfl, rfl, rfl, rfl, rfl⟩ := in5 h
      exact fun H locs ls hP hD hS hl => W.wide (by omega) (by omega) (k1 ad1 ha he rfl H locs ls hP hD hS hl)
set_option maxRecDepth 100000 in
set_option maxHeartbeats 4000000 in
theorem s_La_districts (l : Launch) (z : Zz) (ad : Nat → Nat) (E : Ev) (M : Mm) (p0 : Nat) (r : Int) (F : Ev) (N : Mm) (h : f_La_districts E M p0 = some (r, F, N)) : CT l z ⟨"BallothallLaw", "districts", "([I)Z"⟩ method_12_code 13 (some .boolean) [.ref (ad p0)] (wv z ad E M) 4 117 484 11111 (fun u => some (.int (oI r))) (fun u => wv z (adj E ad u) F N) := by
  refine CT.of (own := "BallothallLaw") (by decide +kernel) (Nat.le_of_ble_eq_true rfl) rfl (fun p e s m below meth c A ls hx hb hml hr hts hown hlocks hin hA hG hZ hP hD hS hl => ?_)
  have hl : lv_has ls 13 [(0, .ref (ad p0))] := hl
  have key : ∀ (E0 : Ev) (ad0 : Nat → Nat) (mc ms c0 s0 c1 s1 : Nat) (H : Heap) (locs : List Loc) (args : Array Value), c0 + 484 ≤ c1 → s0 + 11111 ≤ s1 → c1 ≤ mc → s1 ≤ ms → (∀ i, i < nE E0 → ad i = ad0 i) → nE E0 ≤ nE E → (∀ w ∈ WG, w.before args s = true) → va_P z.1 classes (wv z ad E M) H → va_S A s.heap H locs → W p l e (rmK 4 117 mc ms) s m args below meth c H locs c0 s0 (MQ below (QK z A (fun u => some (.int (oI r))) (fun u => wv z (adj E0 ad0 u) F N)) args s c1 s1 A) (F0 m 0 ls []) := by
    intro E0 ad0 mc ms c0 s0 c1 s1 H locs args hc hs hm hm2 hag0 hE0 hts hP hS
    unfold f_La_districts at h
    obtain ⟨h_p0, h⟩ := ck_e h
    obtain ⟨p100, ep100, h⟩ := nb_e h
    obtain ⟨E100, eE100, h⟩ := nb_e h
    obtain ⟨M100, eM100, h⟩ := nb_e h
    refine m_newO (ci := 11) (C := "Ballothall") (T := TX11) (n := 14) hx hb hts iX11 tyX11_ok hown w_32 w_33 w_1 rfl (fun _ => fsX11) hG hP hD hS hA (show _ ≤ mc by omega) (show _ ≤ ms by omega) d_L12_0 (fun ad100 H hag100 hP hD hS => ?_)
    have hP : va_P z.1 classes (wv z ad100 E100 M100) H := by rw [eE100, eM100]; exact hP
    have hD : va_D A (wv z ad100 E100 M100) := by rw [eE100, eM100]; exact hD
    refine W.eq (g2 := F0 m 3 ls (.ref (ad100 p100) :: [])) (by rw [ep100] <;> rfl) ?_
    have hl : lv_has ls 13 [(0, .ref (ad100 p0))] := by rw [hag100 p0 h_p0.1]; exact hl
    have hgw100 : Gw E E100 := by rw [eE100]; exact gw_new _ _
    have hag0 : ∀ i, i < nE E0 → ad100 i = ad0 i := fun i hi => (hag100 i (Nat.lt_of_lt_of_le hi hE0)).trans (hag0 i hi)
    have hE0 : nE E0 ≤ nE E100 := Nat.le_trans hE0 hgw100.1
    have h_p0 : isIA E100 p0 := isA_up hgw100 h_p0
    have h_p100 : isO 11 E100 p100 := by rw [ep100, eE100]; exact ⟨new_i _ _, new_T _ _⟩
    refine lv_dup hx hb d_L12_3 rfl ?_
    obtain ⟨⟨E101, M101⟩, g101, h⟩ := bd_e h
    obtain ⟨hgw101, h⟩ := ck_e h
    refine kI (As := []) (rest := [.ref (ad100 p100)]) (s_B_init l z ad100 E100 M100 p100 E101 M101 g101) hx hb hml hown hts w_36 w_34 w_35 rfl w_1 md_22f6df ⟨Nat.le_of_ble_eq_true rfl, Nat.le_of_ble_eq_true rfl⟩ hG hZ hP hD hS hA rfl hl.1 rfl (Nat.le_of_ble_eq_true rfl) d_L12_4 ⟨(show _ ≤ mc by omega), (show _ ≤ ms by omega)⟩ (fun u101 H locs hP hD hS => ?_)
    obtain ⟨ad101, had101⟩ : ∃ q, q = adj E100 ad100 u101 := ⟨_, rfl⟩
    have hP : va_P z.1 classes (wv z ad101 E101 M101) H := by rw [had101]; exact hP
    have hD : va_D A (wv z ad101 E101 M101) := by rw [had101]; exact hD
    have hag101 : ∀ i, i < nE E100 → ad101 i = ad100 i := fun i hi => by rw [had101]; exact adj_lt hi
    have hl : lv_has ls 13 [(0, .ref (ad101 p0))] := by rw [hag101 p0 h_p0.1]; exact hl
    refine W.eq (g2 := F0 m 7 ls [.ref (ad101 p100)]) (by rw [hag101 p100 h_p100.1] <;> rfl) ?_
    have hag0 : ∀ i, i < nE E0 → ad101 i = ad0 i := fun i hi => (hag101 i (Nat.lt_of_lt_of_le hi hE0)).trans (hag0 i hi)
    have hE0 : nE E0 ≤ nE E101 := Nat.le_trans hE0 hgw101.1
    have h_p0 : isIA E101 p0 := isA_up hgw101 h_p0
    have h_p100 : isO 11 E101 p100 := isO_up hgw101 h_p100
    obtain ⟨⟨hL, ep1⟩, h⟩ := ck_e h
    refine W.eq (g2 := F0 m 7 ls [.ref (ad101 1)]) (by rw [ep1] <;> rfl) ?_
    refine lv_astore_n (lv' := [(1, .ref (ad101 1)), (0, .ref (ad101 p0))]) hx hb d_L12_7 rfl hl (by decide) rfl (fun ls hl => ?_)
    refine lv_iconst (v := oI 1) hx hb d_L12_8 (by decide +kernel) ?_
    refine lv_aload_n hx hb d_L12_9 rfl (lv_at hl 1 rfl) ?_
    refine lv_bipush (v := oI 8) hx hb d_L12_10 (by decide +kernel) ?_
    obtain ⟨⟨r102, M102⟩, g102, h⟩ := bd_e h
    refine kS (As := [.ref (ad101 p0), .int (oI 8)]) (rest := [.int (oI 1)]) (s_La_next l z ad101 E101 M101 p0 8 r102 M102 hL g102) hx hb hml hown hts w_797 w_795 w_796 w_0 md_199d8f ⟨Nat.le_of_ble_eq_true rfl, Nat.le_of_ble_eq_true rfl⟩ hG hZ hP hD hS hA rfl hl.1 rfl (Nat.le_of_ble_eq_true rfl) d_L12_12 ⟨(show _ ≤ mc by omega), (show _ ≤ ms by omega)⟩ (fun _ H locs hP hD hS => ?_)
    have hP : va_P z.1 classes (wv z ad101 E101 M102) H := hP
    have hD : va_D A (wv z ad101 E101 M102) := hD
    refine W.eq (g2 := F0 m 15 ls [.int (oI r102), .int (oI 1)]) rfl ?_
    refine lv_iadd hx hb d_L12_15 ?_
    refine nrm (oI_add _ _) ?_
    refine lv_istore_n (lv' := [(2, .int (oI (1 + r102))), (1, .ref (ad101 1)), (0, .ref (ad101 p0))]) hx hb d_L12_16 rfl hl (by decide) rfl (fun ls hl => ?_)
    refine lv_iload_n hx hb d_L12_17 rfl (lv_at hl 0 rfl) ?_
    obtain ⟨ok103, h⟩ := ck_e h
    obtain ⟨p104, ep104, h⟩ := nb_e h
    obtain ⟨E104, eE104, h⟩ := nb_e h
    obtain ⟨M104, eM104, h⟩ := nb_e h
    refine m_newI (x := (1 + r102)) (N := 8) hx hb ok103.1 ok103.2 (by decide) (hts _ w_100) hG hP hD hS hA (show _ ≤ mc by omega) (show _ ≤ ms by omega) d_L12_18 (fun ad104 H hag104 hP hD hS => ?_)
    have hP : va_P z.1 classes (wv z ad104 E104 M104) H := by rw [eE104, eM104]; exact hP
    have hD : va_D A (wv z ad104 E104 M104) := by rw [eE104, eM104]; exact hD
    refine W.eq (g2 := F0 m 20 ls (.ref (ad104 p104) :: [])) (by rw [ep104] <;> rfl) ?_
    have hl : lv_has ls 13 [(2, .int (oI (1 + r102))), (1, .ref (ad104 1)), (0, .ref (ad104 p0))] := by rw [hag104 1 (yi_1 hL), hag104 p0 h_p0.1]; exact hl
    have hgw104 : Gw E101 E104 := by rw [eE104]; exact gw_new _ _
    have hL104 : Lay E104 := by rw [eE104]; exact lay_new hL
    have hag0 : ∀ i, i < nE E0 → ad104 i = ad0 i := fun i hi => (hag104 i (Nat.lt_of_lt_of_le hi hE0)).trans (hag0 i hi)
    have hE0 : nE E0 ≤ nE E104 := Nat.le_trans hE0 hgw104.1
    have hL : Lay E104 := hL104
    have h_p0 : isIA E104 p0 := isA_up hgw104 h_p0
    have h_p104 : isIA E104 p104 := by rw [ep104, eE104]; exact ⟨new_i _ _, by rw [new_T]⟩
    refine lv_astore_n (lv' := [(3, .ref (ad104 p104)), (2, .int (oI (1 + r102))), (1, .ref (ad104 1)), (0, .ref (ad104 p0))]) hx hb d_L12_20 rfl hl (by decide) rfl (fun ls hl => ?_)
    refine lv_iconst (v := oI 0) hx hb d_L12_21 (by decide +kernel) ?_
    refine lv_istore (lv' := [(4, .int (oI 0)), (3, .ref (ad104 p104)), (2, .int (oI (1 + r102))), (1, .ref (ad104 1)), (0, .ref (ad104 p0))]) hx hb d_L12_22 hl (by decide) rfl (fun ls hl => ?_)
    obtain ⟨⟨t112, v112_4, E112, M112⟩, g112, h⟩ := bd_e h
    obtain ⟨hgw112, h⟩ := ck_e h
    obtain ⟨hL112, h⟩ := ck_e h
    obtain ⟨ok112, h⟩ := ck_e h
    refine s_La_districts_24 l z E104 ad104 p0 (1 + r102) p104 hx hb hml hts hown hlocks hA hG hZ mc ms (c0 + 351) (s0 + 10047) (by omega) (by omega) 5000 _ _ ad104 E104 M104 0 t112 v112_4 E112 M112 (by omega) (by omega) (fun _ _ => rfl) (Nat.le_refl _) g112 (fun ad112 hag112 hEE112 e112 H locs ls hP hD hS hl => ?_) H locs ls hP hD hS (lv_sub hl [4, 3, 2, 1, 0] rfl)
    have hag0 : ∀ i, i < nE E0 → ad112 i = ad0 i := fun i hi => (hag112 i (Nat.lt_of_lt_of_le hi hE0)).trans (hag0 i hi)
    have hE0 : nE E0 ≤ nE E112 := Nat.le_trans hE0 hgw112.1
    have hL : Lay E112 := hL112
    have h_p0 : isIA E112 p0 := isA_up hgw112 h_p0
    have h_p104 : isIA E112 p104 := isA_up hgw112 h_p104
    refine lv_iconst (v := oI 1) hx hb d_L12_70 (by decide +kernel) ?_
    refine lv_aload_n hx hb d_L12_71 rfl (lv_at hl 0 rfl) ?_
    refine lv_iload_n hx hb d_L12_72 rfl (lv_at hl 2 rfl) ?_
    obtain ⟨⟨r113, M113⟩, g113, h⟩ := bd_e h
    refine kS (As := [.ref (ad112 p0), .int (oI (1 + r102))]) (rest := [.int (oI 1)]) (s_La_next l z ad112 E112 M112 p0 (1 + r102) r113 M113 hL g113) hx hb hml hown hts w_797 w_795 w_796 w_0 md_199d8f ⟨Nat.le_of_ble_eq_true rfl, Nat.le_of_ble_eq_true rfl⟩ hG hZ hP hD hS hA rfl hl.1 rfl (Nat.le_of_ble_eq_true rfl) d_L12_73 ⟨(show _ ≤ mc by omega), (show _ ≤ ms by omega)⟩ (fun _ H locs hP hD hS => ?_)
    have hP : va_P z.1 classes (wv z ad112 E112 M113) H := hP
    have hD : va_D A (wv z ad112 E112 M113) := hD
    refine W.eq (g2 := F0 m 76 ls [.int (oI r113), .int (oI 1)]) rfl ?_
    refine lv_iadd hx hb d_L12_76 ?_
    refine nrm (oI_add _ _) ?_
    refine lv_istore (lv' := [(4, .int (oI (1 + r113))), (0, .ref (ad112 p0)), (1, .ref (ad112 1)), (2, .int (oI (1 + r102))), (3, .ref (ad112 p104))]) hx hb d_L12_77 hl (by decide) rfl (fun ls hl => ?_)
    refine lv_sipush (v := oI 1000) hx hb d_L12_79 (by decide +kernel) ?_
    refine lv_istore (lv' := [(5, .int (oI 1000)), (4, .int (oI (1 + r113))), (0, .ref (ad112 p0)), (1, .ref (ad112 1)), (2, .int (oI (1 + r102))), (3, .ref (ad112 p104))]) hx hb d_L12_82 hl (by decide) rfl (fun ls hl => ?_)
    refine lv_iload hx hb d_L12_84 (lv_at hl 1 rfl) ?_
    obtain ⟨ok114, h⟩ := ck_e h
    obtain ⟨p115, ep115, h⟩ := nb_e h
    obtain ⟨E115, eE115, h⟩ := nb_e h
    obtain ⟨M115, eM115, h⟩ := nb_e h
    refine m_newI (x := (1 + r113)) (N := 8) hx hb ok114.1 ok114.2 (by decide) (hts _ w_100) hG hP hD hS hA (show _ ≤ mc by omega) (show _ ≤ ms by omega) d_L12_86 (fun ad115 H hag115 hP hD hS => ?_)
    have hP : va_P z.1 classes (wv z ad115 E115 M115) H := by rw [eE115, eM115]; exact hP
    have hD : va_D A (wv z ad115 E115 M115) := by rw [eE115, eM115]; exact hD
    refine W.eq (g2 := F0 m 88 ls (.ref (ad115 p115) :: [])) (by rw [ep115] <;> rfl) ?_
    have hl : lv_has ls 13 [(5, .int (oI 1000)), (4, .int (oI (1 + r113))), (0, .ref (ad115 p0)), (1, .ref (ad115 1)), (2, .int (oI (1 + r102))), (3, .ref (ad115 p104))] := by rw [hag115 p0 h_p0.1, hag115 1 (yi_1 hL), hag115 p104 h_p104.1]; exact hl
    have hgw115 : Gw E112 E115 := by rw [eE115]; exact gw_new _ _
    have hL115 : Lay E115 := by rw [eE115]; exact lay_new hL
    have hag0 : ∀ i, i < nE E0 → ad115 i = ad0 i := fun i hi => (hag115 i (Nat.lt_of_lt_of_le hi hE0)).trans (hag0 i hi)
    have hE0 : nE E0 ≤ nE E115 := Nat.le_trans hE0 hgw115.1
    have hL : Lay E115 := hL115
    have h_p0 : isIA E115 p0 := isA_up hgw115 h_p0
    have h_p104 : isIA E115 p104 := isA_up hgw115 h_p104
    have h_p115 : isIA E115 p115 := by rw [ep115, eE115]; exact ⟨new_i _ _, by rw [new_T]⟩
    refine lv_astore (lv' := [(6, .ref (ad115 p115)), (5, .int (oI 1000)), (4, .int (oI (1 + r113))), (0, .ref (ad115 p0)), (1, .ref (ad115 1)), (2, .int (oI (1 + r102))), (3, .ref (ad115 p104))]) hx hb d_L12_88 hl (by decide) rfl (fun ls hl => ?_)
    refine lv_iconst (v := oI 0) hx hb d_L12_90 (by decide +kernel) ?_
    refine lv_istore (lv' := [(7, .int (oI 0)), (6, .ref (ad115 p115)), (5, .int (oI 1000)), (4, .int (oI (1 + r113))), (0, .ref (ad115 p0)), (1, .ref (ad115 1)), (2, .int (oI (1 + r102))), (3, .ref (ad115 p104))]) hx hb d_L12_91 hl (by decide) rfl (fun ls hl => ?_)
    obtain ⟨⟨t147, v147_5, v147_6, v147_7, E147, M147⟩, g147, h⟩ := bd_e h
    obtain ⟨hgw147, h⟩ := ck_e h
    obtain ⟨hL147, h⟩ := ck_e h
    obtain ⟨ok147, h⟩ := ck_e h
    refine s_La_districts_93 l z E115 ad115 (1 + r102) p104 (1 + r113) hx hb hml hts hown hlocks hA hG hZ mc ms (c0 + 484) (s0 + 11111) (by omega) (by omega) 132 _ _ ad115 E115 M115 1000 p115 0 t147 v147_5 v147_6 v147_7 E147 M147 (by omega) (by omega) (fun _ _ => rfl) (Nat.le_refl _) g147 (fun ad147 hag147 hEE147 e147 H locs ls hP hD hS hl => ?_) H locs ls hP hD hS (lv_sub hl [5, 6, 7, 3, 2, 1, 0] rfl)
    have hag0 : ∀ i, i < nE E0 → ad147 i = ad0 i := fun i hi => (hag147 i (Nat.lt_of_lt_of_le hi hE0)).trans (hag0 i hi)
    have hE0 : nE E0 ≤ nE E147 := Nat.le_trans hE0 hgw147.1
    have hL : Lay E147 := hL147
    obtain ⟨h_v147_6, h⟩ := ck_e h
    refine lv_aload_n hx hb d_L12_270 rfl (lv_at hl 0 rfl) ?_
    refine lv_iload hx hb d_L12_271 (lv_at hl 1 rfl) ?_
    obtain ⟨⟨r148, M148⟩, g148, h⟩ := bd_e h
    refine kV (As := [.int (oI (1 + r113))]) (rest := []) (s_B_greatestDistrict l z ad147 E147 M147 (1 + r113) r148 M148 hL g148) hx hb hml hown hts w_1617 w_1614 w_1615 w_1616 w_1 md_ce4f47 ⟨Nat.le_of_ble_eq_true rfl, Nat.le_of_ble_eq_true rfl⟩ hG hZ hP hD hS hA 1 (wv_o (ci := 11) (yi_1 hL) (yt_1 hL)) rfl rfl rfl hl.1 rfl (Nat.le_of_ble_eq_true rfl) d_L12_273 ⟨(show _ ≤ mc by omega), (show _ ≤ ms by omega)⟩ (fun _ H locs hP hD hS => ?_)
    have hP : va_P z.1 classes (wv z ad147 E147 M148) H := hP
    have hD : va_D A (wv z ad147 E147 M148) := hD
    refine W.eq (g2 := F0 m 276 ls [.int (oI r148)]) rfl ?_
    refine lv_iload hx hb d_L12_276 (lv_at hl 2 rfl) ?_
    obtain ⟨ok149, h⟩ := ck_e h
    obtain ⟨ok150, h⟩ := ck_e h
    refine lv_icmp_ne (tgt := 285) hx hb d_L12_278 (by decide) (fun c9 => ?_) (fun c9 => ?_)
    · have h := ite_f (fun q => c9 ((oI_eq (a := r148) (b := v147_5) ok149 ok150).mpr q)) h
      refine lv_iconst (v := oI 0) hx hb d_L12_285 (by decide +kernel) ?_
      refine lv_istore (lv' := [(7, .int (oI 0)), (1, .ref (ad147 1)), (4, .int (oI (1 + r113))), (5, .int (oI v147_5)), (6, .ref (ad147 v147_6))]) hx hb d_L12_286 hl (by decide) rfl (fun ls hl => ?_)
      refine lv_iconst (v := oI 0) hx hb d_L12_288 (by decide +kernel) ?_
      refine lv_istore (lv' := [(8, .int (oI 0)), (7, .int (oI 0)), (1, .ref (ad147 1)), (4, .int (oI (1 + r113))), (5, .int (oI v147_5)), (6, .ref (ad147 v147_6))]) hx hb d_L12_289 hl (by decide) rfl (fun ls hl => ?_)
      obtain ⟨⟨t158, v158_7, v158_8, E158, M158⟩, g158, h⟩ := bd_e h
      obtain ⟨hgw158, h⟩ := ck_e h
      obtain ⟨hL158, h⟩ := ck_e h
      obtain ⟨ok158, h⟩ := ck_e h
      refine s_La_districts_291 l z E147 ad147 (1 + r113) v147_6 hx hb hml hts hown hlocks hA hG hZ mc ms (c0 + 484) (s0 + 11111) (by omega) (by omega) 5000 _ _ ad147 E147 M148 0 0 t158 v158_7 v158_8 E158 M158 (by omega) (by omega) (fun _ _ => rfl) (Nat.le_refl _) g158 (fun ad158 hag158 hEE158 e158 H locs ls hP hD hS hl => ?_) H locs ls hP hD hS (lv_sub hl [2, 3, 5, 1, 0] rfl)
      have hag0 : ∀ i, i < nE E0 → ad158 i = ad0 i := fun i hi => (hag158 i (Nat.lt_of_lt_of_le hi hE0)).trans (hag0 i hi)
      have hE0 : nE E0 ≤ nE E158 := Nat.le_trans hE0 hgw158.1
      have hL : Lay E158 := hL158
      refine lv_iload hx hb d_L12_332 (lv_at hl 2 rfl) ?_
      obtain ⟨ok159, h⟩ := ck_e h
      refine lv_if_eq (tgt := 381) hx hb d_L12_334 (by decide) (fun c9 => ?_) (fun c9 => ?_)
      · have h := ite_t ((oI_eq0 ok159).mp c9) h
        refine lv_iconst (v := oI 0) hx hb d_L12_381 (by decide +kernel) ?_
        refine W.wide (k := c1) (n := s1) (by omega) (by omega) ?_
        obtain ⟨rfl, rfl, rfl⟩ := in3 h
        exact W.zret hx hb hr rfl (fun t ht hW => qkA hP hD hS ad158 (congrArg (fun q => wv z q E158 M158) (adj_self hag0).symm) rfl ht) hS.2.2 d_L12_382
      · have h := ite_f (fun q => c9 ((oI_eq0 ok159).mpr q)) h
        refine lv_aload_n hx hb d_L12_337 rfl (lv_at hl 0 rfl) ?_
        refine lv_iload hx hb d_L12_338 (lv_at hl 1 rfl) ?_
        refine lv_iconst (v := oI 0) hx hb d_L12_340 (by decide +kernel) ?_
        obtain ⟨⟨r160, M160⟩, g160, h⟩ := bd_e h
        refine kV (As := [.int (oI (1 + r113)), .int (oI 0)]) (rest := []) (s_B_districtsWon l z ad158 E158 M158 (1 + r113) 0 r160 M160 hL g160) hx hb hml hown hts w_1644 w_1641 w_1642 w_1643 w_1 md_9e18c6 ⟨Nat.le_of_ble_eq_true rfl, Nat.le_of_ble_eq_true rfl⟩ hG hZ hP hD hS hA 1 (wv_o (ci := 11) (yi_1 hL) (yt_1 hL)) rfl rfl rfl hl.1 rfl (Nat.le_of_ble_eq_true rfl) d_L12_341 ⟨(show _ ≤ mc by omega), (show _ ≤ ms by omega)⟩ (fun _ H locs hP hD hS => ?_)
        have hP : va_P z.1 classes (wv z ad158 E158 M160) H := hP
        have hD : va_D A (wv z ad158 E158 M160) := hD
        refine W.eq (g2 := F0 m 344 ls [.int (oI r160)]) rfl ?_
        refine lv_aload_n hx hb d_L12_344 rfl (lv_at hl 0 rfl) ?_
        refine lv_iload hx hb d_L12_345 (lv_at hl 1 rfl) ?_
        refine lv_iconst (v := oI 1) hx hb d_L12_347 (by decide +kernel) ?_
        obtain ⟨⟨r161, M161⟩, g161, h⟩ := bd_e h
        refine kV (As := [.int (oI (1 + r113)), .int (oI 1)]) (rest := [.int (oI r160)]) (s_B_districtsWon l z ad158 E158 M160 (1 + r113) 1 r161 M161 hL g161) hx hb hml hown hts w_1644 w_1641 w_1642 w_1643 w_1 md_9e18c6 ⟨Nat.le_of_ble_eq_true rfl, Nat.le_of_ble_eq_true rfl⟩ hG hZ hP hD hS hA 1 (wv_o (ci := 11) (yi_1 hL) (yt_1 hL)) rfl rfl rfl hl.1 rfl (Nat.le_of_ble_eq_true rfl) d_L12_348 ⟨(show _ ≤ mc by omega), (show _ ≤ ms by omega)⟩ (fun _ H locs hP hD hS => ?_)
        have hP : va_P z.1 classes (wv z ad158 E158 M161) H := hP
        have hD : va_D A (wv z ad158 E158 M161) := hD
        refine W.eq (g2 := F0 m 351 ls [.int (oI r161), .int (oI r160)]) rfl ?_
        refine lv_iadd hx hb d_L12_351 ?_
        refine nrm (oI_add _ _) ?_
        refine lv_iload hx hb d_L12_352 (lv_at hl 1 rfl) ?_
        obtain ⟨ok162, h⟩ := ck_e h
        obtain ⟨ok163, h⟩ := ck_e h
        refine lv_icmp_gt (tgt := 381) hx hb d_L12_354 (by decide) (fun c9 => ?_) (fun c9 => ?_)
        · have h := ite_t ((oI_lt (a := (1 + r113)) (b := (r160 + r161)) ok163 ok162).mp c9) h
          refine lv_iconst (v := oI 0) hx hb d_L12_381 (by decide +kernel) ?_
          refine W.wide (k := c1) (n := s1) (by omega) (by omega) ?_
          obtain ⟨rfl, rfl, rfl⟩ := in3 h
          exact W.zret hx hb hr rfl (fun t ht hW => qkA hP hD hS ad158 (congrArg (fun q => wv z q E158 M161) (adj_self hag0).symm) rfl ht) hS.2.2 d_L12_382
        · have h := ite_f (fun q => c9 ((oI_lt (a := (1 + r113)) (b := (r160 + r161)) ok163 ok162).mpr q)) h
          refine lv_aload_n hx hb d_L12_357 rfl (lv_at hl 0 rfl) ?_
          refine lv_iload hx hb d_L12_358 (lv_at hl 1 rfl) ?_
          refine lv_iconst (v := oI 0) hx hb d_L12_360 (by decide +kernel) ?_
          obtain ⟨⟨r164, M164⟩, g164, h⟩ := bd_e h
          refine kV (As := [.int (oI (1 + r113)), .int (oI 0)]) (rest := []) (s_B_wasted l z ad158 E158 M161 (1 + r113) 0 r164 M164 hL g164) hx hb hml hown hts w_1652 w_1649 w_1650 w_1651 w_1 md_0ebbab ⟨Nat.le_of_ble_eq_true rfl, Nat.le_of_ble_eq_true rfl⟩ hG hZ hP hD hS hA 1 (wv_o (ci := 11) (yi_1 hL) (yt_1 hL)) rfl rfl rfl hl.1 rfl (Nat.le_of_ble_eq_true rfl) d_L12_361 ⟨(show _ ≤ mc by omega), (show _ ≤ ms by omega)⟩ (fun _ H locs hP hD hS => ?_)
          have hP : va_P z.1 classes (wv z ad158 E158 M164) H := hP
          have hD : va_D A (wv z ad158 E158 M164) := hD
          refine W.eq (g2 := F0 m 364 ls [.int (oI r164)]) rfl ?_
          obtain ⟨ok165, h⟩ := ck_e h
          refine lv_if_lt (tgt := 381) hx hb d_L12_364 (by decide) (fun c9 => ?_) (fun c9 => ?_)
          · have h := ite_t ((oI_lt0 ok165).mp c9) h
            refine lv_iconst (v := oI 0) hx hb d_L12_381 (by decide +kernel) ?_
            refine W.wide (k := c1) (n := s1) (by omega) (by omega) ?_
            obtain ⟨rfl, rfl, rfl⟩ := in3 h
            exact W.zret hx hb hr rfl (fun t ht hW => qkA hP hD hS ad158 (congrArg (fun q => wv z q E158 M164) (adj_self hag0).symm) rfl ht) hS.2.2 d_L12_382
          · have h := ite_f (fun q => c9 ((oI_lt0 ok165).mpr q)) h
            refine lv_aload_n hx hb d_L12_367 rfl (lv_at hl 0 rfl) ?_
            refine lv_iload hx hb d_L12_368 (lv_at hl 1 rfl) ?_
            refine lv_iconst (v := oI 1) hx hb d_L12_370 (by decide +kernel) ?_
            obtain ⟨⟨r166, M166⟩, g166, h⟩ := bd_e h
            refine kV (As := [.int (oI (1 + r113)), .int (oI 1)]) (rest := []) (s_B_wasted l z ad158 E158 M164 (1 + r113) 1 r166 M166 hL g166) hx hb hml hown hts w_1652 w_1649 w_1650 w_1651 w_1 md_0ebbab ⟨Nat.le_of_ble_eq_true rfl, Nat.le_of_ble_eq_true rfl⟩ hG hZ hP hD hS hA 1 (wv_o (ci := 11) (yi_1 hL) (yt_1 hL)) rfl rfl rfl hl.1 rfl (Nat.le_of_ble_eq_true rfl) d_L12_371 ⟨(show _ ≤ mc by omega), (show _ ≤ ms by omega)⟩ (fun _ H locs hP hD hS => ?_)
            have hP : va_P z.1 classes (wv z ad158 E158 M166) H := hP
            have hD : va_D A (wv z ad158 E158 M166) := hD
            refine W.eq (g2 := F0 m 374 ls [.int (oI r166)]) rfl ?_
            obtain ⟨ok167, h⟩ := ck_e h
            refine lv_if_lt (tgt := 381) hx hb d_L12_374 (by decide) (fun c9 => ?_) (fun c9 => ?_)
            · have h := ite_t ((oI_lt0 ok167).mp c9) h
              refine lv_iconst (v := oI 0) hx hb d_L12_381 (by decide +kernel) ?_
              refine W.wide (k := c1) (n := s1) (by omega) (by omega) ?_
              obtain ⟨rfl, rfl, rfl⟩ := in3 h
              exact W.zret hx hb hr rfl (fun t ht hW => qkA hP hD hS ad158 (congrArg (fun q => wv z q E158 M166) (adj_self hag0).symm) rfl ht) hS.2.2 d_L12_382
            · have h := ite_f (fun q => c9 ((oI_lt0 ok167).mpr q)) h
              refine lv_iconst (v := oI 1) hx hb d_L12_377 (by decide +kernel) ?_
              refine lv_goto (tgt := 382) hx hb d_L12_378 (by decide) ?_
              refine W.wide (k := c1) (n := s1) (by omega) (by omega) ?_
              obtain ⟨rfl, rfl, rfl⟩ := in3 h
              exact W.zret hx hb hr rfl (fun t ht hW => qkA hP hD hS ad158 (congrArg (fun q => wv z q E158 M166) (adj_self hag0).symm) rfl ht) hS.2.2 d_L12_382
    · have h := ite_t ((oI_eq (a := r148) (b := v147_5) ok149 ok150).mp c9) h
      refine lv_iconst (v := oI 1) hx hb d_L12_281 (by decide +kernel) ?_
      refine lv_goto (tgt := 286) hx hb d_L12_282 (by decide) ?_
      refine lv_istore (lv' := [(7, .int (oI 1)), (1, .ref (ad147 1)), (4, .int (oI (1 + r113))), (5, .int (oI v147_5)), (6, .ref (ad147 v147_6))]) hx hb d_L12_286 hl (by decide) rfl (fun ls hl => ?_)
      refine lv_iconst (v := oI 0) hx hb d_L12_288 (by decide +kernel) ?_
      refine lv_istore (lv' := [(8, .int (oI 0)), (7, .int (oI 1)), (1, .ref (ad147 1)), (4, .int (oI (1 + r113))), (5, .int (oI v147_5)), (6, .ref (ad147 v147_6))]) hx hb d_L12_289 hl (by decide) rfl (fun ls hl => ?_)
      obtain ⟨⟨t168, v168_7, v168_8, E168, M168⟩, g168, h⟩ := bd_e h
      obtain ⟨hgw168, h⟩ := ck_e h
      obtain ⟨hL168, h⟩ := ck_e h
      obtain ⟨ok168, h⟩ := ck_e h
      refine s_La_districts_291 l z E147 ad147 (1 + r113) v147_6 hx hb hml hts hown hlocks hA hG hZ mc ms (c0 + 484) (s0 + 11111) (by omega) (by omega) 5000 _ _ ad147 E147 M148 1 0 t168 v168_7 v168_8 E168 M168 (by omega) (by omega) (fun _ _ => rfl) (Nat.le_refl _) g168 (fun ad168 hag168 hEE168 e168 H locs ls hP hD hS hl => ?_) H locs ls hP hD hS (lv_sub hl [2, 3, 5, 1, 0] rfl)
      have hag0 : ∀ i, i < nE E0 → ad168 i = ad0 i := fun i hi => (hag168 i (Nat.lt_of_lt_of_le hi hE0)).trans (hag0 i hi)
      have hE0 : nE E0 ≤ nE E168 := Nat.le_trans hE0 hgw168.1
      have hL : Lay E168 := hL168
      refine lv_iload hx hb d_L12_332 (lv_at hl 2 rfl) ?_
      obtain ⟨ok169, h⟩ := ck_e h
      refine lv_if_eq (tgt := 381) hx hb d_L12_334 (by decide) (fun c9 => ?_) (fun c9 => ?_)
      · have h := ite_t ((oI_eq0 ok169).mp c9) h
        refine lv_iconst (v := oI 0) hx hb d_L12_381 (by decide +kernel) ?_
        refine W.wide (k := c1) (n := s1) (by omega) (by omega) ?_
        obtain ⟨rfl, rfl, rfl⟩ := in3 h
        exact W.zret hx hb hr rfl (fun t ht hW => qkA hP hD hS ad168 (congrArg (fun q => wv z q E168 M168) (adj_self hag0).symm) rfl ht) hS.2.2 d_L12_382
      · have h := ite_f (fun q => c9 ((oI_eq0 ok169).mpr q)) h
        refine lv_aload_n hx hb d_L12_337 rfl (lv_at hl 0 rfl) ?_
        refine lv_iload hx hb d_L12_338 (lv_at hl 1 rfl) ?_
        refine lv_iconst (v := oI 0) hx hb d_L12_340 (by decide +kernel) ?_
        obtain ⟨⟨r170, M170⟩, g170, h⟩ := bd_e h
        refine kV (As := [.int (oI (1 + r113)), .int (oI 0)]) (rest := []) (s_B_districtsWon l z ad168 E168 M168 (1 + r113) 0 r170 M170 hL g170) hx hb hml hown hts w_1644 w_1641 w_1642 w_1643 w_1 md_9e18c6 ⟨Nat.le_of_ble_eq_true rfl, Nat.le_of_ble_eq_true rfl⟩ hG hZ hP hD hS hA 1 (wv_o (ci := 11) (yi_1 hL) (yt_1 hL)) rfl rfl rfl hl.1 rfl (Nat.le_of_ble_eq_true rfl) d_L12_341 ⟨(show _ ≤ mc by omega), (show _ ≤ ms by omega)⟩ (fun _ H locs hP hD hS => ?_)
        have hP : va_P z.1 classes (wv z ad168 E168 M170) H := hP
        have hD : va_D A (wv z ad168 E168 M170) := hD
        refine W.eq (g2 := F0 m 344 ls [.int (oI r170)]) rfl ?_
        refine lv_aload_n hx hb d_L12_344 rfl (lv_at hl 0 rfl) ?_
        refine lv_iload hx hb d_L12_345 (lv_at hl 1 rfl) ?_
        refine lv_iconst (v := oI 1) hx hb d_L12_347 (by decide +kernel) ?_
        obtain ⟨⟨r171, M171⟩, g171, h⟩ := bd_e h
        refine kV (As := [.int (oI (1 + r113)), .int (oI 1)]) (rest := [.int (oI r170)]) (s_B_districtsWon l z ad168 E168 M170 (1 + r113) 1 r171 M171 hL g171) hx hb hml hown hts w_1644 w_1641 w_1642 w_1643 w_1 md_9e18c6 ⟨Nat.le_of_ble_eq_true rfl, Nat.le_of_ble_eq_true rfl⟩ hG hZ hP hD hS hA 1 (wv_o (ci := 11) (yi_1 hL) (yt_1 hL)) rfl rfl rfl hl.1 rfl (Nat.le_of_ble_eq_true rfl) d_L12_348 ⟨(show _ ≤ mc by omega), (show _ ≤ ms by omega)⟩ (fun _ H locs hP hD hS => ?_)
        have hP : va_P z.1 classes (wv z ad168 E168 M171) H := hP
        have hD : va_D A (wv z ad168 E168 M171) := hD
        refine W.eq (g2 := F0 m 351 ls [.int (oI r171), .int (oI r170)]) rfl ?_
        refine lv_iadd hx hb d_L12_351 ?_
        refine nrm (oI_add _ _) ?_
        refine lv_iload hx hb d_L12_352 (lv_at hl 1 rfl) ?_
        obtain ⟨ok172, h⟩ := ck_e h
        obtain ⟨ok173, h⟩ := ck_e h
        refine lv_icmp_gt (tgt := 381) hx hb d_L12_354 (by decide) (fun c9 => ?_) (fun c9 => ?_)
        · have h := ite_t ((oI_lt (a := (1 + r113)) (b := (r170 + r171)) ok173 ok172).mp c9) h
          refine lv_iconst (v := oI 0) hx hb d_L12_381 (by decide +kernel) ?_
          refine W.wide (k := c1) (n := s1) (by omega) (by omega) ?_
          obtain ⟨rfl, rfl, rfl⟩ := in3 h
          exact W.zret hx hb hr rfl (fun t ht hW => qkA hP hD hS ad168 (congrArg (fun q => wv z q E168 M171) (adj_self hag0).symm) rfl ht) hS.2.2 d_L12_382
        · have h := ite_f (fun q => c9 ((oI_lt (a := (1 + r113)) (b := (r170 + r171)) ok173 ok172).mpr q)) h
          refine lv_aload_n hx hb d_L12_357 rfl (lv_at hl 0 rfl) ?_
          refine lv_iload hx hb d_L12_358 (lv_at hl 1 rfl) ?_
          refine lv_iconst (v := oI 0) hx hb d_L12_360 (by decide +kernel) ?_
          obtain ⟨⟨r174, M174⟩, g174, h⟩ := bd_e h
          refine kV (As := [.int (oI (1 + r113)), .int (oI 0)]) (rest := []) (s_B_wasted l z ad168 E168 M171 (1 + r113) 0 r174 M174 hL g174) hx hb hml hown hts w_1652 w_1649 w_1650 w_1651 w_1 md_0ebbab ⟨Nat.le_of_ble_eq_true rfl, Nat.le_of_ble_eq_true rfl⟩ hG hZ hP hD hS hA 1 (wv_o (ci := 11) (yi_1 hL) (yt_1 hL)) rfl rfl rfl hl.1 rfl (Nat.le_of_ble_eq_true rfl) d_L12_361 ⟨(show _ ≤ mc by omega), (show _ ≤ ms by omega)⟩ (fun _ H locs hP hD hS => ?_)
          have hP : va_P z.1 classes (wv z ad168 E168 M174) H := hP
          have hD : va_D A (wv z ad168 E168 M174) := hD
          refine W.eq (g2 := F0 m 364 ls [.int (oI r174)]) rfl ?_
          obtain ⟨ok175, h⟩ := ck_e h
          refine lv_if_lt (tgt := 381) hx hb d_L12_364 (by decide) (fun c9 => ?_) (fun c9 => ?_)
          · have h := ite_t ((oI_lt0 ok175).mp c9) h
            refine lv_iconst (v := oI 0) hx hb d_L12_381 (by decide +kernel) ?_
            refine W.wide (k := c1) (n := s1) (by omega) (by omega) ?_
            obtain ⟨rfl, rfl, rfl⟩ := in3 h
            exact W.zret hx hb hr rfl (fun t ht hW => qkA hP hD hS ad168 (congrArg (fun q => wv z q E168 M174) (adj_self hag0).symm) rfl ht) hS.2.2 d_L12_382
          · have h := ite_f (fun q => c9 ((oI_lt0 ok175).mpr q)) h
            refine lv_aload_n hx hb d_L12_367 rfl (lv_at hl 0 rfl) ?_
            refine lv_iload hx hb d_L12_368 (lv_at hl 1 rfl) ?_
            refine lv_iconst (v := oI 1) hx hb d_L12_370 (by decide +kernel) ?_
            obtain ⟨⟨r176, M176⟩, g176, h⟩ := bd_e h
            refine kV (As := [.int (oI (1 + r113)), .int (oI 1)]) (rest := []) (s_B_wasted l z ad168 E168 M174 (1 + r113) 1 r176 M176 hL g176) hx hb hml hown hts w_1652 w_1649 w_1650 w_1651 w_1 md_0ebbab ⟨Nat.le_of_ble_eq_true rfl, Nat.le_of_ble_eq_true rfl⟩ hG hZ hP hD hS hA 1 (wv_o (ci := 11) (yi_1 hL) (yt_1 hL)) rfl rfl rfl hl.1 rfl (Nat.le_of_ble_eq_true rfl) d_L12_371 ⟨(show _ ≤ mc by omega), (show _ ≤ ms by omega)⟩ (fun _ H locs hP hD hS => ?_)
            have hP : va_P z.1 classes (wv z ad168 E168 M176) H := hP
            have hD : va_D A (wv z ad168 E168 M176) := hD
            refine W.eq (g2 := F0 m 374 ls [.int (oI r176)]) rfl ?_
            obtain ⟨ok177, h⟩ := ck_e h
            refine lv_if_lt (tgt := 381) hx hb d_L12_374 (by decide) (fun c9 => ?_) (fun c9 => ?_)
            · have h := ite_t ((oI_lt0 ok177).mp c9) h
              refine lv_iconst (v := oI 0) hx hb d_L12_381 (by decide +kernel) ?_
              refine W.wide (k := c1) (n := s1) (by omega) (by omega) ?_
              obtain ⟨rfl, rfl, rfl⟩ := in3 h
              exact W.zret hx hb hr rfl (fun t ht hW => qkA hP hD hS ad168 (congrArg (fun q => wv z q E168 M176) (adj_self hag0).symm) rfl ht) hS.2.2 d_L12_382
            · have h := ite_f (fun q => c9 ((oI_lt0 ok177).mpr q)) h
              refine lv_iconst (v := oI 1) hx hb d_L12_377 (by decide +kernel) ?_
              refine lv_goto (tgt := 382) hx hb d_L12_378 (by decide) ?_
              refine W.wide (k := c1) (n := s1) (by omega) (by omega) ?_
              obtain ⟨rfl, rfl, rfl⟩ := in3 h
              exact W.zret hx hb hr rfl (fun t ht hW => qkA hP hD hS ad168 (congrArg (fun q => wv z q E168 M176) (adj_self hag0).symm) rfl ht) hS.2.2 d_L12_382
  exact key E ad 484 11111 0 0 484 11111 _ _ _ (by decide) (by decide) (by decide) (by decide) (fun _ _ => rfl) (Nat.le_refl _) hts hP hS
set_option maxRecDepth 100000 in
set_option maxHeartbeats 4000000 in
theorem s_Cl_append (l : Launch) (z : Zz) (ad : Nat → Nat) (E : Ev) (M : Mm) (x1 : Int) (r : Int) (N : Mm) (hL : Lay E) (h : f_Cl_append E M x1 = some (r, N)) : CT l z ⟨"Ballothall$Council", "append", "(I)I"⟩ prog_3_method_2_code 3 (some .int) [.ref (ad 243), .int (oI x1)] (wv z ad E M) 0 20 0 0 (fun _ => some (.int (oI r))) (fun _ => (wv z ad E N)) := by
  refine CT.of (own := "Ballothall$Council") (by decide +kernel) (Nat.le_of_ble_eq_true rfl) rfl (fun p e s m below meth c A ls hx hb hml hr hts hown hlocks hin hA hG hZ hP hD hS hl => ?_)
  have hl : lv_has ls 3 [(0, .ref (ad 243)), (1, .int (oI x1))] := hl
  have key : ∀ (H : Heap) (locs : List Loc) (args : Array Value), (∀ w ∈ WG, w.before args s = true) → va_P z.1 classes (wv z ad E M) H → va_S A s.heap H locs → W p l e (rmK 0 20 0 0) s m args below meth c H locs 0 0 (MQ below (QK z A (fun _ => some (.int (oI r))) (fun _ => (wv z ad E N))) args s 0 0 A) (F0 m 0 ls []) := by
    intro H locs args hts hP hS
    unfold f_Cl_append at h
    refine lv_aload_n hx hb d_3_2_0 rfl (lv_at hl 0 rfl) ?_
    refine m_gi (C := "Ballothall$Council") (T := TX1) (N := 4) (ci := 1) (k := 0) hx hb hts iX1 hown hG hP (yi_243 hL) (yt_243 hL) rfl (by decide) w_382 (fun _ h9 => h9) rfl rfl d_3_2_1 ?_
    refine lv_istore_n (lv' := [(2, .int (oI (M 243 0))), (0, .ref (ad 243)), (1, .int (oI x1))]) hx hb d_3_2_4 rfl hl (by decide) rfl (fun ls hl => ?_)
    refine lv_aload_n hx hb d_3_2_5 rfl (lv_at hl 1 rfl) ?_
    refine m_gr (j := 244) (C := "Ballothall$Council") (T := TX1) (N := 4) (ci := 1) (k := 2) hx hb hts iX1 hown hG hP (yi_243 hL) (yt_243 hL) rfl (by decide) w_386 (fun _ h9 => h9) rfl rfl (yr_243_2 hL) d_3_2_6 ?_
    refine lv_iload_n hx hb d_3_2_9 rfl (lv_at hl 0 rfl) ?_
    refine lv_iload_n hx hb d_3_2_10 rfl (lv_at hl 2 rfl) ?_
    obtain ⟨ok100, h⟩ := ck_e h
    refine m_is hx hb hG hP hD hS (yi_244 hL) (yt_244 hL) ok100 d_3_2_11 (fun H locs hP hD hS => ?_)
    have hP : va_P z.1 classes (wv z ad E (u2 M 244 (M 243 0).toNat x1)) H := hP
    have hD : va_D A (wv z ad E (u2 M 244 (M 243 0).toNat x1)) := hD
    refine lv_aload_n hx hb d_3_2_12 rfl (lv_at hl 1 rfl) ?_
    refine lv_dup hx hb d_3_2_13 rfl ?_
    refine m_gi (C := "Ballothall$Council") (T := TX1) (N := 4) (ci := 1) (k := 0) hx hb hts iX1 hown hG hP (yi_243 hL) (yt_243 hL) rfl (by decide) w_382 (fun _ h9 => h9) rfl rfl d_3_2_14 ?_
    refine lv_iconst (v := oI 1) hx hb d_3_2_17 (by decide +kernel) ?_
    refine lv_iadd hx hb d_3_2_18 ?_
    refine nrm (oI_add _ _) ?_
    refine m_pi (C := "Ballothall$Council") (T := TX1) (N := 4) (ci := 1) (k := 0) (ty := .int) hx hb hts iX1 hown hG hP hD hS (yi_243 hL) (yt_243 hL) rfl (by decide) w_382 (fun _ h9 => h9) rfl rfl tyX1_ok nmX1 rfl (by decide +kernel) rfl rfl d_3_2_19 (fun H locs hP hD hS => ?_)
    have hP : va_P z.1 classes (wv z ad E (u2 (u2 M 244 (M 243 0).toNat x1) 243 0 (((u2 M 244 (M 243 0).toNat x1) 243 0) + 1))) H := hP
    have hD : va_D A (wv z ad E (u2 (u2 M 244 (M 243 0).toNat x1) 243 0 (((u2 M 244 (M 243 0).toNat x1) 243 0) + 1))) := hD
    refine lv_iload_n hx hb d_3_2_22 rfl (lv_at hl 0 rfl) ?_
    obtain ⟨rfl, rfl⟩ := in2 h
    exact W.iret hx hb hr (fun t ht hW => qkA hP hD hS (fun k => k) rfl rfl ht) hS.2.2 d_3_2_23
  exact key _ _ _ hts hP hS
set_option maxRecDepth 100000 in
set_option maxHeartbeats 4000000 in
theorem s_B_member (l : Launch) (z : Zz) (ad : Nat → Nat) (E : Ev) (M : Mm) (x1 : Int) (r : Int) (N : Mm) (hL : Lay E) (h : f_B_member E M x1 = some (r, N)) : CT l z ⟨"Ballothall", "member", "(I)I"⟩ prog_1_method_46_code 3 (some .int) [.ref (ad 1), .int (oI x1)] (wv z ad E M) 2 63 0 0 (fun _ => some (.int (oI r))) (fun _ => (wv z ad E N)) := by
  refine CT.of (own := "Ballothall") (by decide +kernel) (Nat.le_of_ble_eq_true rfl) rfl (fun p e s m below meth c A ls hx hb hml hr hts hown hlocks hin hA hG hZ hP hD hS hl => ?_)
  have hl : lv_has ls 3 [(0, .ref (ad 1)), (1, .int (oI x1))] := hl
  have key : ∀ (H : Heap) (locs : List Loc) (args : Array Value), (∀ w ∈ WG, w.before args s = true) → va_P z.1 classes (wv z ad E M) H → va_S A s.heap H locs → W p l e (rmK 2 63 0 0) s m args below meth c H locs 0 0 (MQ below (QK z A (fun _ => some (.int (oI r))) (fun _ => (wv z ad E N))) args s 0 0 A) (F0 m 0 ls []) := by
    intro H locs args hts hP hS
    unfold f_B_member at h
    refine lv_iload_n hx hb d_1_46_0 rfl (lv_at hl 1 rfl) ?_
    refine lv_iconst (v := oI 0) hx hb d_1_46_1 (by decide +kernel) ?_
    refine lv_sipush (v := oI 1000) hx hb d_1_46_2 (by decide +kernel) ?_
    obtain ⟨_, g100, h⟩ := bd_e h
    refine kS (As := [.int (oI x1), .int (oI 0), .int (oI 1000)]) (rest := []) (s_B_needRange l z ad E M x1 0 1000 hL g100) hx hb hml hown hts w_548 w_546 w_547 w_1 md_519134 ⟨Nat.le_of_ble_eq_true rfl, Nat.le_of_ble_eq_true rfl⟩ hG hZ hP hD hS hA rfl hl.1 rfl (Nat.le_of_ble_eq_true rfl) d_1_46_5 ⟨Nat.le_of_ble_eq_true rfl, Nat.le_of_ble_eq_true rfl⟩ (fun _ H locs hP hD hS => ?_)
    have hP : va_P z.1 classes (wv z ad E M) H := hP
    have hD : va_D A (wv z ad E M) := hD
    refine W.eq (g2 := F0 m 8 ls []) rfl ?_
    refine lv_aload_n hx hb d_1_46_8 rfl (lv_at hl 0 rfl) ?_
    refine m_gr (j := 243) (C := "Ballothall") (T := TX11) (N := 14) (ci := 11) (k := 6) hx hb hts iX11 hown hG hP (yi_1 hL) (yt_1 hL) rfl (by decide) w_403 (fun _ h9 => h9) rfl rfl (yr_1_6 hL) d_1_46_9 ?_
    refine m_giN (C := "Ballothall$Council") (T := TX1) (N := 4) (ci := 1) (k := 0) hx hb hts iX1 hown hG hP (yi_243 hL) (yt_243 hL) rfl (by decide) n_383 rfl (fun _ h9 => h9) rfl rfl d_1_46_12 ?_
    refine lv_iconst (v := oI 1) hx hb d_1_46_15 (by decide +kernel) ?_
    refine lv_iadd hx hb d_1_46_16 ?_
    refine nrm (oI_add _ _) ?_
    refine lv_bipush (v := oI 12) hx hb d_1_46_17 (by decide +kernel) ?_
    obtain ⟨_, g101, h⟩ := bd_e h
    refine kS (As := [.int (oI ((M 243 0) + 1)), .int (oI 12)]) (rest := []) (s_B_needRoom l z ad E M ((M 243 0) + 1) 12 hL g101) hx hb hml hown hts w_446 w_444 w_445 w_1 md_ec9fa9 ⟨Nat.le_of_ble_eq_true rfl, Nat.le_of_ble_eq_true rfl⟩ hG hZ hP hD hS hA rfl hl.1 rfl (Nat.le_of_ble_eq_true rfl) d_1_46_19 ⟨Nat.le_of_ble_eq_true rfl, Nat.le_of_ble_eq_true rfl⟩ (fun _ H locs hP hD hS => ?_)
    have hP : va_P z.1 classes (wv z ad E M) H := hP
    have hD : va_D A (wv z ad E M) := hD
    refine W.eq (g2 := F0 m 22 ls []) rfl ?_
    refine lv_aload_n hx hb d_1_46_22 rfl (lv_at hl 0 rfl) ?_
    refine m_gr (j := 243) (C := "Ballothall") (T := TX11) (N := 14) (ci := 11) (k := 6) hx hb hts iX11 hown hG hP (yi_1 hL) (yt_1 hL) rfl (by decide) w_403 (fun _ h9 => h9) rfl rfl (yr_1_6 hL) d_1_46_23 ?_
    refine lv_iload_n hx hb d_1_46_26 rfl (lv_at hl 1 rfl) ?_
    obtain ⟨⟨r102, M102⟩, g102, h⟩ := bd_e h
    refine kVN (As := [.int (oI x1)]) (rest := []) (s_Cl_append l z ad E M x1 r102 M102 hL g102) hx hb hml hown hts w_1663 n_1660 w_1662 w_s_eb7ceb w_11 md_843631 ⟨Nat.le_of_ble_eq_true rfl, Nat.le_of_ble_eq_true rfl⟩ hG hZ hP hD hS hA 243 (wv_o (ci := 1) (yi_243 hL) (yt_243 hL)) rfl rfl rfl hl.1 rfl (Nat.le_of_ble_eq_true rfl) d_1_46_27 ⟨Nat.le_of_ble_eq_true rfl, Nat.le_of_ble_eq_true rfl⟩ (fun _ H locs hP hD hS => ?_)
    have hP : va_P z.1 classes (wv z ad E M102) H := hP
    have hD : va_D A (wv z ad E M102) := hD
    refine W.eq (g2 := F0 m 30 ls [.int (oI r102)]) rfl ?_
    refine lv_istore_n (lv' := [(2, .int (oI r102)), (0, .ref (ad 1)), (1, .int (oI x1))]) hx hb d_1_46_30 rfl hl (by decide) rfl (fun ls hl => ?_)
    refine lv_aload_n hx hb d_1_46_31 rfl (lv_at hl 1 rfl) ?_
    refine lv_bipush (v := oI 11) hx hb d_1_46_32 (by decide +kernel) ?_
    refine lv_iload_n hx hb d_1_46_34 rfl (lv_at hl 0 rfl) ?_
    refine lv_iconst (v := oI 0) hx hb d_1_46_35 (by decide +kernel) ?_
    obtain ⟨M103, g103, h⟩ := bd_e h
    refine kV (As := [.int (oI 11), .int (oI r102), .int (oI 0)]) (rest := []) (s_B_remember l z ad E M102 11 r102 0 M103 hL g103) hx hb hml hown hts w_519 w_516 w_518 w_s_b872b3 w_1 md_7af0bb ⟨Nat.le_of_ble_eq_true rfl, Nat.le_of_ble_eq_true rfl⟩ hG hZ hP hD hS hA 1 (wv_o (ci := 11) (yi_1 hL) (yt_1 hL)) rfl rfl rfl hl.1 rfl (Nat.le_of_ble_eq_true rfl) d_1_46_36 ⟨Nat.le_of_ble_eq_true rfl, Nat.le_of_ble_eq_true rfl⟩ (fun _ H locs hP hD hS => ?_)
    have hP : va_P z.1 classes (wv z ad E M103) H := hP
    have hD : va_D A (wv z ad E M103) := hD
    refine W.eq (g2 := F0 m 39 ls []) rfl ?_
    refine lv_iload_n hx hb d_1_46_39 rfl (lv_at hl 0 rfl) ?_
    obtain ⟨rfl, rfl⟩ := in2 h
    exact W.iret hx hb hr (fun t ht hW => qkA hP hD hS (fun k => k) rfl rfl ht) hS.2.2 d_1_46_40
  exact key _ _ _ hts hP hS
set_option maxRecDepth 100000 in
set_option maxHeartbeats 4000000 in
theorem s_B_setQuota (l : Launch) (z : Zz) (ad : Nat → Nat) (E : Ev) (M : Mm) (x1 : Int) (r : Int) (N : Mm) (hL : Lay E) (h : f_B_setQuota E M x1 = some (r, N)) : CT l z ⟨"Ballothall", "setQuota", "(I)I"⟩ prog_1_method_47_code 3 (some .int) [.ref (ad 1), .int (oI x1)] (wv z ad E M) 2 63 0 0 (fun _ => some (.int (oI r))) (fun _ => (wv z ad E N)) := by
  refine CT.of (own := "Ballothall") (by decide +kernel) (Nat.le_of_ble_eq_true rfl) rfl (fun p e s m below meth c A ls hx hb hml hr hts hown hlocks hin hA hG hZ hP hD hS hl => ?_)
  have hl : lv_has ls 3 [(0, .ref (ad 1)), (1, .int (oI x1))] := hl
  have key : ∀ (H : Heap) (locs : List Loc) (args : Array Value), (∀ w ∈ WG, w.before args s = true) → va_P z.1 classes (wv z ad E M) H → va_S A s.heap H locs → W p l e (rmK 2 63 0 0) s m args below meth c H locs 0 0 (MQ below (QK z A (fun _ => some (.int (oI r))) (fun _ => (wv z ad E N))) args s 0 0 A) (F0 m 0 ls []) := by
    intro H locs args hts hP hS
    unfold f_B_setQuota at h
    refine lv_iload_n hx hb d_1_47_0 rfl (lv_at hl 1 rfl) ?_
    refine lv_iconst (v := oI 1) hx hb d_1_47_1 (by decide +kernel) ?_
    refine lv_sipush (v := oI 12000) hx hb d_1_47_2 (by decide +kernel) ?_
    obtain ⟨_, g100, h⟩ := bd_e h
    refine kS (As := [.int (oI x1), .int (oI 1), .int (oI 12000)]) (rest := []) (s_B_needRange l z ad E M x1 1 12000 hL g100) hx hb hml hown hts w_548 w_546 w_547 w_1 md_519134 ⟨Nat.le_of_ble_eq_true rfl, Nat.le_of_ble_eq_true rfl⟩ hG hZ hP hD hS hA rfl hl.1 rfl (Nat.le_of_ble_eq_true rfl) d_1_47_5 ⟨Nat.le_of_ble_eq_true rfl, Nat.le_of_ble_eq_true rfl⟩ (fun _ H locs hP hD hS => ?_)
    have hP : va_P z.1 classes (wv z ad E M) H := hP
    have hD : va_D A (wv z ad E M) := hD
    refine W.eq (g2 := F0 m 8 ls []) rfl ?_
    refine lv_aload_n hx hb d_1_47_8 rfl (lv_at hl 0 rfl) ?_
    refine m_gr (j := 243) (C := "Ballothall") (T := TX11) (N := 14) (ci := 11) (k := 6) hx hb hts iX11 hown hG hP (yi_1 hL) (yt_1 hL) rfl (by decide) w_403 (fun _ h9 => h9) rfl rfl (yr_1_6 hL) d_1_47_9 ?_
    refine m_giN (C := "Ballothall$Council") (T := TX1) (N := 4) (ci := 1) (k := 1) hx hb hts iX1 hown hG hP (yi_243 hL) (yt_243 hL) rfl (by decide) n_385 rfl (fun _ h9 => h9) rfl rfl d_1_47_12 ?_
    refine lv_istore_n (lv' := [(2, .int (oI (M 243 1))), (0, .ref (ad 1)), (1, .int (oI x1))]) hx hb d_1_47_15 rfl hl (by decide) rfl (fun ls hl => ?_)
    refine lv_aload_n hx hb d_1_47_16 rfl (lv_at hl 1 rfl) ?_
    refine m_gr (j := 243) (C := "Ballothall") (T := TX11) (N := 14) (ci := 11) (k := 6) hx hb hts iX11 hown hG hP (yi_1 hL) (yt_1 hL) rfl (by decide) w_403 (fun _ h9 => h9) rfl rfl (yr_1_6 hL) d_1_47_17 ?_
    refine lv_iload_n hx hb d_1_47_20 rfl (lv_at hl 2 rfl) ?_
    refine m_piN (C := "Ballothall$Council") (T := TX1) (N := 4) (ci := 1) (k := 1) (ty := .int) hx hb hts iX1 hown hG hP hD hS (yi_243 hL) (yt_243 hL) rfl (by decide) n_385 rfl (fun _ h9 => h9) rfl rfl tyX1_ok nmX1 rfl (by decide +kernel) rfl rfl d_1_47_21 (fun H locs hP hD hS => ?_)
    have hP : va_P z.1 classes (wv z ad E (u2 M 243 1 x1)) H := hP
    have hD : va_D A (wv z ad E (u2 M 243 1 x1)) := hD
    refine lv_aload_n hx hb d_1_47_24 rfl (lv_at hl 1 rfl) ?_
    refine lv_bipush (v := oI 12) hx hb d_1_47_25 (by decide +kernel) ?_
    refine lv_iconst (v := oI 0) hx hb d_1_47_27 (by decide +kernel) ?_
    refine lv_iload_n hx hb d_1_47_28 rfl (lv_at hl 0 rfl) ?_
    obtain ⟨M101, g101, h⟩ := bd_e h
    refine kV (As := [.int (oI 12), .int (oI 0), .int (oI (M 243 1))]) (rest := []) (s_B_remember l z ad E (u2 M 243 1 x1) 12 0 (M 243 1) M101 hL g101) hx hb hml hown hts w_519 w_516 w_518 w_s_b872b3 w_1 md_7af0bb ⟨Nat.le_of_ble_eq_true rfl, Nat.le_of_ble_eq_true rfl⟩ hG hZ hP hD hS hA 1 (wv_o (ci := 11) (yi_1 hL) (yt_1 hL)) rfl rfl rfl hl.1 rfl (Nat.le_of_ble_eq_true rfl) d_1_47_29 ⟨Nat.le_of_ble_eq_true rfl, Nat.le_of_ble_eq_true rfl⟩ (fun _ H locs hP hD hS => ?_)
    have hP : va_P z.1 classes (wv z ad E M101) H := hP
    have hD : va_D A (wv z ad E M101) := hD
    refine W.eq (g2 := F0 m 32 ls []) rfl ?_
    refine lv_iload_n hx hb d_1_47_32 rfl (lv_at hl 0 rfl) ?_
    obtain ⟨rfl, rfl⟩ := in2 h
    exact W.iret hx hb hr (fun t ht hW => qkA hP hD hS (fun k => k) rfl rfl ht) hS.2.2 d_1_47_33
  exact key _ _ _ hts hP hS
set_option maxRecDepth 100000 in
set_option maxHeartbeats 4000000 in
theorem s_B_ordersTurned (l : Launch) (z : Zz) (ad : Nat → Nat) (E : Ev) (M : Mm) (x1 : Int) (r : Int) (N : Mm) (hL : Lay E) (h : f_B_ordersTurned E M x1 = some (r, N)) : CT l z ⟨"Ballothall", "ordersTurned", "(I)J"⟩ prog_1_method_49_code 2 (some .long) [.ref (ad 1), .int (oI x1)] (wv z ad E M) 3 88 0 0 (fun _ => some (.long (oJ r))) (fun _ => (wv z ad E N)) := by
  refine CT.of (own := "Ballothall") (by decide +kernel) (Nat.le_of_ble_eq_true rfl) rfl (fun p e s m below meth c A ls hx hb hml hr hts hown hlocks hin hA hG hZ hP hD hS hl => ?_)
  have hl : lv_has ls 2 [(0, .ref (ad 1)), (1, .int (oI x1))] := hl
  have key : ∀ (H : Heap) (locs : List Loc) (args : Array Value), (∀ w ∈ WG, w.before args s = true) → va_P z.1 classes (wv z ad E M) H → va_S A s.heap H locs → W p l e (rmK 3 88 0 0) s m args below meth c H locs 0 0 (MQ below (QK z A (fun _ => some (.long (oJ r))) (fun _ => (wv z ad E N))) args s 0 0 A) (F0 m 0 ls []) := by
    intro H locs args hts hP hS
    unfold f_B_ordersTurned at h
    refine lv_iload_n hx hb d_1_49_0 rfl (lv_at hl 1 rfl) ?_
    refine lv_aload_n hx hb d_1_49_1 rfl (lv_at hl 0 rfl) ?_
    refine m_gr (j := 243) (C := "Ballothall") (T := TX11) (N := 14) (ci := 11) (k := 6) hx hb hts iX11 hown hG hP (yi_1 hL) (yt_1 hL) rfl (by decide) w_403 (fun _ h9 => h9) rfl rfl (yr_1_6 hL) d_1_49_2 ?_
    refine m_giN (C := "Ballothall$Council") (T := TX1) (N := 4) (ci := 1) (k := 0) hx hb hts iX1 hown hG hP (yi_243 hL) (yt_243 hL) rfl (by decide) n_383 rfl (fun _ h9 => h9) rfl rfl d_1_49_5 ?_
    obtain ⟨_, g100, h⟩ := bd_e h
    refine kS (As := [.int (oI x1), .int (oI (M 243 0))]) (rest := []) (s_B_needIndex l z ad E M x1 (M 243 0) hL g100) hx hb hml hown hts w_529 w_527 w_528 w_1 md_6cb26b ⟨Nat.le_of_ble_eq_true rfl, Nat.le_of_ble_eq_true rfl⟩ hG hZ hP hD hS hA rfl hl.1 rfl (Nat.le_of_ble_eq_true rfl) d_1_49_8 ⟨Nat.le_of_ble_eq_true rfl, Nat.le_of_ble_eq_true rfl⟩ (fun _ H locs hP hD hS => ?_)
    have hP : va_P z.1 classes (wv z ad E M) H := hP
    have hD : va_D A (wv z ad E M) := hD
    refine W.eq (g2 := F0 m 11 ls []) rfl ?_
    refine lv_aload_n hx hb d_1_49_11 rfl (lv_at hl 0 rfl) ?_
    refine m_gr (j := 243) (C := "Ballothall") (T := TX11) (N := 14) (ci := 11) (k := 6) hx hb hts iX11 hown hG hP (yi_1 hL) (yt_1 hL) rfl (by decide) w_403 (fun _ h9 => h9) rfl rfl (yr_1_6 hL) d_1_49_12 ?_
    obtain ⟨M101, g101, h⟩ := bd_e h
    refine kVN (As := []) (rest := []) (s_Cl_findSums l z ad E M M101 hL g101) hx hb hml hown hts w_754 n_1672 w_753 w_s_13b3b8 w_11 md_bc486d ⟨Nat.le_of_ble_eq_true rfl, Nat.le_of_ble_eq_true rfl⟩ hG hZ hP hD hS hA 243 (wv_o (ci := 1) (yi_243 hL) (yt_243 hL)) rfl rfl rfl hl.1 rfl (Nat.le_of_ble_eq_true rfl) d_1_49_15 ⟨Nat.le_of_ble_eq_true rfl, Nat.le_of_ble_eq_true rfl⟩ (fun _ H locs hP hD hS => ?_)
    have hP : va_P z.1 classes (wv z ad E M101) H := hP
    have hD : va_D A (wv z ad E M101) := hD
    refine W.eq (g2 := F0 m 18 ls []) rfl ?_
    refine lv_aload_n hx hb d_1_49_18 rfl (lv_at hl 0 rfl) ?_
    refine m_gr (j := 243) (C := "Ballothall") (T := TX11) (N := 14) (ci := 11) (k := 6) hx hb hts iX11 hown hG hP (yi_1 hL) (yt_1 hL) rfl (by decide) w_403 (fun _ h9 => h9) rfl rfl (yr_1_6 hL) d_1_49_19 ?_
    refine lv_iload_n hx hb d_1_49_22 rfl (lv_at hl 1 rfl) ?_
    obtain ⟨r102, g102, h⟩ := bd_e h
    refine kVN (As := [.int (oI x1)]) (rest := []) (s_Cl_ordersTurnedBy l z ad E M101 x1 r102 hL g102) hx hb hml hown hts w_758 n_1673 w_757 w_s_b6ce20 w_11 md_27e5a0 ⟨Nat.le_of_ble_eq_true rfl, Nat.le_of_ble_eq_true rfl⟩ hG hZ hP hD hS hA 243 (wv_o (ci := 1) (yi_243 hL) (yt_243 hL)) rfl rfl rfl hl.1 rfl (Nat.le_of_ble_eq_true rfl) d_1_49_23 ⟨Nat.le_of_ble_eq_true rfl, Nat.le_of_ble_eq_true rfl⟩ (fun _ H locs hP hD hS => ?_)
    have hP : va_P z.1 classes (wv z ad E M101) H := hP
    have hD : va_D A (wv z ad E M101) := hD
    refine W.eq (g2 := F0 m 26 ls [.long (oJ r102)]) rfl ?_
    obtain ⟨rfl, rfl⟩ := in2 h
    exact W.lret hx hb hr (fun t ht hW => qkA hP hD hS (fun k => k) rfl rfl ht) hS.2.2 d_1_49_26
  exact key _ _ _ hts hP hS
set_option maxRecDepth 100000 in
set_option maxHeartbeats 4000000 in
theorem b_Cl_setsSwungBy_4b (l : Launch) (z : Zz) (ad : Nat → Nat) (E : Ev) (M : Mm) (x1 : Int) (x2 : Int) (x3 : Int) (t : Nat) (w2 : Int) (w3 : Int)  {Q : State → Prop} {p : Program} {e : Env} {s : State} {m : MethodId} {below : List Frame} {meth : Method} {c : Code} {A : Nat → Prop} {args : Array Value} (hx : p.tables.exec = Jvm.exec) (hb : c.code = prog_3_method_5_code) (hml : c.maxLocals = 4) (hts : ∀ w ∈ WG, w.before args s = true) (hown : s.vm.findClass "Ballothall$Council" = some m.cls) (hlocks : meth.locks = false) (hA : ∀ q, s.heap.size ≤ q → A q) (hG : KG z s) (hZ : FZ z A s) (hL : Lay E) (h : Cl_setsSwungBy_4b E M x1 x2 x3 = some (t, w2, w3)) (k0 : t = 0 → ∀ (H : Heap) (locs : List Loc) (ls : Array Slot), va_P z.1 classes (wv z ad E M) H → va_D A (wv z ad E M) → va_S A s.heap H locs → lv_has ls 4 [(0, .ref (ad 243)), (1, .int (oI x1)), (2, .int (oI w2)), (3, .int (oI w3))] → W p l e (rmK 2 63 0 0) s m args below meth c H locs 0 0 Q (F0 m 4 ls [])) (k1 : t = 1 → ∀ (H : Heap) (locs : List Loc) (ls : Array Slot), va_P z.1 classes (wv z ad E M) H → va_D A (wv z ad E M) → va_S A s.heap H locs → lv_has ls 4 [(2, .int (oI w2))] → W p l e (rmK 2 63 0 0) s m args below meth c H locs 0 0 Q (F0 m 32 ls [])) : ∀ (H : Heap) (locs : List Loc) (ls : Array Slot), va_P z.1 classes (wv z ad E M) H → va_D A (wv z ad E M) → va_S A s.heap H locs → lv_has ls 4 [(0, .ref (ad 243)), (1, .int (oI x1)), (2, .int (oI x2)), (3, .int (oI x3))] → W p l e (rmK 2 63 0 0) s m args below meth c H locs 0 0 Q (F0 m 4 ls []) := by
  intro H locs ls hP hD hS hl
  unfold Cl_setsSwungBy_4b at h
  refine lv_iload_n hx hb d_3_5_4 rfl (lv_at hl 3 rfl) ?_
  refine lv_iconst (v := oI 1) hx hb d_3_5_5 (by decide +kernel) ?_
  refine lv_aload_n hx hb d_3_5_6 rfl (lv_at hl 0 rfl) ?_
  refine m_gi (C := "Ballothall$Council") (T := TX1) (N := 4) (ci := 1) (k := 0) hx hb hts iX1 hown hG hP (yi_243 hL) (yt_243 hL) rfl (by decide) w_382 (fun _ h9 => h9) rfl rfl d_3_5_7 ?_
  obtain ⟨ok100, h⟩ := ck_e h
  refine lv_ishl hx hb d_3_5_10 ?_
  refine nrm (oI_one_shl ok100) ?_
  obtain ⟨ok101, h⟩ := ck_e h
  obtain ⟨ok102, h⟩ := ck_e h
  refine lv_icmp_ge (tgt := 32) hx hb d_3_5_11 (by decide) (fun c9 => ?_) (fun c9 => ?_)
  · have h := ite_t ((oI_le (a := (2 ^ (M 243 0).toNat)) (b := x3) ok102 ok101).mp c9) h
    obtain ⟨rfl, rfl, rfl⟩ := in3 h
    exact k1 rfl H locs ls hP hD hS (lv_sub hl [2] rfl)
  · have h := ite_f (fun q => c9 ((oI_le (a := (2 ^ (M 243 0).toNat)) (b := x3) ok102 ok101).mpr q)) h
    refine lv_aload_n hx hb d_3_5_14 rfl (lv_at hl 0 rfl) ?_
    refine lv_iload_n hx hb d_3_5_15 rfl (lv_at hl 3 rfl) ?_
    refine lv_iload_n hx hb d_3_5_16 rfl (lv_at hl 1 rfl) ?_
    obtain ⟨r103, g103, h⟩ := bd_e h
    refine kV (As := [.int (oI x3), .int (oI x1)]) (rest := []) (s_Cl_isSwung l z ad E M x3 x1 r103 hL g103) hx hb hml hown hts w_762 w_759 w_761 w_s_ce08ed w_11 md_99b449 ⟨Nat.le_of_ble_eq_true rfl, Nat.le_of_ble_eq_true rfl⟩ hG hZ hP hD hS hA 243 (wv_o (ci := 1) (yi_243 hL) (yt_243 hL)) rfl rfl rfl hl.1 rfl (Nat.le_of_ble_eq_true rfl) d_3_5_17 ⟨Nat.le_of_ble_eq_true rfl, Nat.le_of_ble_eq_true rfl⟩ (fun _ H locs hP hD hS => ?_)
    have hP : va_P z.1 classes (wv z ad E M) H := hP
    have hD : va_D A (wv z ad E M) := hD
    refine W.eq (g2 := F0 m 20 ls [.int (oI r103)]) rfl ?_
    obtain ⟨ok104, h⟩ := ck_e h
    refine lv_if_eq (tgt := 26) hx hb d_3_5_20 (by decide) (fun c9 => ?_) (fun c9 => ?_)
    · have h := ite_t ((oI_eq0 ok104).mp c9) h
      refine lv_iinc (v := oI (x3 + 1)) (lv' := [(3, .int (oI (x3 + 1))), (0, .ref (ad 243)), (1, .int (oI x1)), (2, .int (oI x2))]) hx hb d_3_5_26 hl (k := 3) rfl (oI_add x3 1) (by decide) rfl (fun ls hl => ?_)
      refine lv_goto (tgt := 4) hx hb d_3_5_29 (by decide) ?_
      obtain ⟨rfl, rfl, rfl⟩ := in3 h
      exact k0 rfl H locs ls hP hD hS (lv_sub hl [1, 2, 3, 0] rfl)
    · have h := ite_f (fun q => c9 ((oI_eq0 ok104).mpr q)) h
      refine lv_iinc (v := oI (x2 + 1)) (lv' := [(2, .int (oI (x2 + 1))), (0, .ref (ad 243)), (1, .int (oI x1)), (3, .int (oI x3))]) hx hb d_3_5_23 hl (k := 2) rfl (oI_add x2 1) (by decide) rfl (fun ls hl => ?_)
      refine lv_iinc (v := oI (x3 + 1)) (lv' := [(3, .int (oI (x3 + 1))), (2, .int (oI (x2 + 1))), (0, .ref (ad 243)), (1, .int (oI x1))]) hx hb d_3_5_26 hl (k := 3) rfl (oI_add x3 1) (by decide) rfl (fun ls hl => ?_)
      refine lv_goto (tgt := 4) hx hb d_3_5_29 (by decide) ?_
      obtain ⟨rfl, rfl, rfl⟩ := in3 h
      exact k0 rfl H locs ls hP hD hS (lv_sub hl [2, 3, 1, 0] rfl)
set_option maxRecDepth 100000 in
set_option maxHeartbeats 4000000 in
theorem s_Cl_setsSwungBy_4 (l : Launch) (z : Zz) (ad : Nat → Nat) (E : Ev) (x1 : Int) {Q : State → Prop} {p : Program} {e : Env} {s : State} {m : MethodId} {below : List Frame} {meth : Method} {c : Code} {A : Nat → Prop} {args : Array Value} (hx : p.tables.exec = Jvm.exec) (hb : c.code = prog_3_method_5_code) (hml : c.maxLocals = 4) (hts : ∀ w ∈ WG, w.before args s = true) (hown : s.vm.findClass "Ballothall$Council" = some m.cls) (hlocks : meth.locks = false) (hA : ∀ q, s.heap.size ≤ q → A q) (hG : KG z s) (hZ : FZ z A s) (hL : Lay E) : ∀ (fu : Nat) (M : Mm) (x2 : Int) (x3 : Int) (t : Nat) (w2 : Int) (w3 : Int), l_Cl_setsSwungBy_4 E x1 fu M x2 x3 = some (t, w2, w3) → (t = 1 → ∀ (H : Heap) (locs : List Loc) (ls : Array Slot), va_P z.1 classes (wv z ad E M) H → va_D A (wv z ad E M) → va_S A s.heap H locs → lv_has ls 4 [(2, .int (oI w2))] → W p l e (rmK 2 63 0 0) s m args below meth c H locs 0 0 Q (F0 m 32 ls [])) → ∀ (H : Heap) (locs : List Loc) (ls : Array Slot), va_P z.1 classes (wv z ad E M) H → va_D A (wv z ad E M) → va_S A s.heap H locs → lv_has ls 4 [(0, .ref (ad 243)), (1, .int (oI x1)), (2, .int (oI x2)), (3, .int (oI x3))] → W p l e (rmK 2 63 0 0) s m args below meth c H locs 0 0 Q (F0 m 4 ls []) := by
  intro fu
  induction fu with
  | zero =>
    intro M x2 x3 t w2 w3 h
    have h : (none : Option (Nat × Int × Int)) = some _ := h
    cases h
  | succ fu ih =>
    intro M x2 x3 t w2 w3 h k1 H locs ls hP hD hS hl
    obtain ⟨⟨t0, w20, w30⟩, g0, h⟩ := bd_e h
    refine b_Cl_setsSwungBy_4b l z ad E M x1 x2 x3 t0 w20 w30 hx hb hml hts hown hlocks hA hG hZ hL g0 (fun e0 => ?_) (fun e0 => ?_) H locs ls hP hD hS hl
    · subst e0
      have h := ite_t rfl h
      exact ih M w20 w30 t w2 w3 h k1
    · subst e0
      have h := ite_f (by decide) h
      obtain ⟨rfl, rfl, rfl⟩ := in3 h
      exact k1 rfl
set_option maxRecDepth 100000 in
set_option maxHeartbeats 4000000 in
theorem s_Cl_setsSwungBy (l : Launch) (z : Zz) (ad : Nat → Nat) (E : Ev) (M : Mm) (x1 : Int) (r : Int)  (hL : Lay E) (h : f_Cl_setsSwungBy E M x1 = some r) : CT l z ⟨"Ballothall$Council", "setsSwungBy", "(I)I"⟩ prog_3_method_5_code 4 (some .int) [.ref (ad 243), .int (oI x1)] (wv z ad E M) 2 63 0 0 (fun _ => some (.int (oI r))) (fun _ => (wv z ad E M)) := by
  refine CT.of (own := "Ballothall$Council") (by decide +kernel) (Nat.le_of_ble_eq_true rfl) rfl (fun p e s m below meth c A ls hx hb hml hr hts hown hlocks hin hA hG hZ hP hD hS hl => ?_)
  have hl : lv_has ls 4 [(0, .ref (ad 243)), (1, .int (oI x1))] := hl
  have key : ∀ (H : Heap) (locs : List Loc) (args : Array Value), (∀ w ∈ WG, w.before args s = true) → va_P z.1 classes (wv z ad E M) H → va_S A s.heap H locs → W p l e (rmK 2 63 0 0) s m args below meth c H locs 0 0 (MQ below (QK z A (fun _ => some (.int (oI r))) (fun _ => (wv z ad E M))) args s 0 0 A) (F0 m 0 ls []) := by
    intro H locs args hts hP hS
    unfold f_Cl_setsSwungBy at h
    refine lv_iconst (v := oI 0) hx hb d_3_5_0 (by decide +kernel) ?_
    refine lv_istore_n (lv' := [(2, .int (oI 0)), (0, .ref (ad 243)), (1, .int (oI x1))]) hx hb d_3_5_1 rfl hl (by decide) rfl (fun ls hl => ?_)
    refine lv_iconst (v := oI 0) hx hb d_3_5_2 (by decide +kernel) ?_
    refine lv_istore_n (lv' := [(3, .int (oI 0)), (2, .int (oI 0)), (0, .ref (ad 243)), (1, .int (oI x1))]) hx hb d_3_5_3 rfl hl (by decide) rfl (fun ls hl => ?_)
    obtain ⟨⟨t105, v105_2, v105_3⟩, g105, h⟩ := bd_e h
    obtain ⟨ok105, h⟩ := ck_e h
    refine s_Cl_setsSwungBy_4 l z ad E x1 hx hb hml hts hown hlocks hA hG hZ hL FU M 0 0 t105 v105_2 v105_3 g105 (fun e105 H locs ls hP hD hS hl => ?_) H locs ls hP hD hS (lv_sub hl [2, 3, 1, 0] rfl)
    refine lv_iload_n hx hb d_3_5_32 rfl (lv_at hl 0 rfl) ?_
    obtain rfl := in1 h
    exact W.iret hx hb hr (fun t ht hW => qkA hP hD hS (fun k => k) rfl rfl ht) hS.2.2 d_3_5_33
  exact key _ _ _ hts hP hS
set_option maxRecDepth 100000 in
set_option maxHeartbeats 4000000 in
theorem s_B_swings (l : Launch) (z : Zz) (ad : Nat → Nat) (E : Ev) (M : Mm) (x1 : Int) (r : Int) (N : Mm) (hL : Lay E) (h : f_B_swings E M x1 = some (r, N)) : CT l z ⟨"Ballothall", "swings", "(I)I"⟩ prog_1_method_48_code 2 (some .int) [.ref (ad 1), .int (oI x1)] (wv z ad E M) 3 86 0 0 (fun _ => some (.int (oI r))) (fun _ => (wv z ad E N)) := by
  refine CT.of (own := "Ballothall") (by decide +kernel) (Nat.le_of_ble_eq_true rfl) rfl (fun p e s m below meth c A ls hx hb hml hr hts hown hlocks hin hA hG hZ hP hD hS hl => ?_)
  have hl : lv_has ls 2 [(0, .ref (ad 1)), (1, .int (oI x1))] := hl
  have key : ∀ (H : Heap) (locs : List Loc) (args : Array Value), (∀ w ∈ WG, w.before args s = true) → va_P z.1 classes (wv z ad E M) H → va_S A s.heap H locs → W p l e (rmK 3 86 0 0) s m args below meth c H locs 0 0 (MQ below (QK z A (fun _ => some (.int (oI r))) (fun _ => (wv z ad E N))) args s 0 0 A) (F0 m 0 ls []) := by
    intro H locs args hts hP hS
    unfold f_B_swings at h
    refine lv_iload_n hx hb d_1_48_0 rfl (lv_at hl 1 rfl) ?_
    refine lv_aload_n hx hb d_1_48_1 rfl (lv_at hl 0 rfl) ?_
    refine m_gr (j := 243) (C := "Ballothall") (T := TX11) (N := 14) (ci := 11) (k := 6) hx hb hts iX11 hown hG hP (yi_1 hL) (yt_1 hL) rfl (by decide) w_403 (fun _ h9 => h9) rfl rfl (yr_1_6 hL) d_1_48_2 ?_
    refine m_giN (C := "Ballothall$Council") (T := TX1) (N := 4) (ci := 1) (k := 0) hx hb hts iX1 hown hG hP (yi_243 hL) (yt_243 hL) rfl (by decide) n_383 rfl (fun _ h9 => h9) rfl rfl d_1_48_5 ?_
    obtain ⟨_, g100, h⟩ := bd_e h
    refine kS (As := [.int (oI x1), .int (oI (M 243 0))]) (rest := []) (s_B_needIndex l z ad E M x1 (M 243 0) hL g100) hx hb hml hown hts w_529 w_527 w_528 w_1 md_6cb26b ⟨Nat.le_of_ble_eq_true rfl, Nat.le_of_ble_eq_true rfl⟩ hG hZ hP hD hS hA rfl hl.1 rfl (Nat.le_of_ble_eq_true rfl) d_1_48_8 ⟨Nat.le_of_ble_eq_true rfl, Nat.le_of_ble_eq_true rfl⟩ (fun _ H locs hP hD hS => ?_)
    have hP : va_P z.1 classes (wv z ad E M) H := hP
    have hD : va_D A (wv z ad E M) := hD
    refine W.eq (g2 := F0 m 11 ls []) rfl ?_
    refine lv_aload_n hx hb d_1_48_11 rfl (lv_at hl 0 rfl) ?_
    refine m_gr (j := 243) (C := "Ballothall") (T := TX11) (N := 14) (ci := 11) (k := 6) hx hb hts iX11 hown hG hP (yi_1 hL) (yt_1 hL) rfl (by decide) w_403 (fun _ h9 => h9) rfl rfl (yr_1_6 hL) d_1_48_12 ?_
    obtain ⟨M101, g101, h⟩ := bd_e h
    refine kVN (As := []) (rest := []) (s_Cl_findSums l z ad E M M101 hL g101) hx hb hml hown hts w_754 n_1672 w_753 w_s_13b3b8 w_11 md_bc486d ⟨Nat.le_of_ble_eq_true rfl, Nat.le_of_ble_eq_true rfl⟩ hG hZ hP hD hS hA 243 (wv_o (ci := 1) (yi_243 hL) (yt_243 hL)) rfl rfl rfl hl.1 rfl (Nat.le_of_ble_eq_true rfl) d_1_48_15 ⟨Nat.le_of_ble_eq_true rfl, Nat.le_of_ble_eq_true rfl⟩ (fun _ H locs hP hD hS => ?_)
    have hP : va_P z.1 classes (wv z ad E M101) H := hP
    have hD : va_D A (wv z ad E M101) := hD
    refine W.eq (g2 := F0 m 18 ls []) rfl ?_
    refine lv_aload_n hx hb d_1_48_18 rfl (lv_at hl 0 rfl) ?_
    refine m_gr (j := 243) (C := "Ballothall") (T := TX11) (N := 14) (ci := 11) (k := 6) hx hb hts iX11 hown hG hP (yi_1 hL) (yt_1 hL) rfl (by decide) w_403 (fun _ h9 => h9) rfl rfl (yr_1_6 hL) d_1_48_19 ?_
    refine lv_iload_n hx hb d_1_48_22 rfl (lv_at hl 1 rfl) ?_
    obtain ⟨r102, g102, h⟩ := bd_e h
    refine kVN (As := [.int (oI x1)]) (rest := []) (s_Cl_setsSwungBy l z ad E M101 x1 r102 hL g102) hx hb hml hown hts w_1681 n_1678 w_1680 w_s_cd90bd w_11 md_4de701 ⟨Nat.le_of_ble_eq_true rfl, Nat.le_of_ble_eq_true rfl⟩ hG hZ hP hD hS hA 243 (wv_o (ci := 1) (yi_243 hL) (yt_243 hL)) rfl rfl rfl hl.1 rfl (Nat.le_of_ble_eq_true rfl) d_1_48_23 ⟨Nat.le_of_ble_eq_true rfl, Nat.le_of_ble_eq_true rfl⟩ (fun _ H locs hP hD hS => ?_)
    have hP : va_P z.1 classes (wv z ad E M101) H := hP
    have hD : va_D A (wv z ad E M101) := hD
    refine W.eq (g2 := F0 m 26 ls [.int (oI r102)]) rfl ?_
    obtain ⟨rfl, rfl⟩ := in2 h
    exact W.iret hx hb hr (fun t ht hW => qkA hP hD hS (fun k => k) rfl rfl ht) hS.2.2 d_1_48_26
  exact key _ _ _ hts hP hS
