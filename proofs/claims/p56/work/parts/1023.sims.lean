set_option maxRecDepth 100000 in
set_option maxHeartbeats 4000000 in
theorem b_La_council_30b (l : Launch) (z : Zz) (E0 : Ev) (ad0 : Nat → Nat) (ad : Nat → Nat) (E : Ev) (M : Mm) (q0 : Nat) (x2 : Int) (q4 : Nat) (x3 : Int) (x5 : Int) (x7 : Int) (t : Nat) (w3 : Int) (w5 : Int) (w7 : Int) (F : Ev) (N : Mm) {Q : State → Prop} {p : Program} {e : Env} {s : State} {m : MethodId} {below : List Frame} {meth : Method} {c : Code} {A : Nat → Prop} {args : Array Value} (hx : p.tables.exec = Jvm.exec) (hb : c.code = method_13_code) (hml : c.maxLocals = 17) (hts : ∀ w ∈ WG, w.before args s = true) (hown : s.vm.findClass "BallothallLaw" = some m.cls) (hlocks : meth.locks = false) (hA : ∀ q, s.heap.size ≤ q → A q) (hG : KG z s) (hZ : FZ z A s) (mc ms c0 s0 c1 s1 : Nat) (hc : c0 + 0 ≤ c1) (hs : s0 + 0 ≤ s1) (hm : c1 ≤ mc) (hm2 : s1 ≤ ms) (hag0 : ∀ i, i < nE E0 → ad i = ad0 i) (hE0 : nE E0 ≤ nE E) (h : La_council_30b E M q0 x2 q4 x3 x5 x7 = some (t, w3, w5, w7, F, N)) (k0 : ∀ (ad1 : Nat → Nat), (∀ i, i < nE E0 → ad1 i = ad0 i) → nE E0 ≤ nE F → t = 0 → ∀ (H : Heap) (locs : List Loc) (ls : Array Slot), va_P z.1 classes (wv z ad1 F N) H → va_D A (wv z ad1 F N) → va_S A s.heap H locs → lv_has ls 17 [(0, .ref (ad1 q0)), (1, .ref (ad1 1)), (2, .int (oI x2)), (3, .int (oI w3)), (4, .ref (ad1 q4)), (5, .long (oJ w5)), (7, .int (oI w7))] → W p l e (rmK 4 109 mc ms) s m args below meth c H locs c1 s1 Q (F0 m 30 ls [])) (k1 : ∀ (ad1 : Nat → Nat), (∀ i, i < nE E0 → ad1 i = ad0 i) → nE E0 ≤ nE F → t = 1 → ∀ (H : Heap) (locs : List Loc) (ls : Array Slot), va_P z.1 classes (wv z ad1 F N) H → va_D A (wv z ad1 F N) → va_S A s.heap H locs → lv_has ls 17 [(0, .ref (ad1 q0)), (1, .ref (ad1 1)), (2, .int (oI x2)), (3, .int (oI w3)), (4, .ref (ad1 q4)), (5, .long (oJ w5))] → W p l e (rmK 4 109 mc ms) s m args below meth c H locs c1 s1 Q (F0 m 82 ls [])) : ∀ (H : Heap) (locs : List Loc) (ls : Array Slot), va_P z.1 classes (wv z ad E M) H → va_D A (wv z ad E M) → va_S A s.heap H locs → lv_has ls 17 [(0, .ref (ad q0)), (1, .ref (ad 1)), (2, .int (oI x2)), (3, .int (oI x3)), (4, .ref (ad q4)), (5, .long (oJ x5)), (7, .int (oI x7))] → W p l e (rmK 4 109 mc ms) s m args below meth c H locs c0 s0 Q (F0 m 30 ls []) := by
  intro H locs ls hP hD hS hl
  unfold La_council_30b at h
  obtain ⟨hL, h⟩ := ck_e h
  obtain ⟨h_q0, h⟩ := ck_e h
  obtain ⟨h_q4, h⟩ := ck_e h
  refine lv_iload hx hb d_L13_30 (lv_at hl 6 rfl) ?_
  refine lv_iload_n hx hb d_L13_32 rfl (lv_at hl 2 rfl) ?_
  obtain ⟨ok105, h⟩ := ck_e h
  obtain ⟨ok106, h⟩ := ck_e h
  refine lv_icmp_ge (tgt := 82) hx hb d_L13_33 (by decide) (fun c9 => ?_) (fun c9 => ?_)
  · have h := ite_t ((oI_le (a := x2) (b := x7) ok106 ok105).mp c9) h
    obtain ⟨rfl, rfl, rfl, rfl, rfl, rfl⟩ := in6 h
    exact W.wide (by omega) (by omega) (k1 ad hag0 hE0 rfl H locs ls hP hD hS (lv_sub hl [0, 1, 2, 3, 4, 5] rfl))
  · have h := ite_f (fun q => c9 ((oI_le (a := x2) (b := x7) ok106 ok105).mpr q)) h
    refine lv_aload hx hb d_L13_36 (lv_at hl 4 rfl) ?_
    refine lv_iload hx hb d_L13_38 (lv_at hl 6 rfl) ?_
    refine lv_aload_n hx hb d_L13_40 rfl (lv_at hl 0 rfl) ?_
    refine lv_bipush (v := oI 12) hx hb d_L13_41 (by decide +kernel) ?_
    obtain ⟨⟨r107, M107⟩, g107, h⟩ := bd_e h
    refine kS (As := [.ref (ad q0), .int (oI 12)]) (rest := [.int (oI x7), .ref (ad q4)]) (s_La_next l z ad E M q0 12 r107 M107 hL g107) hx hb hml hown hts w_797 w_795 w_796 w_0 md_199d8f ⟨Nat.le_of_ble_eq_true rfl, Nat.le_of_ble_eq_true rfl⟩ hG hZ hP hD hS hA rfl hl.1 rfl (Nat.le_of_ble_eq_true rfl) d_L13_43 ⟨(show _ ≤ mc by omega), (show _ ≤ ms by omega)⟩ (fun _ H locs hP hD hS => ?_)
    have hP : va_P z.1 classes (wv z ad E M107) H := hP
    have hD : va_D A (wv z ad E M107) := hD
    refine W.eq (g2 := F0 m 46 ls [.int (oI r107), .int (oI x7), .ref (ad q4)]) rfl ?_
    obtain ⟨ok108, h⟩ := ck_e h
    refine m_is hx hb hG hP hD hS h_q4.1 (isIA_T h_q4) ok108 d_L13_46 (fun H locs hP hD hS => ?_)
    have hP : va_P z.1 classes (wv z ad E (u2 M107 q4 x7.toNat r107)) H := hP
    have hD : va_D A (wv z ad E (u2 M107 q4 x7.toNat r107)) := hD
    refine lv_iload_n hx hb d_L13_47 rfl (lv_at hl 3 rfl) ?_
    refine lv_aload hx hb d_L13_48 (lv_at hl 4 rfl) ?_
    refine lv_iload hx hb d_L13_50 (lv_at hl 6 rfl) ?_
    refine m_ia hx hb hG hP h_q4.1 (isIA_T h_q4) ok108 d_L13_52 ?_
    refine lv_iadd hx hb d_L13_53 ?_
    refine nrm (oI_add _ _) ?_
    obtain ⟨v109, e109, h⟩ := nb_e h
    refine nrm (congrArg oI e109.symm) ?_
    refine lv_istore_n (lv' := [(3, .int (oI v109)), (0, .ref (ad q0)), (1, .ref (ad 1)), (2, .int (oI x2)), (4, .ref (ad q4)), (5, .long (oJ x5)), (7, .int (oI x7))]) hx hb d_L13_54 rfl hl (by decide) rfl (fun ls hl => ?_)
    refine lv_aload_n hx hb d_L13_55 rfl (lv_at hl 2 rfl) ?_
    refine lv_aload hx hb d_L13_56 (lv_at hl 4 rfl) ?_
    refine lv_iload hx hb d_L13_58 (lv_at hl 6 rfl) ?_
    refine m_ia hx hb hG hP h_q4.1 (isIA_T h_q4) ok108 d_L13_60 ?_
    obtain ⟨⟨r110, M110⟩, g110, h⟩ := bd_e h
    refine kV (As := [.int (oI ((u2 M107 q4 x7.toNat r107) q4 x7.toNat))]) (rest := []) (s_B_member l z ad E (u2 M107 q4 x7.toNat r107) ((u2 M107 q4 x7.toNat r107) q4 x7.toNat) r110 M110 hL g110) hx hb hml hown hts w_1659 w_1656 w_1657 w_1658 w_1 md_caa1ec ⟨Nat.le_of_ble_eq_true rfl, Nat.le_of_ble_eq_true rfl⟩ hG hZ hP hD hS hA 1 (wv_o (ci := 11) (yi_1 hL) (yt_1 hL)) rfl rfl rfl hl.1 rfl (Nat.le_of_ble_eq_true rfl) d_L13_61 ⟨(show _ ≤ mc by omega), (show _ ≤ ms by omega)⟩ (fun _ H locs hP hD hS => ?_)
    have hP : va_P z.1 classes (wv z ad E M110) H := hP
    have hD : va_D A (wv z ad E M110) := hD
    refine W.eq (g2 := F0 m 64 ls [.int (oI r110)]) rfl ?_
    refine lv_istore (lv' := [(8, .int (oI r110)), (3, .int (oI v109)), (0, .ref (ad q0)), (1, .ref (ad 1)), (2, .int (oI x2)), (4, .ref (ad q4)), (5, .long (oJ x5)), (7, .int (oI x7))]) hx hb d_L13_64 hl (by decide) rfl (fun ls hl => ?_)
    refine lv_lload hx hb d_L13_66 (lv_at hl 6 rfl) ?_
    refine lv_iload hx hb d_L13_68 (lv_at hl 7 rfl) ?_
    refine lv_iconst (v := oI 1) hx hb d_L13_70 (by decide +kernel) ?_
    refine lv_iadd hx hb d_L13_71 ?_
    refine nrm (oI_add _ _) ?_
    obtain ⟨ok111, h⟩ := ck_e h
    refine lv_i2l (v := oJ (x7 + 1)) hx hb d_L13_72 (oI_l ok111) ?_
    refine lv_lmul hx hb d_L13_73 ?_
    refine nrmL (oJ_mul _ _) ?_
    refine lv_lstore (lv' := [(5, .long (oJ (x5 * (x7 + 1)))), (8, .int (oI r110)), (3, .int (oI v109)), (0, .ref (ad q0)), (1, .ref (ad 1)), (2, .int (oI x2)), (4, .ref (ad q4)), (7, .int (oI x7))]) hx hb d_L13_74 hl (by decide) rfl (fun ls hl => ?_)
    refine lv_iinc (v := oI (x7 + 1)) (lv' := [(7, .int (oI (x7 + 1))), (5, .long (oJ (x5 * (x7 + 1)))), (8, .int (oI r110)), (3, .int (oI v109)), (0, .ref (ad q0)), (1, .ref (ad 1)), (2, .int (oI x2)), (4, .ref (ad q4))]) hx hb d_L13_76 hl (k := 7) rfl (oI_add x7 1) (by decide) rfl (fun ls hl => ?_)
    refine lv_goto (tgt := 30) hx hb d_L13_79 (by decide) ?_
    obtain ⟨rfl, rfl, rfl, rfl, rfl, rfl⟩ := in6 h
    exact W.wide (by omega) (by omega) (k0 ad hag0 hE0 rfl H locs ls hP hD hS (lv_sub hl [4, 5, 6, 3, 7, 1, 0] rfl))
set_option maxRecDepth 100000 in
set_option maxHeartbeats 4000000 in
theorem s_La_council_30 (l : Launch) (z : Zz) (E0 : Ev) (ad0 : Nat → Nat) (q0 : Nat) (x2 : Int) (q4 : Nat) {Q : State → Prop} {p : Program} {e : Env} {s : State} {m : MethodId} {below : List Frame} {meth : Method} {c : Code} {A : Nat → Prop} {args : Array Value} (hx : p.tables.exec = Jvm.exec) (hb : c.code = method_13_code) (hml : c.maxLocals = 17) (hts : ∀ w ∈ WG, w.before args s = true) (hown : s.vm.findClass "BallothallLaw" = some m.cls) (hlocks : meth.locks = false) (hA : ∀ q, s.heap.size ≤ q → A q) (hG : KG z s) (hZ : FZ z A s) (mc ms c1 s1 : Nat) (hm : c1 ≤ mc) (hm2 : s1 ≤ ms) : ∀ (fu c0 s0 : Nat) (ad : Nat → Nat) (E : Ev) (M : Mm) (x3 : Int) (x5 : Int) (x7 : Int) (t : Nat) (w3 : Int) (w5 : Int) (w7 : Int) (F : Ev) (N : Mm), c0 + fu * 0 ≤ c1 → s0 + fu * 0 ≤ s1 → (∀ i, i < nE E0 → ad i = ad0 i) → nE E0 ≤ nE E → l_La_council_30 q0 x2 q4 fu E M x3 x5 x7 = some (t, w3, w5, w7, F, N) → (∀ (ad1 : Nat → Nat), (∀ i, i < nE E0 → ad1 i = ad0 i) → nE E0 ≤ nE F → t = 1 → ∀ (H : Heap) (locs : List Loc) (ls : Array Slot), va_P z.1 classes (wv z ad1 F N) H → va_D A (wv z ad1 F N) → va_S A s.heap H locs → lv_has ls 17 [(0, .ref (ad1 q0)), (1, .ref (ad1 1)), (2, .int (oI x2)), (3, .int (oI w3)), (4, .ref (ad1 q4)), (5, .long (oJ w5))] → W p l e (rmK 4 109 mc ms) s m args below meth c H locs c1 s1 Q (F0 m 82 ls [])) → ∀ (H : Heap) (locs : List Loc) (ls : Array Slot), va_P z.1 classes (wv z ad E M) H → va_D A (wv z ad E M) → va_S A s.heap H locs → lv_has ls 17 [(0, .ref (ad q0)), (1, .ref (ad 1)), (2, .int (oI x2)), (3, .int (oI x3)), (4, .ref (ad q4)), (5, .long (oJ x5)), (7, .int (oI x7))] → W p l e (rmK 4 109 mc ms) s m args below meth c H locs c0 s0 Q (F0 m 30 ls []) := by
  intro fu
  induction fu with
  | zero =>
    intro c0 s0 ad E M x3 x5 x7 t w3 w5 w7 F N hc hs hag0 hE0 h
    have h : (none : Option (Nat × Int × Int × Int × Ev × Mm)) = some _ := h
    cases h
  | succ fu ih =>
    intro c0 s0 ad E M x3 x5 x7 t w3 w5 w7 F N hc hs hag0 hE0 h k1 H locs ls hP hD hS hl
    obtain ⟨⟨t0, w30, w50, w70, F9, N9⟩, g0, h⟩ := bd_e h
    refine W.wide (Nat.le_refl _) (Nat.le_refl _) (b_La_council_30b l z E0 ad0 ad E M q0 x2 q4 x3 x5 x7 t0 w30 w50 w70 F9 N9 hx hb hml hts hown hlocks hA hG hZ mc ms c0 s0 (c0 + 0) (s0 + 0) (Nat.le_refl _) (Nat.le_refl _) (by omega) (by omega) hag0 hE0 g0 (fun ad1 ha he e0 => ?_) (fun ad1 ha he e0 => ?_) H locs ls hP hD hS hl)
    · subst e0
      have h := ite_t rfl h
      exact ih (c0 + 0) (s0 + 0) ad1 F9 N9 w30 w50 w70 t w3 w5 w7 F N (by omega) (by omega) ha he h k1
    · subst e0
      have h := ite_f (by decide) h
      obtain ⟨rfl, rfl, rfl, rfl, rfl, rfl⟩ := in6 h
      exact fun H locs ls hP hD hS hl => W.wide (by omega) (by omega) (k1 ad1 ha he rfl H locs ls hP hD hS hl)
set_option maxRecDepth 100000 in
set_option maxHeartbeats 4000000 in
theorem b_La_council_136b (l : Launch) (z : Zz) (E0 : Ev) (ad0 : Nat → Nat) (ad : Nat → Nat) (E : Ev) (M : Mm) (x2 : Int) (x3 : Int) (q4 : Nat) (x5 : Int) (x7 : Int) (x9 : Int) (x11 : Int) (x12 : Int) (x13 : Int) (x14 : Int) (x15 : Int) (x16 : Int) (t : Nat) (w15 : Int) (w16 : Int) (F : Ev) (N : Mm) {Q : State → Prop} {p : Program} {e : Env} {s : State} {m : MethodId} {below : List Frame} {meth : Method} {c : Code} {A : Nat → Prop} {args : Array Value} (hx : p.tables.exec = Jvm.exec) (hb : c.code = method_13_code) (hml : c.maxLocals = 17) (hts : ∀ w ∈ WG, w.before args s = true) (hown : s.vm.findClass "BallothallLaw" = some m.cls) (hlocks : meth.locks = false) (hA : ∀ q, s.heap.size ≤ q → A q) (hG : KG z s) (hZ : FZ z A s) (mc ms c0 s0 c1 s1 : Nat) (hc : c0 + 0 ≤ c1) (hs : s0 + 0 ≤ s1) (hm : c1 ≤ mc) (hm2 : s1 ≤ ms) (hag0 : ∀ i, i < nE E0 → ad i = ad0 i) (hE0 : nE E0 ≤ nE E) (h : La_council_136b E M x2 x3 q4 x5 x7 x9 x11 x12 x13 x14 x15 x16 = some (t, w15, w16, F, N)) (k0 : ∀ (ad1 : Nat → Nat), (∀ i, i < nE E0 → ad1 i = ad0 i) → nE E0 ≤ nE F → t = 0 → ∀ (H : Heap) (locs : List Loc) (ls : Array Slot), va_P z.1 classes (wv z ad1 F N) H → va_D A (wv z ad1 F N) → va_S A s.heap H locs → lv_has ls 17 [(1, .ref (ad1 1)), (2, .int (oI x2)), (3, .int (oI x3)), (4, .ref (ad1 q4)), (5, .long (oJ x5)), (7, .int (oI x7)), (9, .long (oJ x9)), (11, .int (oI x11)), (12, .int (oI x12)), (13, .int (oI x13)), (14, .int (oI x14)), (15, .int (oI w15)), (16, .int (oI w16))] → W p l e (rmK 4 109 mc ms) s m args below meth c H locs c1 s1 Q (F0 m 136 ls [])) (k1 : ∀ (ad1 : Nat → Nat), (∀ i, i < nE E0 → ad1 i = ad0 i) → nE E0 ≤ nE F → t = 1 → ∀ (H : Heap) (locs : List Loc) (ls : Array Slot), va_P z.1 classes (wv z ad1 F N) H → va_D A (wv z ad1 F N) → va_S A s.heap H locs → lv_has ls 17 [(1, .ref (ad1 1)), (2, .int (oI x2)), (3, .int (oI x3)), (4, .ref (ad1 q4)), (5, .long (oJ x5)), (7, .int (oI x7)), (9, .long (oJ x9)), (11, .int (oI x11)), (12, .int (oI x12)), (13, .int (oI x13)), (14, .int (oI x14)), (15, .int (oI w15))] → W p l e (rmK 4 109 mc ms) s m args below meth c H locs c1 s1 Q (F0 m 166 ls [])) : ∀ (H : Heap) (locs : List Loc) (ls : Array Slot), va_P z.1 classes (wv z ad E M) H → va_D A (wv z ad E M) → va_S A s.heap H locs → lv_has ls 17 [(1, .ref (ad 1)), (2, .int (oI x2)), (3, .int (oI x3)), (4, .ref (ad q4)), (5, .long (oJ x5)), (7, .int (oI x7)), (9, .long (oJ x9)), (11, .int (oI x11)), (12, .int (oI x12)), (13, .int (oI x13)), (14, .int (oI x14)), (15, .int (oI x15)), (16, .int (oI x16))] → W p l e (rmK 4 109 mc ms) s m args below meth c H locs c0 s0 Q (F0 m 136 ls []) := by
  intro H locs ls hP hD hS hl
  unfold La_council_136b at h
  obtain ⟨hL, h⟩ := ck_e h
  obtain ⟨h_q4, h⟩ := ck_e h
  refine lv_iload hx hb d_L13_136 (lv_at hl 12 rfl) ?_
  refine lv_iload_n hx hb d_L13_138 rfl (lv_at hl 1 rfl) ?_
  obtain ⟨ok120, h⟩ := ck_e h
  obtain ⟨ok121, h⟩ := ck_e h
  refine lv_icmp_ge (tgt := 166) hx hb d_L13_139 (by decide) (fun c9 => ?_) (fun c9 => ?_)
  · have h := ite_t ((oI_le (a := x2) (b := x16) ok121 ok120).mp c9) h
    obtain ⟨rfl, rfl, rfl, rfl, rfl⟩ := in5 h
    exact W.wide (by omega) (by omega) (k1 ad hag0 hE0 rfl H locs ls hP hD hS (lv_sub hl [0, 1, 2, 3, 4, 5, 6, 7, 8, 9, 10, 11] rfl))
  · have h := ite_f (fun q => c9 ((oI_le (a := x2) (b := x16) ok121 ok120).mpr q)) h
    refine lv_iload hx hb d_L13_142 (lv_at hl 11 rfl) ?_
    refine lv_iload hx hb d_L13_144 (lv_at hl 10 rfl) ?_
    refine lv_iload hx hb d_L13_146 (lv_at hl 12 rfl) ?_
    obtain ⟨ok122, h⟩ := ck_e h
    obtain ⟨ok123, h⟩ := ck_e h
    refine lv_ishr hx hb d_L13_148 ?_
    refine nrm (oI_shr (a := x14) ok122 ok123.1 ok123.2) ?_
    refine lv_iconst (v := oI 1) hx hb d_L13_149 (by decide +kernel) ?_
    refine lv_iand hx hb d_L13_150 ?_
    refine nrm (oI_m1 _) ?_
    refine lv_aload hx hb d_L13_151 (lv_at hl 3 rfl) ?_
    refine lv_iload hx hb d_L13_153 (lv_at hl 12 rfl) ?_
    obtain ⟨ok124, h⟩ := ck_e h
    refine m_ia hx hb hG hP h_q4.1 (isIA_T h_q4) ok124 d_L13_155 ?_
    refine lv_imul hx hb d_L13_156 ?_
    refine nrm (oI_mul _ _) ?_
    refine lv_iadd hx hb d_L13_157 ?_
    refine nrm (oI_add _ _) ?_
    obtain ⟨v125, e125, h⟩ := nb_e h
    refine nrm (congrArg oI e125.symm) ?_
    refine lv_istore (lv' := [(15, .int (oI v125)), (1, .ref (ad 1)), (2, .int (oI x2)), (3, .int (oI x3)), (4, .ref (ad q4)), (5, .long (oJ x5)), (7, .int (oI x7)), (9, .long (oJ x9)), (11, .int (oI x11)), (12, .int (oI x12)), (13, .int (oI x13)), (14, .int (oI x14)), (16, .int (oI x16))]) hx hb d_L13_158 hl (by decide) rfl (fun ls hl => ?_)
    refine lv_iinc (v := oI (x16 + 1)) (lv' := [(16, .int (oI (x16 + 1))), (15, .int (oI v125)), (1, .ref (ad 1)), (2, .int (oI x2)), (3, .int (oI x3)), (4, .ref (ad q4)), (5, .long (oJ x5)), (7, .int (oI x7)), (9, .long (oJ x9)), (11, .int (oI x11)), (12, .int (oI x12)), (13, .int (oI x13)), (14, .int (oI x14))]) hx hb d_L13_160 hl (k := 12) rfl (oI_add x16 1) (by decide) rfl (fun ls hl => ?_)
    refine lv_goto (tgt := 136) hx hb d_L13_163 (by decide) ?_
    obtain ⟨rfl, rfl, rfl, rfl, rfl⟩ := in5 h
    exact W.wide (by omega) (by omega) (k0 ad hag0 hE0 rfl H locs ls hP hD hS (lv_sub hl [2, 3, 4, 5, 6, 7, 8, 9, 10, 11, 12, 1, 0] rfl))
set_option maxRecDepth 100000 in
set_option maxHeartbeats 4000000 in
theorem s_La_council_136 (l : Launch) (z : Zz) (E0 : Ev) (ad0 : Nat → Nat) (x2 : Int) (x3 : Int) (q4 : Nat) (x5 : Int) (x7 : Int) (x9 : Int) (x11 : Int) (x12 : Int) (x13 : Int) (x14 : Int) {Q : State → Prop} {p : Program} {e : Env} {s : State} {m : MethodId} {below : List Frame} {meth : Method} {c : Code} {A : Nat → Prop} {args : Array Value} (hx : p.tables.exec = Jvm.exec) (hb : c.code = method_13_code) (hml : c.maxLocals = 17) (hts : ∀ w ∈ WG, w.before args s = true) (hown : s.vm.findClass "BallothallLaw" = some m.cls) (hlocks : meth.locks = false) (hA : ∀ q, s.heap.size ≤ q → A q) (hG : KG z s) (hZ : FZ z A s) (mc ms c1 s1 : Nat) (hm : c1 ≤ mc) (hm2 : s1 ≤ ms) : ∀ (fu c0 s0 : Nat) (ad : Nat → Nat) (E : Ev) (M : Mm) (x15 : Int) (x16 : Int) (t : Nat) (w15 : Int) (w16 : Int) (F : Ev) (N : Mm), c0 + fu * 0 ≤ c1 → s0 + fu * 0 ≤ s1 → (∀ i, i < nE E0 → ad i = ad0 i) → nE E0 ≤ nE E → l_La_council_136 x2 x3 q4 x5 x7 x9 x11 x12 x13 x14 fu E M x15 x16 = some (t, w15, w16, F, N) → (∀ (ad1 : Nat → Nat), (∀ i, i < nE E0 → ad1 i = ad0 i) → nE E0 ≤ nE F → t = 1 → ∀ (H : Heap) (locs : List Loc) (ls : Array Slot), va_P z.1 classes (wv z ad1 F N) H → va_D A (wv z ad1 F N) → va_S A s.heap H locs → lv_has ls 17 [(1, .ref (ad1 1)), (2, .int (oI x2)), (3, .int (oI x3)), (4, .ref (ad1 q4)), (5, .long (oJ x5)), (7, .int (oI x7)), (9, .long (oJ x9)), (11, .int (oI x11)), (12, .int (oI x12)), (13, .int (oI x13)), (14, .int (oI x14)), (15, .int (oI w15))] → W p l e (rmK 4 109 mc ms) s m args below meth c H locs c1 s1 Q (F0 m 166 ls [])) → ∀ (H : Heap) (locs : List Loc) (ls : Array Slot), va_P z.1 classes (wv z ad E M) H → va_D A (wv z ad E M) → va_S A s.heap H locs → lv_has ls 17 [(1, .ref (ad 1)), (2, .int (oI x2)), (3, .int (oI x3)), (4, .ref (ad q4)), (5, .long (oJ x5)), (7, .int (oI x7)), (9, .long (oJ x9)), (11, .int (oI x11)), (12, .int (oI x12)), (13, .int (oI x13)), (14, .int (oI x14)), (15, .int (oI x15)), (16, .int (oI x16))] → W p l e (rmK 4 109 mc ms) s m args below meth c H locs c0 s0 Q (F0 m 136 ls []) := by
  intro fu
  induction fu with
  | zero =>
    intro c0 s0 ad E M x15 x16 t w15 w16 F N hc hs hag0 hE0 h
    have h : (none : Option (Nat × Int × Int × Ev × Mm)) = some _ := h
    cases h
  | succ fu ih =>
    intro c0 s0 ad E M x15 x16 t w15 w16 F N hc hs hag0 hE0 h k1 H locs ls hP hD hS hl
    obtain ⟨⟨t0, w150, w160, F9, N9⟩, g0, h⟩ := bd_e h
    refine W.wide (Nat.le_refl _) (Nat.le_refl _) (b_La_council_136b l z E0 ad0 ad E M x2 x3 q4 x5 x7 x9 x11 x12 x13 x14 x15 x16 t0 w150 w160 F9 N9 hx hb hml hts hown hlocks hA hG hZ mc ms c0 s0 (c0 + 0) (s0 + 0) (Nat.le_refl _) (Nat.le_refl _) (by omega) (by omega) hag0 hE0 g0 (fun ad1 ha he e0 => ?_) (fun ad1 ha he e0 => ?_) H locs ls hP hD hS hl)
    · subst e0
      have h := ite_t rfl h
      exact ih (c0 + 0) (s0 + 0) ad1 F9 N9 w150 w160 t w15 w16 F N (by omega) (by omega) ha he h k1
    · subst e0
      have h := ite_f (by decide) h
      obtain ⟨rfl, rfl, rfl, rfl, rfl⟩ := in5 h
      exact fun H locs ls hP hD hS hl => W.wide (by omega) (by omega) (k1 ad1 ha he rfl H locs ls hP hD hS hl)
set_option maxRecDepth 100000 in
set_option maxHeartbeats 4000000 in
theorem b_La_council_122b (l : Launch) (z : Zz) (E0 : Ev) (ad0 : Nat → Nat) (ad : Nat → Nat) (E : Ev) (M : Mm) (x2 : Int) (x3 : Int) (q4 : Nat) (x5 : Int) (x7 : Int) (x9 : Int) (x11 : Int) (x12 : Int) (x13 : Int) (x14 : Int) (t : Nat) (w13 : Int) (w14 : Int) (F : Ev) (N : Mm) {Q : State → Prop} {p : Program} {e : Env} {s : State} {m : MethodId} {below : List Frame} {meth : Method} {c : Code} {A : Nat → Prop} {args : Array Value} (hx : p.tables.exec = Jvm.exec) (hb : c.code = method_13_code) (hml : c.maxLocals = 17) (hts : ∀ w ∈ WG, w.before args s = true) (hown : s.vm.findClass "BallothallLaw" = some m.cls) (hlocks : meth.locks = false) (hA : ∀ q, s.heap.size ≤ q → A q) (hG : KG z s) (hZ : FZ z A s) (mc ms c0 s0 c1 s1 : Nat) (hc : c0 + 0 ≤ c1) (hs : s0 + 0 ≤ s1) (hm : c1 ≤ mc) (hm2 : s1 ≤ ms) (hag0 : ∀ i, i < nE E0 → ad i = ad0 i) (hE0 : nE E0 ≤ nE E) (h : La_council_122b E M x2 x3 q4 x5 x7 x9 x11 x12 x13 x14 = some (t, w13, w14, F, N)) (k0 : ∀ (ad1 : Nat → Nat), (∀ i, i < nE E0 → ad1 i = ad0 i) → nE E0 ≤ nE F → t = 0 → ∀ (H : Heap) (locs : List Loc) (ls : Array Slot), va_P z.1 classes (wv z ad1 F N) H → va_D A (wv z ad1 F N) → va_S A s.heap H locs → lv_has ls 17 [(1, .ref (ad1 1)), (2, .int (oI x2)), (3, .int (oI x3)), (4, .ref (ad1 q4)), (5, .long (oJ x5)), (7, .int (oI x7)), (9, .long (oJ x9)), (11, .int (oI x11)), (12, .int (oI x12)), (13, .int (oI w13)), (14, .int (oI w14))] → W p l e (rmK 4 109 mc ms) s m args below meth c H locs c1 s1 Q (F0 m 122 ls [])) (k1 : ∀ (ad1 : Nat → Nat), (∀ i, i < nE E0 → ad1 i = ad0 i) → nE E0 ≤ nE F → t = 1 → ∀ (H : Heap) (locs : List Loc) (ls : Array Slot), va_P z.1 classes (wv z ad1 F N) H → va_D A (wv z ad1 F N) → va_S A s.heap H locs → lv_has ls 17 [(1, .ref (ad1 1)), (2, .int (oI x2)), (3, .int (oI x3)), (4, .ref (ad1 q4)), (5, .long (oJ x5)), (7, .int (oI x7)), (9, .long (oJ x9)), (11, .int (oI x11)), (12, .int (oI x12)), (13, .int (oI w13))] → W p l e (rmK 4 109 mc ms) s m args below meth c H locs c1 s1 Q (F0 m 212 ls [])) : ∀ (H : Heap) (locs : List Loc) (ls : Array Slot), va_P z.1 classes (wv z ad E M) H → va_D A (wv z ad E M) → va_S A s.heap H locs → lv_has ls 17 [(1, .ref (ad 1)), (2, .int (oI x2)), (3, .int (oI x3)), (4, .ref (ad q4)), (5, .long (oJ x5)), (7, .int (oI x7)), (9, .long (oJ x9)), (11, .int (oI x11)), (12, .int (oI x12)), (13, .int (oI x13)), (14, .int (oI x14))] → W p l e (rmK 4 109 mc ms) s m args below meth c H locs c0 s0 Q (F0 m 122 ls []) := by
  intro H locs ls hP hD hS hl
  unfold La_council_122b at h
  obtain ⟨hL, h⟩ := ck_e h
  obtain ⟨h_q4, h⟩ := ck_e h
  refine lv_iload hx hb d_L13_122 (lv_at hl 10 rfl) ?_
  refine lv_iconst (v := oI 1) hx hb d_L13_124 (by decide +kernel) ?_
  refine lv_iload_n hx hb d_L13_125 rfl (lv_at hl 1 rfl) ?_
  obtain ⟨ok117, h⟩ := ck_e h
  refine lv_ishl hx hb d_L13_126 ?_
  refine nrm (oI_one_shl ok117) ?_
  obtain ⟨ok118, h⟩ := ck_e h
  obtain ⟨ok119, h⟩ := ck_e h
  refine lv_icmp_ge (tgt := 212) hx hb d_L13_127 (by decide) (fun c9 => ?_) (fun c9 => ?_)
  · have h := ite_t ((oI_le (a := (2 ^ x2.toNat)) (b := x14) ok119 ok118).mp c9) h
    obtain ⟨rfl, rfl, rfl, rfl, rfl⟩ := in5 h
    exact W.wide (by omega) (by omega) (k1 ad hag0 hE0 rfl H locs ls hP hD hS (lv_sub hl [0, 1, 2, 3, 4, 5, 6, 7, 8, 9] rfl))
  · have h := ite_f (fun q => c9 ((oI_le (a := (2 ^ x2.toNat)) (b := x14) ok119 ok118).mpr q)) h
    refine lv_iconst (v := oI 0) hx hb d_L13_130 (by decide +kernel) ?_
    refine lv_istore (lv' := [(15, .int (oI 0)), (1, .ref (ad 1)), (2, .int (oI x2)), (3, .int (oI x3)), (4, .ref (ad q4)), (5, .long (oJ x5)), (7, .int (oI x7)), (9, .long (oJ x9)), (11, .int (oI x11)), (12, .int (oI x12)), (13, .int (oI x13)), (14, .int (oI x14))]) hx hb d_L13_131 hl (by decide) rfl (fun ls hl => ?_)
    refine lv_iconst (v := oI 0) hx hb d_L13_133 (by decide +kernel) ?_
    refine lv_istore (lv' := [(16, .int (oI 0)), (15, .int (oI 0)), (1, .ref (ad 1)), (2, .int (oI x2)), (3, .int (oI x3)), (4, .ref (ad q4)), (5, .long (oJ x5)), (7, .int (oI x7)), (9, .long (oJ x9)), (11, .int (oI x11)), (12, .int (oI x12)), (13, .int (oI x13)), (14, .int (oI x14))]) hx hb d_L13_134 hl (by decide) rfl (fun ls hl => ?_)
    obtain ⟨⟨t126, v126_15, v126_16, E126, M126⟩, g126, h⟩ := bd_e h
    obtain ⟨hgw126, h⟩ := ck_e h
    obtain ⟨hL126, h⟩ := ck_e h
    obtain ⟨ok126, h⟩ := ck_e h
    refine s_La_council_136 l z E ad x2 x3 q4 x5 x7 x9 x11 x12 x13 x14 hx hb hml hts hown hlocks hA hG hZ mc ms (c0 + 0) (s0 + 0) (by omega) (by omega) 5000 _ _ ad E M 0 0 t126 v126_15 v126_16 E126 M126 (by omega) (by omega) (fun _ _ => rfl) (Nat.le_refl _) g126 (fun ad126 hag126 hEE126 e126 H locs ls hP hD hS hl => ?_) H locs ls hP hD hS (lv_sub hl [2, 3, 4, 5, 6, 7, 8, 9, 10, 11, 12, 1, 0] rfl)
    have hag0 : ∀ i, i < nE E0 → ad126 i = ad0 i := fun i hi => (hag126 i (Nat.lt_of_lt_of_le hi hE0)).trans (hag0 i hi)
    have hE0 : nE E0 ≤ nE E126 := Nat.le_trans hE0 hgw126.1
    have hL : Lay E126 := hL126
    have h_q4 : isIA E126 q4 := isA_up hgw126 h_q4
    refine lv_iload hx hb d_L13_166 (lv_at hl 9 rfl) ?_
    refine lv_iload hx hb d_L13_168 (lv_at hl 10 rfl) ?_
    refine lv_iload hx hb d_L13_170 (lv_at hl 8 rfl) ?_
    obtain ⟨ok127, h⟩ := ck_e h
    refine lv_ishr hx hb d_L13_172 ?_
    refine nrm (oI_shr (a := x14) ok118 ok127.1 ok127.2) ?_
    refine lv_iconst (v := oI 1) hx hb d_L13_173 (by decide +kernel) ?_
    refine lv_iand hx hb d_L13_174 ?_
    refine nrm (oI_m1 _) ?_
    refine lv_if_ne (tgt := 202) hx hb d_L13_175 (by decide) (fun c9 => ?_) (fun c9 => ?_)
    · have h := ite_f (fun q => c9 ((oI_eq0 ⟨by omega, by omega⟩).mpr q)) h
      refine lv_iconst (v := oI 0) hx hb d_L13_202 (by decide +kernel) ?_
      refine lv_iadd hx hb d_L13_203 ?_
      refine nrm (oI_add _ _) ?_
      refine lv_istore (lv' := [(13, .int (oI (x13 + 0))), (1, .ref (ad126 1)), (2, .int (oI x2)), (3, .int (oI x3)), (4, .ref (ad126 q4)), (5, .long (oJ x5)), (7, .int (oI x7)), (9, .long (oJ x9)), (11, .int (oI x11)), (12, .int (oI x12)), (14, .int (oI x14)), (15, .int (oI v126_15))]) hx hb d_L13_204 hl (by decide) rfl (fun ls hl => ?_)
      refine lv_iinc (v := oI (x14 + 1)) (lv' := [(14, .int (oI (x14 + 1))), (13, .int (oI (x13 + 0))), (1, .ref (ad126 1)), (2, .int (oI x2)), (3, .int (oI x3)), (4, .ref (ad126 q4)), (5, .long (oJ x5)), (7, .int (oI x7)), (9, .long (oJ x9)), (11, .int (oI x11)), (12, .int (oI x12)), (15, .int (oI v126_15))]) hx hb d_L13_206 hl (k := 10) rfl (oI_add x14 1) (by decide) rfl (fun ls hl => ?_)
      refine lv_goto (tgt := 122) hx hb d_L13_209 (by decide) ?_
      obtain ⟨rfl, rfl, rfl, rfl, rfl⟩ := in5 h
      exact W.wide (by omega) (by omega) (k0 ad126 hag0 hE0 rfl H locs ls hP hD hS (lv_sub hl [2, 3, 4, 5, 6, 7, 8, 9, 10, 1, 0] rfl))
    · have h := ite_t ((oI_eq0 ⟨by omega, by omega⟩).mp c9) h
      refine lv_iload hx hb d_L13_178 (lv_at hl 11 rfl) ?_
      refine lv_iload hx hb d_L13_180 (lv_at hl 5 rfl) ?_
      obtain ⟨ok128, h⟩ := ck_e h
      obtain ⟨ok129, h⟩ := ck_e h
      refine lv_icmp_ge (tgt := 202) hx hb d_L13_182 (by decide) (fun c9 => ?_) (fun c9 => ?_)
      · have h := ite_t ((oI_le (a := x7) (b := v126_15) ok129 ok128).mp c9) h
        refine lv_iconst (v := oI 0) hx hb d_L13_202 (by decide +kernel) ?_
        refine lv_iadd hx hb d_L13_203 ?_
        refine nrm (oI_add _ _) ?_
        refine lv_istore (lv' := [(13, .int (oI (x13 + 0))), (1, .ref (ad126 1)), (2, .int (oI x2)), (3, .int (oI x3)), (4, .ref (ad126 q4)), (5, .long (oJ x5)), (7, .int (oI x7)), (9, .long (oJ x9)), (11, .int (oI x11)), (12, .int (oI x12)), (14, .int (oI x14)), (15, .int (oI v126_15))]) hx hb d_L13_204 hl (by decide) rfl (fun ls hl => ?_)
        refine lv_iinc (v := oI (x14 + 1)) (lv' := [(14, .int (oI (x14 + 1))), (13, .int (oI (x13 + 0))), (1, .ref (ad126 1)), (2, .int (oI x2)), (3, .int (oI x3)), (4, .ref (ad126 q4)), (5, .long (oJ x5)), (7, .int (oI x7)), (9, .long (oJ x9)), (11, .int (oI x11)), (12, .int (oI x12)), (15, .int (oI v126_15))]) hx hb d_L13_206 hl (k := 10) rfl (oI_add x14 1) (by decide) rfl (fun ls hl => ?_)
        refine lv_goto (tgt := 122) hx hb d_L13_209 (by decide) ?_
        obtain ⟨rfl, rfl, rfl, rfl, rfl⟩ := in5 h
        exact W.wide (by omega) (by omega) (k0 ad126 hag0 hE0 rfl H locs ls hP hD hS (lv_sub hl [2, 3, 4, 5, 6, 7, 8, 9, 10, 1, 0] rfl))
      · have h := ite_f (fun q => c9 ((oI_le (a := x7) (b := v126_15) ok129 ok128).mpr q)) h
        refine lv_iload hx hb d_L13_185 (lv_at hl 11 rfl) ?_
        refine lv_aload hx hb d_L13_187 (lv_at hl 3 rfl) ?_
        refine lv_iload hx hb d_L13_189 (lv_at hl 8 rfl) ?_
        obtain ⟨ok130, h⟩ := ck_e h
        refine m_ia hx hb hG hP h_q4.1 (isIA_T h_q4) ok130 d_L13_191 ?_
        refine lv_iadd hx hb d_L13_192 ?_
        refine nrm (oI_add _ _) ?_
        refine lv_iload hx hb d_L13_193 (lv_at hl 5 rfl) ?_
        obtain ⟨ok131, h⟩ := ck_e h
        refine lv_icmp_lt (tgt := 202) hx hb d_L13_195 (by decide) (fun c9 => ?_) (fun c9 => ?_)
        · have h := ite_t ((oI_lt (a := (v126_15 + (M126 q4 x12.toNat))) (b := x7) ok131 ok129).mp c9) h
          refine lv_iconst (v := oI 0) hx hb d_L13_202 (by decide +kernel) ?_
          refine lv_iadd hx hb d_L13_203 ?_
          refine nrm (oI_add _ _) ?_
          refine lv_istore (lv' := [(13, .int (oI (x13 + 0))), (1, .ref (ad126 1)), (2, .int (oI x2)), (3, .int (oI x3)), (4, .ref (ad126 q4)), (5, .long (oJ x5)), (7, .int (oI x7)), (9, .long (oJ x9)), (11, .int (oI x11)), (12, .int (oI x12)), (14, .int (oI x14)), (15, .int (oI v126_15))]) hx hb d_L13_204 hl (by decide) rfl (fun ls hl => ?_)
          refine lv_iinc (v := oI (x14 + 1)) (lv' := [(14, .int (oI (x14 + 1))), (13, .int (oI (x13 + 0))), (1, .ref (ad126 1)), (2, .int (oI x2)), (3, .int (oI x3)), (4, .ref (ad126 q4)), (5, .long (oJ x5)), (7, .int (oI x7)), (9, .long (oJ x9)), (11, .int (oI x11)), (12, .int (oI x12)), (15, .int (oI v126_15))]) hx hb d_L13_206 hl (k := 10) rfl (oI_add x14 1) (by decide) rfl (fun ls hl => ?_)
          refine lv_goto (tgt := 122) hx hb d_L13_209 (by decide) ?_
          obtain ⟨rfl, rfl, rfl, rfl, rfl⟩ := in5 h
          exact W.wide (by omega) (by omega) (k0 ad126 hag0 hE0 rfl H locs ls hP hD hS (lv_sub hl [2, 3, 4, 5, 6, 7, 8, 9, 10, 1, 0] rfl))
        · have h := ite_f (fun q => c9 ((oI_lt (a := (v126_15 + (M126 q4 x12.toNat))) (b := x7) ok131 ok129).mpr q)) h
          refine lv_iconst (v := oI 1) hx hb d_L13_198 (by decide +kernel) ?_
          refine lv_goto (tgt := 203) hx hb d_L13_199 (by decide) ?_
          refine lv_iadd hx hb d_L13_203 ?_
          refine nrm (oI_add _ _) ?_
          refine lv_istore (lv' := [(13, .int (oI (x13 + 1))), (1, .ref (ad126 1)), (2, .int (oI x2)), (3, .int (oI x3)), (4, .ref (ad126 q4)), (5, .long (oJ x5)), (7, .int (oI x7)), (9, .long (oJ x9)), (11, .int (oI x11)), (12, .int (oI x12)), (14, .int (oI x14)), (15, .int (oI v126_15))]) hx hb d_L13_204 hl (by decide) rfl (fun ls hl => ?_)
          refine lv_iinc (v := oI (x14 + 1)) (lv' := [(14, .int (oI (x14 + 1))), (13, .int (oI (x13 + 1))), (1, .ref (ad126 1)), (2, .int (oI x2)), (3, .int (oI x3)), (4, .ref (ad126 q4)), (5, .long (oJ x5)), (7, .int (oI x7)), (9, .long (oJ x9)), (11, .int (oI x11)), (12, .int (oI x12)), (15, .int (oI v126_15))]) hx hb d_L13_206 hl (k := 10) rfl (oI_add x14 1) (by decide) rfl (fun ls hl => ?_)
          refine lv_goto (tgt := 122) hx hb d_L13_209 (by decide) ?_
          obtain ⟨rfl, rfl, rfl, rfl, rfl⟩ := in5 h
          exact W.wide (by omega) (by omega) (k0 ad126 hag0 hE0 rfl H locs ls hP hD hS (lv_sub hl [2, 3, 4, 5, 6, 7, 8, 9, 10, 1, 0] rfl))
set_option maxRecDepth 100000 in
set_option maxHeartbeats 4000000 in
theorem s_La_council_122 (l : Launch) (z : Zz) (E0 : Ev) (ad0 : Nat → Nat) (x2 : Int) (x3 : Int) (q4 : Nat) (x5 : Int) (x7 : Int) (x9 : Int) (x11 : Int) (x12 : Int) {Q : State → Prop} {p : Program} {e : Env} {s : State} {m : MethodId} {below : List Frame} {meth : Method} {c : Code} {A : Nat → Prop} {args : Array Value} (hx : p.tables.exec = Jvm.exec) (hb : c.code = method_13_code) (hml : c.maxLocals = 17) (hts : ∀ w ∈ WG, w.before args s = true) (hown : s.vm.findClass "BallothallLaw" = some m.cls) (hlocks : meth.locks = false) (hA : ∀ q, s.heap.size ≤ q → A q) (hG : KG z s) (hZ : FZ z A s) (mc ms c1 s1 : Nat) (hm : c1 ≤ mc) (hm2 : s1 ≤ ms) : ∀ (fu c0 s0 : Nat) (ad : Nat → Nat) (E : Ev) (M : Mm) (x13 : Int) (x14 : Int) (t : Nat) (w13 : Int) (w14 : Int) (F : Ev) (N : Mm), c0 + fu * 0 ≤ c1 → s0 + fu * 0 ≤ s1 → (∀ i, i < nE E0 → ad i = ad0 i) → nE E0 ≤ nE E → l_La_council_122 x2 x3 q4 x5 x7 x9 x11 x12 fu E M x13 x14 = some (t, w13, w14, F, N) → (∀ (ad1 : Nat → Nat), (∀ i, i < nE E0 → ad1 i = ad0 i) → nE E0 ≤ nE F → t = 1 → ∀ (H : Heap) (locs : List Loc) (ls : Array Slot), va_P z.1 classes (wv z ad1 F N) H → va_D A (wv z ad1 F N) → va_S A s.heap H locs → lv_has ls 17 [(1, .ref (ad1 1)), (2, .int (oI x2)), (3, .int (oI x3)), (4, .ref (ad1 q4)), (5, .long (oJ x5)), (7, .int (oI x7)), (9, .long (oJ x9)), (11, .int (oI x11)), (12, .int (oI x12)), (13, .int (oI w13))] → W p l e (rmK 4 109 mc ms) s m args below meth c H locs c1 s1 Q (F0 m 212 ls [])) → ∀ (H : Heap) (locs : List Loc) (ls : Array Slot), va_P z.1 classes (wv z ad E M) H → va_D A (wv z ad E M) → va_S A s.heap H locs → lv_has ls 17 [(1, .ref (ad 1)), (2, .int (oI x2)), (3, .int (oI x3)), (4, .ref (ad q4)), (5, .long (oJ x5)), (7, .int (oI x7)), (9, .long (oJ x9)), (11, .int (oI x11)), (12, .int (oI x12)), (13, .int (oI x13)), (14, .int (oI x14))] → W p l e (rmK 4 109 mc ms) s m args below meth c H locs c0 s0 Q (F0 m 122 ls []) := by
  intro fu
  induction fu with
  | zero =>
    intro c0 s0 ad E M x13 x14 t w13 w14 F N hc hs hag0 hE0 h
    have h : (none : Option (Nat × Int × Int × Ev × Mm)) = some _ := h
    cases h
  | succ fu ih =>
    intro c0 s0 ad E M x13 x14 t w13 w14 F N hc hs hag0 hE0 h k1 H locs ls hP hD hS hl
    obtain ⟨⟨t0, w130, w140, F9, N9⟩, g0, h⟩ := bd_e h
    refine W.wide (Nat.le_refl _) (Nat.le_refl _) (b_La_council_122b l z E0 ad0 ad E M x2 x3 q4 x5 x7 x9 x11 x12 x13 x14 t0 w130 w140 F9 N9 hx hb hml hts hown hlocks hA hG hZ mc ms c0 s0 (c0 + 0) (s0 + 0) (Nat.le_refl _) (Nat.le_refl _) (by omega) (by omega) hag0 hE0 g0 (fun ad1 ha he e0 => ?_) (fun ad1 ha he e0 => ?_) H locs ls hP hD hS hl)
    · subst e0
      have h := ite_t rfl h
      exact ih (c0 + 0) (s0 + 0) ad1 F9 N9 w130 w140 t w13 w14 F N (by omega) (by omega) ha he h k1
    · subst e0
      have h := ite_f (by decide) h
      obtain ⟨rfl, rfl, rfl, rfl, rfl⟩ := in5 h
      exact fun H locs ls hP hD hS hl => W.wide (by omega) (by omega) (k1 ad1 ha he rfl H locs ls hP hD hS hl)
set_option maxRecDepth 100000 in
set_option maxHeartbeats 4000000 in
theorem b_La_council_j265 (l : Launch) (z : Zz) (E0 : Ev) (ad0 : Nat → Nat) (ad : Nat → Nat) (E : Ev) (M : Mm) (x2 : Int) (x3 : Int) (q4 : Nat) (x5 : Int) (x7 : Int) (x9 : Int) (x12 : Int) (y0 : Int) (y1 : Int) (t : Nat) (w9 : Int) (w11 : Int) (w12 : Int) (F : Ev) (N : Mm) {Q : State → Prop} {p : Program} {e : Env} {s : State} {m : MethodId} {below : List Frame} {meth : Method} {c : Code} {A : Nat → Prop} {args : Array Value} (hx : p.tables.exec = Jvm.exec) (hb : c.code = method_13_code) (hml : c.maxLocals = 17) (hts : ∀ w ∈ WG, w.before args s = true) (hown : s.vm.findClass "BallothallLaw" = some m.cls) (hlocks : meth.locks = false) (hA : ∀ q, s.heap.size ≤ q → A q) (hG : KG z s) (hZ : FZ z A s) (mc ms c0 s0 c1 s1 : Nat) (hc : c0 + 0 ≤ c1) (hs : s0 + 0 ≤ s1) (hm : c1 ≤ mc) (hm2 : s1 ≤ ms) (hag0 : ∀ i, i < nE E0 → ad i = ad0 i) (hE0 : nE E0 ≤ nE E) (h : La_council_j265 E M x2 x3 q4 x5 x7 x9 x12 y0 y1 = some (t, w9, w11, w12, F, N)) (k0 : ∀ (ad1 : Nat → Nat), (∀ i, i < nE E0 → ad1 i = ad0 i) → nE E0 ≤ nE F → t = 0 → ∀ (H : Heap) (locs : List Loc) (ls : Array Slot), va_P z.1 classes (wv z ad1 F N) H → va_D A (wv z ad1 F N) → va_S A s.heap H locs → lv_has ls 17 [(1, .ref (ad1 1)), (2, .int (oI x2)), (3, .int (oI x3)), (4, .ref (ad1 q4)), (5, .long (oJ x5)), (7, .int (oI x7)), (9, .long (oJ w9)), (11, .int (oI w11)), (12, .int (oI w12))] → W p l e (rmK 4 109 mc ms) s m args below meth c H locs c1 s1 Q (F0 m 110 ls [])) (k1 : ∀ (ad1 : Nat → Nat), (∀ i, i < nE E0 → ad1 i = ad0 i) → nE E0 ≤ nE F → t = 1 → ∀ (H : Heap) (locs : List Loc) (ls : Array Slot), va_P z.1 classes (wv z ad1 F N) H → va_D A (wv z ad1 F N) → va_S A s.heap H locs → lv_has ls 17 [(3, .int (oI x3)), (5, .long (oJ x5)), (7, .int (oI x7)), (9, .long (oJ w9)), (11, .int (oI w11))] → W p l e (rmK 4 109 mc ms) s m args below meth c H locs c1 s1 Q (F0 m 281 ls [])) : ∀ (H : Heap) (locs : List Loc) (ls : Array Slot), va_P z.1 classes (wv z ad E M) H → va_D A (wv z ad E M) → va_S A s.heap H locs → lv_has ls 17 [(1, .ref (ad 1)), (2, .int (oI x2)), (3, .int (oI x3)), (4, .ref (ad q4)), (5, .long (oJ x5)), (7, .int (oI x7)), (9, .long (oJ x9)), (12, .int (oI x12))] → W p l e (rmK 4 109 mc ms) s m args below meth c H locs c0 s0 Q (F0 m 265 ls [.int (oI y0), .int (oI y1)]) := by
  intro H locs ls hP hD hS hl
  unfold La_council_j265 at h
  obtain ⟨hL, h⟩ := ck_e h
  obtain ⟨h_q4, h⟩ := ck_e h
  obtain ⟨ok141, h⟩ := ck_e h
  obtain ⟨ok142, h⟩ := ck_e h
  refine lv_icmp_ne (tgt := 272) hx hb d_L13_265 (by decide) (fun c9 => ?_) (fun c9 => ?_)
  · have h := ite_f (fun q => c9 ((oI_eq (a := y1) (b := y0) ok141 ok142).mpr q)) h
    refine lv_iconst (v := oI 0) hx hb d_L13_272 (by decide +kernel) ?_
    refine lv_istore (lv' := [(11, .int (oI 0)), (1, .ref (ad 1)), (2, .int (oI x2)), (3, .int (oI x3)), (4, .ref (ad q4)), (5, .long (oJ x5)), (7, .int (oI x7)), (9, .long (oJ x9)), (12, .int (oI x12))]) hx hb d_L13_273 hl (by decide) rfl (fun ls hl => ?_)
    refine lv_iinc (v := oI (x12 + 1)) (lv' := [(12, .int (oI (x12 + 1))), (11, .int (oI 0)), (1, .ref (ad 1)), (2, .int (oI x2)), (3, .int (oI x3)), (4, .ref (ad q4)), (5, .long (oJ x5)), (7, .int (oI x7)), (9, .long (oJ x9))]) hx hb d_L13_275 hl (k := 8) rfl (oI_add x12 1) (by decide) rfl (fun ls hl => ?_)
    refine lv_goto (tgt := 110) hx hb d_L13_278 (by decide) ?_
    obtain ⟨rfl, rfl, rfl, rfl, rfl, rfl⟩ := in6 h
    exact W.wide (by omega) (by omega) (k0 ad hag0 hE0 rfl H locs ls hP hD hS (lv_sub hl [2, 3, 4, 5, 6, 7, 8, 1, 0] rfl))
  · have h := ite_t ((oI_eq (a := y1) (b := y0) ok141 ok142).mp c9) h
    refine lv_iconst (v := oI 1) hx hb d_L13_268 (by decide +kernel) ?_
    refine lv_goto (tgt := 273) hx hb d_L13_269 (by decide) ?_
    refine lv_istore (lv' := [(11, .int (oI 1)), (1, .ref (ad 1)), (2, .int (oI x2)), (3, .int (oI x3)), (4, .ref (ad q4)), (5, .long (oJ x5)), (7, .int (oI x7)), (9, .long (oJ x9)), (12, .int (oI x12))]) hx hb d_L13_273 hl (by decide) rfl (fun ls hl => ?_)
    refine lv_iinc (v := oI (x12 + 1)) (lv' := [(12, .int (oI (x12 + 1))), (11, .int (oI 1)), (1, .ref (ad 1)), (2, .int (oI x2)), (3, .int (oI x3)), (4, .ref (ad q4)), (5, .long (oJ x5)), (7, .int (oI x7)), (9, .long (oJ x9))]) hx hb d_L13_275 hl (k := 8) rfl (oI_add x12 1) (by decide) rfl (fun ls hl => ?_)
    refine lv_goto (tgt := 110) hx hb d_L13_278 (by decide) ?_
    obtain ⟨rfl, rfl, rfl, rfl, rfl, rfl⟩ := in6 h
    exact W.wide (by omega) (by omega) (k0 ad hag0 hE0 rfl H locs ls hP hD hS (lv_sub hl [2, 3, 4, 5, 6, 7, 8, 1, 0] rfl))
set_option maxRecDepth 100000 in
set_option maxHeartbeats 4000000 in
theorem b_La_council_j255 (l : Launch) (z : Zz) (E0 : Ev) (ad0 : Nat → Nat) (ad : Nat → Nat) (E : Ev) (M : Mm) (x2 : Int) (x3 : Int) (q4 : Nat) (x5 : Int) (x7 : Int) (x9 : Int) (x12 : Int) (x13 : Int) (y0 : Int) (t : Nat) (w9 : Int) (w11 : Int) (w12 : Int) (F : Ev) (N : Mm) {Q : State → Prop} {p : Program} {e : Env} {s : State} {m : MethodId} {below : List Frame} {meth : Method} {c : Code} {A : Nat → Prop} {args : Array Value} (hx : p.tables.exec = Jvm.exec) (hb : c.code = method_13_code) (hml : c.maxLocals = 17) (hts : ∀ w ∈ WG, w.before args s = true) (hown : s.vm.findClass "BallothallLaw" = some m.cls) (hlocks : meth.locks = false) (hA : ∀ q, s.heap.size ≤ q → A q) (hG : KG z s) (hZ : FZ z A s) (mc ms c0 s0 c1 s1 : Nat) (hc : c0 + 0 ≤ c1) (hs : s0 + 0 ≤ s1) (hm : c1 ≤ mc) (hm2 : s1 ≤ ms) (hag0 : ∀ i, i < nE E0 → ad i = ad0 i) (hE0 : nE E0 ≤ nE E) (h : La_council_j255 E M x2 x3 q4 x5 x7 x9 x12 x13 y0 = some (t, w9, w11, w12, F, N)) (k0 : ∀ (ad1 : Nat → Nat), (∀ i, i < nE E0 → ad1 i = ad0 i) → nE E0 ≤ nE F → t = 0 → ∀ (H : Heap) (locs : List Loc) (ls : Array Slot), va_P z.1 classes (wv z ad1 F N) H → va_D A (wv z ad1 F N) → va_S A s.heap H locs → lv_has ls 17 [(1, .ref (ad1 1)), (2, .int (oI x2)), (3, .int (oI x3)), (4, .ref (ad1 q4)), (5, .long (oJ x5)), (7, .int (oI x7)), (9, .long (oJ w9)), (11, .int (oI w11)), (12, .int (oI w12))] → W p l e (rmK 4 109 mc ms) s m args below meth c H locs c1 s1 Q (F0 m 110 ls [])) (k1 : ∀ (ad1 : Nat → Nat), (∀ i, i < nE E0 → ad1 i = ad0 i) → nE E0 ≤ nE F → t = 1 → ∀ (H : Heap) (locs : List Loc) (ls : Array Slot), va_P z.1 classes (wv z ad1 F N) H → va_D A (wv z ad1 F N) → va_S A s.heap H locs → lv_has ls 17 [(3, .int (oI x3)), (5, .long (oJ x5)), (7, .int (oI x7)), (9, .long (oJ w9)), (11, .int (oI w11))] → W p l e (rmK 4 109 mc ms) s m args below meth c H locs c1 s1 Q (F0 m 281 ls [])) : ∀ (H : Heap) (locs : List Loc) (ls : Array Slot), va_P z.1 classes (wv z ad E M) H → va_D A (wv z ad E M) → va_S A s.heap H locs → lv_has ls 17 [(1, .ref (ad 1)), (2, .int (oI x2)), (3, .int (oI x3)), (4, .ref (ad q4)), (5, .long (oJ x5)), (7, .int (oI x7)), (9, .long (oJ x9)), (12, .int (oI x12)), (13, .int (oI x13))] → W p l e (rmK 4 109 mc ms) s m args below meth c H locs c0 s0 Q (F0 m 255 ls [.int (oI y0)]) := by
  intro H locs ls hP hD hS hl
  unfold La_council_j255 at h
  obtain ⟨hL, h⟩ := ck_e h
  obtain ⟨h_q4, h⟩ := ck_e h
  refine lv_iload hx hb d_L13_255 (lv_at hl 8 rfl) ?_
  obtain ⟨ok140, h⟩ := ck_e h
  refine lv_if_le (tgt := 264) hx hb d_L13_257 (by decide) (fun c9 => ?_) (fun c9 => ?_)
  · have h := ite_t ((oI_le0 ok140).mp c9) h
    refine lv_iconst (v := oI 0) hx hb d_L13_264 (by decide +kernel) ?_
    exact b_La_council_j265 l z E0 ad0 ad E M x2 x3 q4 x5 x7 x9 x12 0 y0 t w9 w11 w12 F N hx hb hml hts hown hlocks hA hG hZ mc ms _ _ c1 s1 (by omega) (by omega) hm hm2 hag0 hE0 h k0 k1 H locs ls hP hD hS (lv_sub hl [0, 1, 2, 3, 4, 5, 6, 7] rfl)
  · have h := ite_f (fun q => c9 ((oI_le0 ok140).mpr q)) h
    refine lv_iconst (v := oI 1) hx hb d_L13_260 (by decide +kernel) ?_
    refine lv_goto (tgt := 265) hx hb d_L13_261 (by decide) ?_
    exact b_La_council_j265 l z E0 ad0 ad E M x2 x3 q4 x5 x7 x9 x12 1 y0 t w9 w11 w12 F N hx hb hml hts hown hlocks hA hG hZ mc ms _ _ c1 s1 (by omega) (by omega) hm hm2 hag0 hE0 h k0 k1 H locs ls hP hD hS (lv_sub hl [0, 1, 2, 3, 4, 5, 6, 7] rfl)
set_option maxRecDepth 100000 in
set_option maxHeartbeats 4000000 in
theorem b_La_council_110b (l : Launch) (z : Zz) (E0 : Ev) (ad0 : Nat → Nat) (ad : Nat → Nat) (E : Ev) (M : Mm) (x2 : Int) (x3 : Int) (q4 : Nat) (x5 : Int) (x7 : Int) (x9 : Int) (x11 : Int) (x12 : Int) (t : Nat) (w9 : Int) (w11 : Int) (w12 : Int) (F : Ev) (N : Mm) {Q : State → Prop} {p : Program} {e : Env} {s : State} {m : MethodId} {below : List Frame} {meth : Method} {c : Code} {A : Nat → Prop} {args : Array Value} (hx : p.tables.exec = Jvm.exec) (hb : c.code = method_13_code) (hml : c.maxLocals = 17) (hts : ∀ w ∈ WG, w.before args s = true) (hown : s.vm.findClass "BallothallLaw" = some m.cls) (hlocks : meth.locks = false) (hA : ∀ q, s.heap.size ≤ q → A q) (hG : KG z s) (hZ : FZ z A s) (mc ms c0 s0 c1 s1 : Nat) (hc : c0 + 0 ≤ c1) (hs : s0 + 0 ≤ s1) (hm : c1 ≤ mc) (hm2 : s1 ≤ ms) (hag0 : ∀ i, i < nE E0 → ad i = ad0 i) (hE0 : nE E0 ≤ nE E) (h : La_council_110b E M x2 x3 q4 x5 x7 x9 x11 x12 = some (t, w9, w11, w12, F, N)) (k0 : ∀ (ad1 : Nat → Nat), (∀ i, i < nE E0 → ad1 i = ad0 i) → nE E0 ≤ nE F → t = 0 → ∀ (H : Heap) (locs : List Loc) (ls : Array Slot), va_P z.1 classes (wv z ad1 F N) H → va_D A (wv z ad1 F N) → va_S A s.heap H locs → lv_has ls 17 [(1, .ref (ad1 1)), (2, .int (oI x2)), (3, .int (oI x3)), (4, .ref (ad1 q4)), (5, .long (oJ x5)), (7, .int (oI x7)), (9, .long (oJ w9)), (11, .int (oI w11)), (12, .int (oI w12))] → W p l e (rmK 4 109 mc ms) s m args below meth c H locs c1 s1 Q (F0 m 110 ls [])) (k1 : ∀ (ad1 : Nat → Nat), (∀ i, i < nE E0 → ad1 i = ad0 i) → nE E0 ≤ nE F → t = 1 → ∀ (H : Heap) (locs : List Loc) (ls : Array Slot), va_P z.1 classes (wv z ad1 F N) H → va_D A (wv z ad1 F N) → va_S A s.heap H locs → lv_has ls 17 [(3, .int (oI x3)), (5, .long (oJ x5)), (7, .int (oI x7)), (9, .long (oJ w9)), (11, .int (oI w11))] → W p l e (rmK 4 109 mc ms) s m args below meth c H locs c1 s1 Q (F0 m 281 ls [])) : ∀ (H : Heap) (locs : List Loc) (ls : Array Slot), va_P z.1 classes (wv z ad E M) H → va_D A (wv z ad E M) → va_S A s.heap H locs → lv_has ls 17 [(1, .ref (ad 1)), (2, .int (oI x2)), (3, .int (oI x3)), (4, .ref (ad q4)), (5, .long (oJ x5)), (7, .int (oI x7)), (9, .long (oJ x9)), (11, .int (oI x11)), (12, .int (oI x12))] → W p l e (rmK 4 109 mc ms) s m args below meth c H locs c0 s0 Q (F0 m 110 ls []) := by
  intro H locs ls hP hD hS hl
  unfold La_council_110b at h
  obtain ⟨hL, h⟩ := ck_e h
  obtain ⟨h_q4, h⟩ := ck_e h
  refine lv_iload hx hb d_L13_110 (lv_at hl 8 rfl) ?_
  refine lv_iload_n hx hb d_L13_112 rfl (lv_at hl 1 rfl) ?_
  obtain ⟨ok115, h⟩ := ck_e h
  obtain ⟨ok116, h⟩ := ck_e h
  refine lv_icmp_ge (tgt := 281) hx hb d_L13_113 (by decide) (fun c9 => ?_) (fun c9 => ?_)
  · have h := ite_t ((oI_le (a := x2) (b := x12) ok116 ok115).mp c9) h
    obtain ⟨rfl, rfl, rfl, rfl, rfl, rfl⟩ := in6 h
    exact W.wide (by omega) (by omega) (k1 ad hag0 hE0 rfl H locs ls hP hD hS (lv_sub hl [2, 4, 5, 6, 7] rfl))
  · have h := ite_f (fun q => c9 ((oI_le (a := x2) (b := x12) ok116 ok115).mpr q)) h
    refine lv_iconst (v := oI 0) hx hb d_L13_116 (by decide +kernel) ?_
    refine lv_istore (lv' := [(13, .int (oI 0)), (1, .ref (ad 1)), (2, .int (oI x2)), (3, .int (oI x3)), (4, .ref (ad q4)), (5, .long (oJ x5)), (7, .int (oI x7)), (9, .long (oJ x9)), (11, .int (oI x11)), (12, .int (oI x12))]) hx hb d_L13_117 hl (by decide) rfl (fun ls hl => ?_)
    refine lv_iconst (v := oI 0) hx hb d_L13_119 (by decide +kernel) ?_
    refine lv_istore (lv' := [(14, .int (oI 0)), (13, .int (oI 0)), (1, .ref (ad 1)), (2, .int (oI x2)), (3, .int (oI x3)), (4, .ref (ad q4)), (5, .long (oJ x5)), (7, .int (oI x7)), (9, .long (oJ x9)), (11, .int (oI x11)), (12, .int (oI x12))]) hx hb d_L13_120 hl (by decide) rfl (fun ls hl => ?_)
    obtain ⟨⟨t132, v132_13, v132_14, E132, M132⟩, g132, h⟩ := bd_e h
    obtain ⟨hgw132, h⟩ := ck_e h
    obtain ⟨hL132, h⟩ := ck_e h
    obtain ⟨ok132, h⟩ := ck_e h
    refine s_La_council_122 l z E ad x2 x3 q4 x5 x7 x9 x11 x12 hx hb hml hts hown hlocks hA hG hZ mc ms (c0 + 0) (s0 + 0) (by omega) (by omega) 5000 _ _ ad E M 0 0 t132 v132_13 v132_14 E132 M132 (by omega) (by omega) (fun _ _ => rfl) (Nat.le_refl _) g132 (fun ad132 hag132 hEE132 e132 H locs ls hP hD hS hl => ?_) H locs ls hP hD hS (lv_sub hl [2, 3, 4, 5, 6, 7, 8, 9, 10, 1, 0] rfl)
    have hag0 : ∀ i, i < nE E0 → ad132 i = ad0 i := fun i hi => (hag132 i (Nat.lt_of_lt_of_le hi hE0)).trans (hag0 i hi)
    have hE0 : nE E0 ≤ nE E132 := Nat.le_trans hE0 hgw132.1
    have hL : Lay E132 := hL132
    have h_q4 : isIA E132 q4 := isA_up hgw132 h_q4
    refine lv_lload hx hb d_L13_212 (lv_at hl 6 rfl) ?_
    refine lv_aload_n hx hb d_L13_214 rfl (lv_at hl 0 rfl) ?_
    refine lv_iload hx hb d_L13_215 (lv_at hl 8 rfl) ?_
    obtain ⟨⟨r133, M133⟩, g133, h⟩ := bd_e h
    refine kV (As := [.int (oI x12)]) (rest := [.long (oJ x9)]) (s_B_ordersTurned l z ad132 E132 M132 x12 r133 M133 hL g133) hx hb hml hown hts w_1671 w_1668 w_1669 w_1670 w_1 md_41465a ⟨Nat.le_of_ble_eq_true rfl, Nat.le_of_ble_eq_true rfl⟩ hG hZ hP hD hS hA 1 (wv_o (ci := 11) (yi_1 hL) (yt_1 hL)) rfl rfl rfl hl.1 rfl (Nat.le_of_ble_eq_true rfl) d_L13_217 ⟨(show _ ≤ mc by omega), (show _ ≤ ms by omega)⟩ (fun _ H locs hP hD hS => ?_)
    have hP : va_P z.1 classes (wv z ad132 E132 M133) H := hP
    have hD : va_D A (wv z ad132 E132 M133) := hD
    refine W.eq (g2 := F0 m 220 ls [.long (oJ r133), .long (oJ x9)]) rfl ?_
    refine lv_ladd hx hb d_L13_220 ?_
    refine nrmL (oJ_add _ _) ?_
    refine lv_lstore (lv' := [(9, .long (oJ (x9 + r133))), (1, .ref (ad132 1)), (2, .int (oI x2)), (3, .int (oI x3)), (4, .ref (ad132 q4)), (5, .long (oJ x5)), (7, .int (oI x7)), (11, .int (oI x11)), (12, .int (oI x12)), (13, .int (oI v132_13))]) hx hb d_L13_221 hl (by decide) rfl (fun ls hl => ?_)
    refine lv_iload hx hb d_L13_223 (lv_at hl 7 rfl) ?_
    obtain ⟨ok134, h⟩ := ck_e h
    refine lv_if_eq (tgt := 272) hx hb d_L13_225 (by decide) (fun c9 => ?_) (fun c9 => ?_)
    · have h := ite_t ((oI_eq0 ok134).mp c9) h
      refine lv_iconst (v := oI 0) hx hb d_L13_272 (by decide +kernel) ?_
      refine lv_istore (lv' := [(11, .int (oI 0)), (9, .long (oJ (x9 + r133))), (1, .ref (ad132 1)), (2, .int (oI x2)), (3, .int (oI x3)), (4, .ref (ad132 q4)), (5, .long (oJ x5)), (7, .int (oI x7)), (12, .int (oI x12)), (13, .int (oI v132_13))]) hx hb d_L13_273 hl (by decide) rfl (fun ls hl => ?_)
      refine lv_iinc (v := oI (x12 + 1)) (lv' := [(12, .int (oI (x12 + 1))), (11, .int (oI 0)), (9, .long (oJ (x9 + r133))), (1, .ref (ad132 1)), (2, .int (oI x2)), (3, .int (oI x3)), (4, .ref (ad132 q4)), (5, .long (oJ x5)), (7, .int (oI x7)), (13, .int (oI v132_13))]) hx hb d_L13_275 hl (k := 8) rfl (oI_add x12 1) (by decide) rfl (fun ls hl => ?_)
      refine lv_goto (tgt := 110) hx hb d_L13_278 (by decide) ?_
      obtain ⟨rfl, rfl, rfl, rfl, rfl, rfl⟩ := in6 h
      exact W.wide (by omega) (by omega) (k0 ad132 hag0 hE0 rfl H locs ls hP hD hS (lv_sub hl [3, 4, 5, 6, 7, 8, 2, 1, 0] rfl))
    · have h := ite_f (fun q => c9 ((oI_eq0 ok134).mpr q)) h
      refine lv_aload_n hx hb d_L13_228 rfl (lv_at hl 1 rfl) ?_
      refine lv_iload hx hb d_L13_229 (lv_at hl 8 rfl) ?_
      obtain ⟨⟨r135, M135⟩, g135, h⟩ := bd_e h
      refine kV (As := [.int (oI x12)]) (rest := []) (s_B_swings l z ad132 E132 M133 x12 r135 M135 hL g135) hx hb hml hown hts w_1677 w_1674 w_1675 w_1676 w_1 md_fa578c ⟨Nat.le_of_ble_eq_true rfl, Nat.le_of_ble_eq_true rfl⟩ hG hZ hP hD hS hA 1 (wv_o (ci := 11) (yi_1 hL) (yt_1 hL)) rfl rfl rfl hl.1 rfl (Nat.le_of_ble_eq_true rfl) d_L13_231 ⟨(show _ ≤ mc by omega), (show _ ≤ ms by omega)⟩ (fun _ H locs hP hD hS => ?_)
      have hP : va_P z.1 classes (wv z ad132 E132 M135) H := hP
      have hD : va_D A (wv z ad132 E132 M135) := hD
      refine W.eq (g2 := F0 m 234 ls [.int (oI r135)]) rfl ?_
      refine lv_iload hx hb d_L13_234 (lv_at hl 9 rfl) ?_
      obtain ⟨ok136, h⟩ := ck_e h
      obtain ⟨ok137, h⟩ := ck_e h
      refine lv_icmp_ne (tgt := 272) hx hb d_L13_236 (by decide) (fun c9 => ?_) (fun c9 => ?_)
      · have h := ite_f (fun q => c9 ((oI_eq (a := r135) (b := v132_13) ok136 ok137).mpr q)) h
        refine lv_iconst (v := oI 0) hx hb d_L13_272 (by decide +kernel) ?_
        refine lv_istore (lv' := [(11, .int (oI 0)), (9, .long (oJ (x9 + r133))), (1, .ref (ad132 1)), (2, .int (oI x2)), (3, .int (oI x3)), (4, .ref (ad132 q4)), (5, .long (oJ x5)), (7, .int (oI x7)), (12, .int (oI x12)), (13, .int (oI v132_13))]) hx hb d_L13_273 hl (by decide) rfl (fun ls hl => ?_)
        refine lv_iinc (v := oI (x12 + 1)) (lv' := [(12, .int (oI (x12 + 1))), (11, .int (oI 0)), (9, .long (oJ (x9 + r133))), (1, .ref (ad132 1)), (2, .int (oI x2)), (3, .int (oI x3)), (4, .ref (ad132 q4)), (5, .long (oJ x5)), (7, .int (oI x7)), (13, .int (oI v132_13))]) hx hb d_L13_275 hl (k := 8) rfl (oI_add x12 1) (by decide) rfl (fun ls hl => ?_)
        refine lv_goto (tgt := 110) hx hb d_L13_278 (by decide) ?_
        obtain ⟨rfl, rfl, rfl, rfl, rfl, rfl⟩ := in6 h
        exact W.wide (by omega) (by omega) (k0 ad132 hag0 hE0 rfl H locs ls hP hD hS (lv_sub hl [3, 4, 5, 6, 7, 8, 2, 1, 0] rfl))
      · have h := ite_t ((oI_eq (a := r135) (b := v132_13) ok136 ok137).mp c9) h
        refine lv_aload_n hx hb d_L13_239 rfl (lv_at hl 1 rfl) ?_
        refine lv_iload hx hb d_L13_240 (lv_at hl 8 rfl) ?_
        obtain ⟨⟨r138, M138⟩, g138, h⟩ := bd_e h
        refine kV (As := [.int (oI x12)]) (rest := []) (s_B_ordersTurned l z ad132 E132 M135 x12 r138 M138 hL g138) hx hb hml hown hts w_1671 w_1668 w_1669 w_1670 w_1 md_41465a ⟨Nat.le_of_ble_eq_true rfl, Nat.le_of_ble_eq_true rfl⟩ hG hZ hP hD hS hA 1 (wv_o (ci := 11) (yi_1 hL) (yt_1 hL)) rfl rfl rfl hl.1 rfl (Nat.le_of_ble_eq_true rfl) d_L13_242 ⟨(show _ ≤ mc by omega), (show _ ≤ ms by omega)⟩ (fun _ H locs hP hD hS => ?_)
        have hP : va_P z.1 classes (wv z ad132 E132 M138) H := hP
        have hD : va_D A (wv z ad132 E132 M138) := hD
        refine W.eq (g2 := F0 m 245 ls [.long (oJ r138)]) rfl ?_
        refine lv_lconst (v := oJ 0) hx hb d_L13_245 (by decide +kernel) ?_
        obtain ⟨ok139, h⟩ := ck_e h
        refine W.lcmp hx hb d_L13_246 ?_
        refine nrm (cmp_val (a := r138) (b := (0 : Int)) ok139 (by decide)) ?_
        refine lv_if_le (tgt := 254) hx hb d_L13_247 (by decide) (fun c9 => ?_) (fun c9 => ?_)
        · have h := ite_t ((cmp_le r138 (0 : Int)).mp c9) h
          refine lv_iconst (v := oI 0) hx hb d_L13_254 (by decide +kernel) ?_
          exact b_La_council_j255 l z E0 ad0 ad132 E132 M138 x2 x3 q4 x5 x7 (x9 + r133) x12 v132_13 0 t w9 w11 w12 F N hx hb hml hts hown hlocks hA hG hZ mc ms _ _ c1 s1 (by omega) (by omega) hm hm2 hag0 hE0 h k0 k1 H locs ls hP hD hS (lv_sub hl [1, 2, 3, 4, 5, 6, 0, 8, 9] rfl)
        · have h := ite_f (fun q => c9 ((cmp_le r138 (0 : Int)).mpr q)) h
          refine lv_iconst (v := oI 1) hx hb d_L13_250 (by decide +kernel) ?_
          refine lv_goto (tgt := 255) hx hb d_L13_251 (by decide) ?_
          exact b_La_council_j255 l z E0 ad0 ad132 E132 M138 x2 x3 q4 x5 x7 (x9 + r133) x12 v132_13 1 t w9 w11 w12 F N hx hb hml hts hown hlocks hA hG hZ mc ms _ _ c1 s1 (by omega) (by omega) hm hm2 hag0 hE0 h k0 k1 H locs ls hP hD hS (lv_sub hl [1, 2, 3, 4, 5, 6, 0, 8, 9] rfl)
set_option maxRecDepth 100000 in
set_option maxHeartbeats 4000000 in
theorem s_La_council_110 (l : Launch) (z : Zz) (E0 : Ev) (ad0 : Nat → Nat) (x2 : Int) (x3 : Int) (q4 : Nat) (x5 : Int) (x7 : Int) {Q : State → Prop} {p : Program} {e : Env} {s : State} {m : MethodId} {below : List Frame} {meth : Method} {c : Code} {A : Nat → Prop} {args : Array Value} (hx : p.tables.exec = Jvm.exec) (hb : c.code = method_13_code) (hml : c.maxLocals = 17) (hts : ∀ w ∈ WG, w.before args s = true) (hown : s.vm.findClass "BallothallLaw" = some m.cls) (hlocks : meth.locks = false) (hA : ∀ q, s.heap.size ≤ q → A q) (hG : KG z s) (hZ : FZ z A s) (mc ms c1 s1 : Nat) (hm : c1 ≤ mc) (hm2 : s1 ≤ ms) : ∀ (fu c0 s0 : Nat) (ad : Nat → Nat) (E : Ev) (M : Mm) (x9 : Int) (x11 : Int) (x12 : Int) (t : Nat) (w9 : Int) (w11 : Int) (w12 : Int) (F : Ev) (N : Mm), c0 + fu * 0 ≤ c1 → s0 + fu * 0 ≤ s1 → (∀ i, i < nE E0 → ad i = ad0 i) → nE E0 ≤ nE E → l_La_council_110 x2 x3 q4 x5 x7 fu E M x9 x11 x12 = some (t, w9, w11, w12, F, N) → (∀ (ad1 : Nat → Nat), (∀ i, i < nE E0 → ad1 i = ad0 i) → nE E0 ≤ nE F → t = 1 → ∀ (H : Heap) (locs : List Loc) (ls : Array Slot), va_P z.1 classes (wv z ad1 F N) H → va_D A (wv z ad1 F N) → va_S A s.heap H locs → lv_has ls 17 [(3, .int (oI x3)), (5, .long (oJ x5)), (7, .int (oI x7)), (9, .long (oJ w9)), (11, .int (oI w11))] → W p l e (rmK 4 109 mc ms) s m args below meth c H locs c1 s1 Q (F0 m 281 ls [])) → ∀ (H : Heap) (locs : List Loc) (ls : Array Slot), va_P z.1 classes (wv z ad E M) H → va_D A (wv z ad E M) → va_S A s.heap H locs → lv_has ls 17 [(1, .ref (ad 1)), (2, .int (oI x2)), (3, .int (oI x3)), (4, .ref (ad q4)), (5, .long (oJ x5)), (7, .int (oI x7)), (9, .long (oJ x9)), (11, .int (oI x11)), (12, .int (oI x12))] → W p l e (rmK 4 109 mc ms) s m args below meth c H locs c0 s0 Q (F0 m 110 ls []) := by
  intro fu
  induction fu with
  | zero =>
    intro c0 s0 ad E M x9 x11 x12 t w9 w11 w12 F N hc hs hag0 hE0 h
    have h : (none : Option (Nat × Int × Int × Int × Ev × Mm)) = some _ := h
    cases h
  | succ fu ih =>
    intro c0 s0 ad E M x9 x11 x12 t w9 w11 w12 F N hc hs hag0 hE0 h k1 H locs ls hP hD hS hl
    obtain ⟨⟨t0, w90, w110, w120, F9, N9⟩, g0, h⟩ := bd_e h
    refine W.wide (Nat.le_refl _) (Nat.le_refl _) (b_La_council_110b l z E0 ad0 ad E M x2 x3 q4 x5 x7 x9 x11 x12 t0 w90 w110 w120 F9 N9 hx hb hml hts hown hlocks hA hG hZ mc ms c0 s0 (c0 + 0) (s0 + 0) (Nat.le_refl _) (Nat.le_refl _) (by omega) (by omega) hag0 hE0 g0 (fun ad1 ha he e0 => ?_) (fun ad1 ha he e0 => ?_) H locs ls hP hD hS hl)
    · subst e0
      have h := ite_t rfl h
      exact ih (c0 + 0) (s0 + 0) ad1 F9 N9 w90 w110 w120 t w9 w11 w12 F N (by omega) (by omega) ha he h k1
    · subst e0
      have h := ite_f (by decide) h
      obtain ⟨rfl, rfl, rfl, rfl, rfl, rfl⟩ := in6 h
      exact fun H locs ls hP hD hS hl => W.wide (by omega) (by omega) (k1 ad1 ha he rfl H locs ls hP hD hS hl)
set_option maxRecDepth 100000 in
set_option maxHeartbeats 4000000 in
theorem b_La_council_j300 (l : Launch) (z : Zz) (E0 : Ev) (ad0 : Nat → Nat) (ad : Nat → Nat) (E : Ev) (M : Mm) (y0 : Int) (y1 : Int) (r : Int) (F : Ev) (N : Mm) {p : Program} {e : Env} {s : State} {m : MethodId} {below : List Frame} {meth : Method} {c : Code} {A : Nat → Prop} {args : Array Value} (hx : p.tables.exec = Jvm.exec) (hb : c.code = method_13_code) (hml : c.maxLocals = 17) (hts : ∀ w ∈ WG, w.before args s = true) (hown : s.vm.findClass "BallothallLaw" = some m.cls) (hlocks : meth.locks = false) (hA : ∀ q, s.heap.size ≤ q → A q) (hG : KG z s) (hZ : FZ z A s) (hr : meth.sig.returnType = (some .boolean)) (mc ms c0 s0 c1 s1 : Nat) (hc : c0 + 0 ≤ c1) (hs : s0 + 0 ≤ s1) (hm : c1 ≤ mc) (hm2 : s1 ≤ ms) (hag0 : ∀ i, i < nE E0 → ad i = ad0 i) (hE0 : nE E0 ≤ nE E) (h : La_council_j300 E M y0 y1 = some (r, F, N)) : ∀ (H : Heap) (locs : List Loc) (ls : Array Slot), va_P z.1 classes (wv z ad E M) H → va_D A (wv z ad E M) → va_S A s.heap H locs → lv_has ls 17 [] → W p l e (rmK 4 109 mc ms) s m args below meth c H locs c0 s0 (MQ below (QK z A (fun u => some (.int (oI r))) (fun u => wv z (adj E0 ad0 u) F N)) args s c1 s1 A) (F0 m 300 ls [.long (oJ y0), .long (oJ y1)]) := by
  intro H locs ls hP hD hS hl
  unfold La_council_j300 at h
  obtain ⟨hL, h⟩ := ck_e h
  obtain ⟨ok147, h⟩ := ck_e h
  obtain ⟨ok148, h⟩ := ck_e h
  refine W.lcmp hx hb d_L13_300 ?_
  refine nrm (cmp_val (a := y1) (b := y0) ok147 ok148) ?_
  refine lv_if_ne (tgt := 308) hx hb d_L13_301 (by decide) (fun c9 => ?_) (fun c9 => ?_)
  · have h := ite_f (fun q => c9 ((cmp_eq y1 y0).mpr q)) h
    refine lv_iconst (v := oI 0) hx hb d_L13_308 (by decide +kernel) ?_
    refine W.wide (k := c1) (n := s1) (by omega) (by omega) ?_
    obtain ⟨rfl, rfl, rfl⟩ := in3 h
    exact W.zret hx hb hr rfl (fun t ht hW => qkA hP hD hS ad (congrArg (fun q => wv z q E M) (adj_self hag0).symm) rfl ht) hS.2.2 d_L13_309
  · have h := ite_t ((cmp_eq y1 y0).mp c9) h
    refine lv_iconst (v := oI 1) hx hb d_L13_304 (by decide +kernel) ?_
    refine lv_goto (tgt := 309) hx hb d_L13_305 (by decide) ?_
    refine W.wide (k := c1) (n := s1) (by omega) (by omega) ?_
    obtain ⟨rfl, rfl, rfl⟩ := in3 h
    exact W.zret hx hb hr rfl (fun t ht hW => qkA hP hD hS ad (congrArg (fun q => wv z q E M) (adj_self hag0).symm) rfl ht) hS.2.2 d_L13_309
set_option maxRecDepth 100000 in
set_option maxHeartbeats 4000000 in
theorem s_La_council (l : Launch) (z : Zz) (ad : Nat → Nat) (E : Ev) (M : Mm) (p0 : Nat) (r : Int) (F : Ev) (N : Mm) (h : f_La_council E M p0 = some (r, F, N)) : CT l z ⟨"BallothallLaw", "council", "([I)Z"⟩ method_13_code 17 (some .boolean) [.ref (ad p0)] (wv z ad E M) 4 109 351 10103 (fun u => some (.int (oI r))) (fun u => wv z (adj E ad u) F N) := by
  refine CT.of (own := "BallothallLaw") (by decide +kernel) (Nat.le_of_ble_eq_true rfl) rfl (fun p e s m below meth c A ls hx hb hml hr hts hown hlocks hin hA hG hZ hP hD hS hl => ?_)
  have hl : lv_has ls 17 [(0, .ref (ad p0))] := hl
  have key : ∀ (E0 : Ev) (ad0 : Nat → Nat) (mc ms c0 s0 c1 s1 : Nat) (H : Heap) (locs : List Loc) (args : Array Value), c0 + 351 ≤ c1 → s0 + 10103 ≤ s1 → c1 ≤ mc → s1 ≤ ms → (∀ i, i < nE E0 → ad i = ad0 i) → nE E0 ≤ nE E → (∀ w ∈ WG, w.before args s = true) → va_P z.1 classes (wv z ad E M) H → va_S A s.heap H locs → W p l e (rmK 4 109 mc ms) s m args below meth c H locs c0 s0 (MQ below (QK z A (fun u => some (.int (oI r))) (fun u => wv z (adj E0 ad0 u) F N)) args s c1 s1 A) (F0 m 0 ls []) := by
    intro E0 ad0 mc ms c0 s0 c1 s1 H locs args hc hs hm hm2 hag0 hE0 hts hP hS
    unfold f_La_council at h
    obtain ⟨h_p0, h⟩ := ck_e h
    obtain ⟨p100, ep100, h⟩ := nb_e h
    obtain ⟨E100, eE100, h⟩ := nb_e h
    obtain ⟨M100, eM100, h⟩ := nb_e h
    refine m_newO (ci := 11) (C := "Ballothall") (T := TX11) (n := 14) hx hb hts iX11 tyX11_ok hown w_32 w_33 w_1 rfl (fun _ => fsX11) hG hP hD hS hA (show _ ≤ mc by omega) (show _ ≤ ms by omega) d_L13_0 (fun ad100 H hag100 hP hD hS => ?_)
    have hP : va_P z.1 classes (wv z ad100 E100 M100) H := by rw [eE100, eM100]; exact hP
    have hD : va_D A (wv z ad100 E100 M100) := by rw [eE100, eM100]; exact hD
    refine W.eq (g2 := F0 m 3 ls (.ref (ad100 p100) :: [])) (by rw [ep100] <;> rfl) ?_
    have hl : lv_has ls 17 [(0, .ref (ad100 p0))] := by rw [hag100 p0 h_p0.1]; exact hl
    have hgw100 : Gw E E100 := by rw [eE100]; exact gw_new _ _
    have hag0 : ∀ i, i < nE E0 → ad100 i = ad0 i := fun i hi => (hag100 i (Nat.lt_of_lt_of_le hi hE0)).trans (hag0 i hi)
    have hE0 : nE E0 ≤ nE E100 := Nat.le_trans hE0 hgw100.1
    have h_p0 : isIA E100 p0 := isA_up hgw100 h_p0
    have h_p100 : isO 11 E100 p100 := by rw [ep100, eE100]; exact ⟨new_i _ _, new_T _ _⟩
    refine lv_dup hx hb d_L13_3 rfl ?_
    obtain ⟨⟨E101, M101⟩, g101, h⟩ := bd_e h
    obtain ⟨hgw101, h⟩ := ck_e h
    refine kI (As := []) (rest := [.ref (ad100 p100)]) (s_B_init l z ad100 E100 M100 p100 E101 M101 g101) hx hb hml hown hts w_36 w_34 w_35 rfl w_1 md_22f6df ⟨Nat.le_of_ble_eq_true rfl, Nat.le_of_ble_eq_true rfl⟩ hG hZ hP hD hS hA rfl hl.1 rfl (Nat.le_of_ble_eq_true rfl) d_L13_4 ⟨(show _ ≤ mc by omega), (show _ ≤ ms by omega)⟩ (fun u101 H locs hP hD hS => ?_)
    obtain ⟨ad101, had101⟩ : ∃ q, q = adj E100 ad100 u101 := ⟨_, rfl⟩
    have hP : va_P z.1 classes (wv z ad101 E101 M101) H := by rw [had101]; exact hP
    have hD : va_D A (wv z ad101 E101 M101) := by rw [had101]; exact hD
    have hag101 : ∀ i, i < nE E100 → ad101 i = ad100 i := fun i hi => by rw [had101]; exact adj_lt hi
    have hl : lv_has ls 17 [(0, .ref (ad101 p0))] := by rw [hag101 p0 h_p0.1]; exact hl
    refine W.eq (g2 := F0 m 7 ls [.ref (ad101 p100)]) (by rw [hag101 p100 h_p100.1] <;> rfl) ?_
    have hag0 : ∀ i, i < nE E0 → ad101 i = ad0 i := fun i hi => (hag101 i (Nat.lt_of_lt_of_le hi hE0)).trans (hag0 i hi)
    have hE0 : nE E0 ≤ nE E101 := Nat.le_trans hE0 hgw101.1
    have h_p0 : isIA E101 p0 := isA_up hgw101 h_p0
    have h_p100 : isO 11 E101 p100 := isO_up hgw101 h_p100
    obtain ⟨⟨hL, ep1⟩, h⟩ := ck_e h
    refine W.eq (g2 := F0 m 7 ls [.ref (ad101 1)]) (by rw [ep1] <;> rfl) ?_
    refine lv_astore_n (lv' := [(1, .ref (ad101 1)), (0, .ref (ad101 p0))]) hx hb d_L13_7 rfl hl (by decide) rfl (fun ls hl => ?_)
    refine lv_iconst (v := oI 1) hx hb d_L13_8 (by decide +kernel) ?_
    refine lv_aload_n hx hb d_L13_9 rfl (lv_at hl 1 rfl) ?_
    refine lv_bipush (v := oI 7) hx hb d_L13_10 (by decide +kernel) ?_
    obtain ⟨⟨r102, M102⟩, g102, h⟩ := bd_e h
    refine kS (As := [.ref (ad101 p0), .int (oI 7)]) (rest := [.int (oI 1)]) (s_La_next l z ad101 E101 M101 p0 7 r102 M102 hL g102) hx hb hml hown hts w_797 w_795 w_796 w_0 md_199d8f ⟨Nat.le_of_ble_eq_true rfl, Nat.le_of_ble_eq_true rfl⟩ hG hZ hP hD hS hA rfl hl.1 rfl (Nat.le_of_ble_eq_true rfl) d_L13_12 ⟨(show _ ≤ mc by omega), (show _ ≤ ms by omega)⟩ (fun _ H locs hP hD hS => ?_)
    have hP : va_P z.1 classes (wv z ad101 E101 M102) H := hP
    have hD : va_D A (wv z ad101 E101 M102) := hD
    refine W.eq (g2 := F0 m 15 ls [.int (oI r102), .int (oI 1)]) rfl ?_
    refine lv_iadd hx hb d_L13_15 ?_
    refine nrm (oI_add _ _) ?_
    refine lv_istore_n (lv' := [(2, .int (oI (1 + r102))), (1, .ref (ad101 1)), (0, .ref (ad101 p0))]) hx hb d_L13_16 rfl hl (by decide) rfl (fun ls hl => ?_)
    refine lv_iconst (v := oI 0) hx hb d_L13_17 (by decide +kernel) ?_
    refine lv_istore_n (lv' := [(3, .int (oI 0)), (2, .int (oI (1 + r102))), (1, .ref (ad101 1)), (0, .ref (ad101 p0))]) hx hb d_L13_18 rfl hl (by decide) rfl (fun ls hl => ?_)
    refine lv_iload_n hx hb d_L13_19 rfl (lv_at hl 1 rfl) ?_
    obtain ⟨ok103, h⟩ := ck_e h
    obtain ⟨p104, ep104, h⟩ := nb_e h
    obtain ⟨E104, eE104, h⟩ := nb_e h
    obtain ⟨M104, eM104, h⟩ := nb_e h
    refine m_newI (x := (1 + r102)) (N := 64) hx hb ok103.1 ok103.2 (by decide) (hts _ w_100) hG hP hD hS hA (show _ ≤ mc by omega) (show _ ≤ ms by omega) d_L13_20 (fun ad104 H hag104 hP hD hS => ?_)
    have hP : va_P z.1 classes (wv z ad104 E104 M104) H := by rw [eE104, eM104]; exact hP
    have hD : va_D A (wv z ad104 E104 M104) := by rw [eE104, eM104]; exact hD
    refine W.eq (g2 := F0 m 22 ls (.ref (ad104 p104) :: [])) (by rw [ep104] <;> rfl) ?_
    have hl : lv_has ls 17 [(3, .int (oI 0)), (2, .int (oI (1 + r102))), (1, .ref (ad104 1)), (0, .ref (ad104 p0))] := by rw [hag104 1 (yi_1 hL), hag104 p0 h_p0.1]; exact hl
    have hgw104 : Gw E101 E104 := by rw [eE104]; exact gw_new _ _
    have hL104 : Lay E104 := by rw [eE104]; exact lay_new hL
    have hag0 : ∀ i, i < nE E0 → ad104 i = ad0 i := fun i hi => (hag104 i (Nat.lt_of_lt_of_le hi hE0)).trans (hag0 i hi)
    have hE0 : nE E0 ≤ nE E104 := Nat.le_trans hE0 hgw104.1
    have hL : Lay E104 := hL104
    have h_p0 : isIA E104 p0 := isA_up hgw104 h_p0
    have h_p104 : isIA E104 p104 := by rw [ep104, eE104]; exact ⟨new_i _ _, by rw [new_T]⟩
    refine lv_astore (lv' := [(4, .ref (ad104 p104)), (3, .int (oI 0)), (2, .int (oI (1 + r102))), (1, .ref (ad104 1)), (0, .ref (ad104 p0))]) hx hb d_L13_22 hl (by decide) rfl (fun ls hl => ?_)
    refine lv_lconst (v := oJ 1) hx hb d_L13_24 (by decide +kernel) ?_
    refine lv_lstore (lv' := [(5, .long (oJ 1)), (4, .ref (ad104 p104)), (3, .int (oI 0)), (2, .int (oI (1 + r102))), (1, .ref (ad104 1)), (0, .ref (ad104 p0))]) hx hb d_L13_25 hl (by decide) rfl (fun ls hl => ?_)
    refine lv_iconst (v := oI 0) hx hb d_L13_27 (by decide +kernel) ?_
    refine lv_istore (lv' := [(7, .int (oI 0)), (5, .long (oJ 1)), (4, .ref (ad104 p104)), (3, .int (oI 0)), (2, .int (oI (1 + r102))), (1, .ref (ad104 1)), (0, .ref (ad104 p0))]) hx hb d_L13_28 hl (by decide) rfl (fun ls hl => ?_)
    obtain ⟨⟨t112, v112_3, v112_5, v112_7, E112, M112⟩, g112, h⟩ := bd_e h
    obtain ⟨hgw112, h⟩ := ck_e h
    obtain ⟨hL112, h⟩ := ck_e h
    obtain ⟨ok112, h⟩ := ck_e h
    refine s_La_council_30 l z E104 ad104 p0 (1 + r102) p104 hx hb hml hts hown hlocks hA hG hZ mc ms (c0 + 351) (s0 + 10103) (by omega) (by omega) 5000 _ _ ad104 E104 M104 0 1 0 t112 v112_3 v112_5 v112_7 E112 M112 (by omega) (by omega) (fun _ _ => rfl) (Nat.le_refl _) g112 (fun ad112 hag112 hEE112 e112 H locs ls hP hD hS hl => ?_) H locs ls hP hD hS (lv_sub hl [6, 5, 4, 3, 2, 1, 0] rfl)
    have hag0 : ∀ i, i < nE E0 → ad112 i = ad0 i := fun i hi => (hag112 i (Nat.lt_of_lt_of_le hi hE0)).trans (hag0 i hi)
    have hE0 : nE E0 ≤ nE E112 := Nat.le_trans hE0 hgw112.1
    have hL : Lay E112 := hL112
    have h_p0 : isIA E112 p0 := isA_up hgw112 h_p0
    have h_p104 : isIA E112 p104 := isA_up hgw112 h_p104
    refine lv_iconst (v := oI 1) hx hb d_L13_82 (by decide +kernel) ?_
    refine lv_aload_n hx hb d_L13_83 rfl (lv_at hl 0 rfl) ?_
    refine lv_iload_n hx hb d_L13_84 rfl (lv_at hl 3 rfl) ?_
    refine lv_iconst (v := oI 3) hx hb d_L13_85 (by decide +kernel) ?_
    refine lv_iadd hx hb d_L13_86 ?_
    refine nrm (oI_add _ _) ?_
    obtain ⟨⟨r113, M113⟩, g113, h⟩ := bd_e h
    refine kS (As := [.ref (ad112 p0), .int (oI (v112_3 + 3))]) (rest := [.int (oI 1)]) (s_La_next l z ad112 E112 M112 p0 (v112_3 + 3) r113 M113 hL g113) hx hb hml hown hts w_797 w_795 w_796 w_0 md_199d8f ⟨Nat.le_of_ble_eq_true rfl, Nat.le_of_ble_eq_true rfl⟩ hG hZ hP hD hS hA rfl hl.1 rfl (Nat.le_of_ble_eq_true rfl) d_L13_87 ⟨(show _ ≤ mc by omega), (show _ ≤ ms by omega)⟩ (fun _ H locs hP hD hS => ?_)
    have hP : va_P z.1 classes (wv z ad112 E112 M113) H := hP
    have hD : va_D A (wv z ad112 E112 M113) := hD
    refine W.eq (g2 := F0 m 90 ls [.int (oI r113), .int (oI 1)]) rfl ?_
    refine lv_iadd hx hb d_L13_90 ?_
    refine nrm (oI_add _ _) ?_
    refine lv_istore (lv' := [(7, .int (oI (1 + r113))), (0, .ref (ad112 p0)), (1, .ref (ad112 1)), (2, .int (oI (1 + r102))), (3, .int (oI v112_3)), (4, .ref (ad112 p104)), (5, .long (oJ v112_5))]) hx hb d_L13_91 hl (by decide) rfl (fun ls hl => ?_)
    refine lv_aload_n hx hb d_L13_93 rfl (lv_at hl 2 rfl) ?_
    refine lv_iload hx hb d_L13_94 (lv_at hl 0 rfl) ?_
    obtain ⟨⟨r114, M114⟩, g114, h⟩ := bd_e h
    refine kV (As := [.int (oI (1 + r113))]) (rest := []) (s_B_setQuota l z ad112 E112 M113 (1 + r113) r114 M114 hL g114) hx hb hml hown hts w_1667 w_1664 w_1665 w_1666 w_1 md_dc78b4 ⟨Nat.le_of_ble_eq_true rfl, Nat.le_of_ble_eq_true rfl⟩ hG hZ hP hD hS hA 1 (wv_o (ci := 11) (yi_1 hL) (yt_1 hL)) rfl rfl rfl hl.1 rfl (Nat.le_of_ble_eq_true rfl) d_L13_96 ⟨(show _ ≤ mc by omega), (show _ ≤ ms by omega)⟩ (fun _ H locs hP hD hS => ?_)
    have hP : va_P z.1 classes (wv z ad112 E112 M114) H := hP
    have hD : va_D A (wv z ad112 E112 M114) := hD
    refine W.eq (g2 := F0 m 99 ls [.int (oI r114)]) rfl ?_
    refine lv_istore (lv' := [(8, .int (oI r114)), (7, .int (oI (1 + r113))), (0, .ref (ad112 p0)), (1, .ref (ad112 1)), (2, .int (oI (1 + r102))), (3, .int (oI v112_3)), (4, .ref (ad112 p104)), (5, .long (oJ v112_5))]) hx hb d_L13_99 hl (by decide) rfl (fun ls hl => ?_)
    refine lv_lconst (v := oJ 0) hx hb d_L13_101 (by decide +kernel) ?_
    refine lv_lstore (lv' := [(9, .long (oJ 0)), (8, .int (oI r114)), (7, .int (oI (1 + r113))), (0, .ref (ad112 p0)), (1, .ref (ad112 1)), (2, .int (oI (1 + r102))), (3, .int (oI v112_3)), (4, .ref (ad112 p104)), (5, .long (oJ v112_5))]) hx hb d_L13_102 hl (by decide) rfl (fun ls hl => ?_)
    refine lv_iconst (v := oI 1) hx hb d_L13_104 (by decide +kernel) ?_
    refine lv_istore (lv' := [(11, .int (oI 1)), (9, .long (oJ 0)), (8, .int (oI r114)), (7, .int (oI (1 + r113))), (0, .ref (ad112 p0)), (1, .ref (ad112 1)), (2, .int (oI (1 + r102))), (3, .int (oI v112_3)), (4, .ref (ad112 p104)), (5, .long (oJ v112_5))]) hx hb d_L13_105 hl (by decide) rfl (fun ls hl => ?_)
    refine lv_iconst (v := oI 0) hx hb d_L13_107 (by decide +kernel) ?_
    refine lv_istore (lv' := [(12, .int (oI 0)), (11, .int (oI 1)), (9, .long (oJ 0)), (8, .int (oI r114)), (7, .int (oI (1 + r113))), (0, .ref (ad112 p0)), (1, .ref (ad112 1)), (2, .int (oI (1 + r102))), (3, .int (oI v112_3)), (4, .ref (ad112 p104)), (5, .long (oJ v112_5))]) hx hb d_L13_108 hl (by decide) rfl (fun ls hl => ?_)
    obtain ⟨⟨t143, v143_9, v143_11, v143_12, E143, M143⟩, g143, h⟩ := bd_e h
    obtain ⟨hgw143, h⟩ := ck_e h
    obtain ⟨hL143, h⟩ := ck_e h
    obtain ⟨ok143, h⟩ := ck_e h
    refine s_La_council_110 l z E112 ad112 (1 + r102) v112_3 p104 v112_5 (1 + r113) hx hb hml hts hown hlocks hA hG hZ mc ms (c0 + 351) (s0 + 10103) (by omega) (by omega) 5000 _ _ ad112 E112 M114 0 1 0 t143 v143_9 v143_11 v143_12 E143 M143 (by omega) (by omega) (fun _ _ => rfl) (Nat.le_refl _) g143 (fun ad143 hag143 hEE143 e143 H locs ls hP hD hS hl => ?_) H locs ls hP hD hS (lv_sub hl [6, 7, 8, 9, 10, 4, 2, 1, 0] rfl)
    have hag0 : ∀ i, i < nE E0 → ad143 i = ad0 i := fun i hi => (hag143 i (Nat.lt_of_lt_of_le hi hE0)).trans (hag0 i hi)
    have hE0 : nE E0 ≤ nE E143 := Nat.le_trans hE0 hgw143.1
    have hL : Lay E143 := hL143
    refine lv_iload hx hb d_L13_281 (lv_at hl 4 rfl) ?_
    obtain ⟨ok144, h⟩ := ck_e h
    refine lv_if_eq (tgt := 308) hx hb d_L13_283 (by decide) (fun c9 => ?_) (fun c9 => ?_)
    · have h := ite_t ((oI_eq0 ok144).mp c9) h
      refine lv_iconst (v := oI 0) hx hb d_L13_308 (by decide +kernel) ?_
      refine W.wide (k := c1) (n := s1) (by omega) (by omega) ?_
      obtain ⟨rfl, rfl, rfl⟩ := in3 h
      exact W.zret hx hb hr rfl (fun t ht hW => qkA hP hD hS ad143 (congrArg (fun q => wv z q E143 M143) (adj_self hag0).symm) rfl ht) hS.2.2 d_L13_309
    · have h := ite_f (fun q => c9 ((oI_eq0 ok144).mpr q)) h
      refine lv_lload hx hb d_L13_286 (lv_at hl 3 rfl) ?_
      refine lv_iload hx hb d_L13_288 (lv_at hl 2 rfl) ?_
      refine lv_iload_n hx hb d_L13_290 rfl (lv_at hl 0 rfl) ?_
      obtain ⟨ok145, h⟩ := ck_e h
      obtain ⟨ok146, h⟩ := ck_e h
      refine lv_icmp_gt (tgt := 299) hx hb d_L13_291 (by decide) (fun c9 => ?_) (fun c9 => ?_)
      · have h := ite_t ((oI_lt (a := v112_3) (b := (1 + r113)) ok146 ok145).mp c9) h
        refine lv_lconst (v := oJ 0) hx hb d_L13_299 (by decide +kernel) ?_
        exact b_La_council_j300 l z E0 ad0 ad143 E143 M143 0 v143_9 r F N hx hb hml hts hown hlocks hA hG hZ hr mc ms _ _ c1 s1 (by omega) (by omega) hm hm2 hag0 hE0 h H locs ls hP hD hS (lv_sub hl [] rfl)
      · have h := ite_f (fun q => c9 ((oI_lt (a := v112_3) (b := (1 + r113)) ok146 ok145).mpr q)) h
        refine lv_lload hx hb d_L13_294 (lv_at hl 1 rfl) ?_
        refine lv_goto (tgt := 300) hx hb d_L13_296 (by decide) ?_
        exact b_La_council_j300 l z E0 ad0 ad143 E143 M143 v112_5 v143_9 r F N hx hb hml hts hown hlocks hA hG hZ hr mc ms _ _ c1 s1 (by omega) (by omega) hm hm2 hag0 hE0 h H locs ls hP hD hS (lv_sub hl [] rfl)
  exact key E ad 351 10103 0 0 351 10103 _ _ _ (by decide) (by decide) (by decide) (by decide) (fun _ _ => rfl) (Nat.le_refl _) hts hP hS
set_option maxRecDepth 100000 in
set_option maxHeartbeats 4000000 in
theorem b_La_law_11b (l : Launch) (z : Zz) (E0 : Ev) (ad0 : Nat → Nat) (ad : Nat → Nat) (E : Ev) (M : Mm) (q1 : Nat) (x2 : Int) (t : Nat) (w2 : Int) (F : Ev) (N : Mm) {Q : State → Prop} {b L : Nat} {xs : Nat → Int32} {p : Program} {e : Env} {s : State} {m : MethodId} {below : List Frame} {meth : Method} {c : Code} {A : Nat → Prop} (hx : p.tables.exec = Jvm.exec) (hb : c.code = code) (hml : c.maxLocals = 6) (hts : ∀ w ∈ WG, w.before #[Value.ref b] s = true) (hown : s.vm.findClass "BallothallLaw" = some m.cls) (hlocks : meth.locks = false) (hA : ∀ q, s.heap.size ≤ q → A q) (hG : KG z s) (hZ : FZ z A s) (hX : va_X b L xs s s.heap) (hbl : b < s.heap.size) (hbA : ¬ A b) (hAb : ∀ q, A q → s.heap.size ≤ q) (mc ms c0 s0 c1 s1 : Nat) (hc : c0 + 0 ≤ c1) (hs : s0 + 0 ≤ s1) (hm : c1 ≤ mc ∧ mc = 600130) (hm2 : s1 ≤ ms ∧ ms = 7301080) (hag0 : ∀ i, i < nE E0 → ad i = ad0 i) (hE0 : nE E0 ≤ nE E) (h : La_law_11b L xs E M q1 x2 = some (t, w2, F, N)) (k0 : ∀ (ad1 : Nat → Nat), (∀ i, i < nE E0 → ad1 i = ad0 i) → nE E0 ≤ nE F → t = 0 → ∀ (H : Heap) (locs : List Loc) (ls : Array Slot), va_P z.1 classes (wv z ad1 F N) H → va_D A (wv z ad1 F N) → va_S A s.heap H locs → lv_has ls 6 [(0, .ref b), (1, .ref (ad1 q1)), (2, .int (oI w2))] → W p l e room_1 s m #[Value.ref b] below meth c H locs c1 s1 Q (F0 m 11 ls [])) (k1 : ∀ (ad1 : Nat → Nat), (∀ i, i < nE E0 → ad1 i = ad0 i) → nE E0 ≤ nE F → t = 1 → ∀ (H : Heap) (locs : List Loc) (ls : Array Slot), va_P z.1 classes (wv z ad1 F N) H → va_D A (wv z ad1 F N) → va_S A s.heap H locs → lv_has ls 6 [(1, .ref (ad1 q1))] → W p l e room_1 s m #[Value.ref b] below meth c H locs c1 s1 Q (F0 m 52 ls [])) : ∀ (H : Heap) (locs : List Loc) (ls : Array Slot), va_P z.1 classes (wv z ad E M) H → va_D A (wv z ad E M) → va_S A s.heap H locs → lv_has ls 6 [(0, .ref b), (1, .ref (ad q1)), (2, .int (oI x2))] → W p l e room_1 s m #[Value.ref b] below meth c H locs c0 s0 Q (F0 m 11 ls []) := by
  intro H locs ls hP hD hS hl
  unfold La_law_11b at h
  obtain ⟨h_q1, h⟩ := ck_e h
  refine lv_iload_n hx hb d_law_11 rfl (lv_at hl 2 rfl) ?_
  refine lv_aload_n hx hb d_law_12 rfl (lv_at hl 0 rfl) ?_
  refine va_slen hx hb hX hbl hbA hS d_law_13 ?_
  refine nrm (x1 := oI (L : Int)) (len_oI L) ?_
  obtain ⟨ok102, h⟩ := ck_e h
  obtain ⟨ok103, h⟩ := ck_e h
  refine lv_icmp_ge (tgt := 52) hx hb d_law_14 (by decide) (fun c9 => ?_) (fun c9 => ?_)
  · have h := ite_t ((oI_le (a := (L : Int)) (b := x2) ok103 ok102).mp c9) h
    obtain ⟨rfl, rfl, rfl, rfl⟩ := in4 h
    exact W.wide (by omega) (by omega) (k1 ad hag0 hE0 rfl H locs ls hP hD hS (lv_sub hl [1] rfl))
  · have h := ite_f (fun q => c9 ((oI_le (a := (L : Int)) (b := x2) ok103 ok102).mpr q)) h
    refine lv_aload_n hx hb d_law_17 rfl (lv_at hl 1 rfl) ?_
    refine lv_iconst (v := oI 0) hx hb d_law_18 (by decide +kernel) ?_
    refine lv_aload_n hx hb d_law_19 rfl (lv_at hl 1 rfl) ?_
    refine lv_iconst (v := oI 0) hx hb d_law_20 (by decide +kernel) ?_
    obtain ⟨ok104, h⟩ := ck_e h
    refine m_ia hx hb hG hP h_q1.1 (isIA_T h_q1) ok104 d_law_21 ?_
    refine nrm (x1 := oI (M q1 0)) rfl ?_
    refine lv_aload_n hx hb d_law_22 rfl (lv_at hl 0 rfl) ?_
    refine lv_iload_n hx hb d_law_23 rfl (lv_at hl 2 rfl) ?_
    obtain ⟨ok105, h⟩ := ck_e h
    refine va_sld hx hb hX hbl hbA hS (inb_v ok105) d_law_24 ?_
    rw [inb_n ok105]
    refine nrm (x1 := oI (xi xs x2.toNat)) (oI_self _).symm ?_
    refine lv_ixor hx hb d_law_25 ?_
    refine nrm (oI_xorR _ _) ?_
    refine lv_ldc hx hb hown (hts _ w_798) d_law_26 ?_
    refine nrm (x1 := oI 1103515245) (by decide +kernel) ?_
    refine lv_imul hx hb d_law_28 ?_
    refine nrm (oI_mul _ _) ?_
    refine lv_sipush (v := oI 12345) hx hb d_law_29 (by decide +kernel) ?_
    refine lv_iadd hx hb d_law_32 ?_
    refine nrm (oI_add _ _) ?_
    obtain ⟨v106, e106, h⟩ := nb_e h
    refine nrm (congrArg oI e106.symm) ?_
    refine m_is hx hb hG hP hD hS h_q1.1 (isIA_T h_q1) ok104 d_law_33 (fun H locs hP hD hS => ?_)
    have hP : va_P z.1 classes (wv z ad E (u2 M q1 0 v106)) H := hP
    have hD : va_D A (wv z ad E (u2 M q1 0 v106)) := hD
    refine lv_aload_n hx hb d_law_34 rfl (lv_at hl 1 rfl) ?_
    refine lv_iconst (v := oI 0) hx hb d_law_35 (by decide +kernel) ?_
    refine lv_dup2_11 hx hb d_law_36 rfl rfl ?_
    refine m_ia hx hb hG hP h_q1.1 (isIA_T h_q1) ok104 d_law_37 ?_
    refine nrm (x1 := oI ((u2 M q1 0 v106) q1 0)) rfl ?_
    refine lv_aload_n hx hb d_law_38 rfl (lv_at hl 1 rfl) ?_
    refine lv_iconst (v := oI 0) hx hb d_law_39 (by decide +kernel) ?_
    refine m_ia hx hb hG hP h_q1.1 (isIA_T h_q1) ok104 d_law_40 ?_
    refine nrm (x1 := oI ((u2 M q1 0 v106) q1 0)) rfl ?_
    refine lv_bipush (v := oI 15) hx hb d_law_41 (by decide +kernel) ?_
    refine lv_iushr (v := oI (ushI ((u2 M q1 0 v106) q1 0) 15)) hx hb d_law_43 (oI_ushr _ 15 _ (by decide +kernel)) ?_
    refine lv_ixor hx hb d_law_44 ?_
    refine nrm (oI_xorR _ _) ?_
    obtain ⟨v107, e107, h⟩ := nb_e h
    refine nrm (congrArg oI e107.symm) ?_
    refine m_is hx hb hG hP hD hS h_q1.1 (isIA_T h_q1) ok104 d_law_45 (fun H locs hP hD hS => ?_)
    have hP : va_P z.1 classes (wv z ad E (u2 (u2 M q1 0 v106) q1 0 v107)) H := hP
    have hD : va_D A (wv z ad E (u2 (u2 M q1 0 v106) q1 0 v107)) := hD
    refine lv_iinc (v := oI (x2 + 1)) (lv' := [(2, .int (oI (x2 + 1))), (0, .ref b), (1, .ref (ad q1))]) hx hb d_law_46 hl (k := 2) rfl (oI_add x2 1) (by decide) rfl (fun ls hl => ?_)
    refine lv_goto (tgt := 11) hx hb d_law_49 (by decide) ?_
    obtain ⟨rfl, rfl, rfl, rfl⟩ := in4 h
    exact W.wide (by omega) (by omega) (k0 ad hag0 hE0 rfl H locs ls hP hD hS (lv_sub hl [1, 2, 0] rfl))
set_option maxRecDepth 100000 in
set_option maxHeartbeats 4000000 in
theorem s_La_law_11 (l : Launch) (z : Zz) (E0 : Ev) (ad0 : Nat → Nat) (q1 : Nat) {Q : State → Prop} {b L : Nat} {xs : Nat → Int32} {p : Program} {e : Env} {s : State} {m : MethodId} {below : List Frame} {meth : Method} {c : Code} {A : Nat → Prop} (hx : p.tables.exec = Jvm.exec) (hb : c.code = code) (hml : c.maxLocals = 6) (hts : ∀ w ∈ WG, w.before #[Value.ref b] s = true) (hown : s.vm.findClass "BallothallLaw" = some m.cls) (hlocks : meth.locks = false) (hA : ∀ q, s.heap.size ≤ q → A q) (hG : KG z s) (hZ : FZ z A s) (hX : va_X b L xs s s.heap) (hbl : b < s.heap.size) (hbA : ¬ A b) (hAb : ∀ q, A q → s.heap.size ≤ q) (mc ms c1 s1 : Nat) (hm : c1 ≤ mc ∧ mc = 600130) (hm2 : s1 ≤ ms ∧ ms = 7301080) : ∀ (fu c0 s0 : Nat) (ad : Nat → Nat) (E : Ev) (M : Mm) (x2 : Int) (t : Nat) (w2 : Int) (F : Ev) (N : Mm), c0 + fu * 0 ≤ c1 → s0 + fu * 0 ≤ s1 → (∀ i, i < nE E0 → ad i = ad0 i) → nE E0 ≤ nE E → l_La_law_11 L xs q1 fu E M x2 = some (t, w2, F, N) → (∀ (ad1 : Nat → Nat), (∀ i, i < nE E0 → ad1 i = ad0 i) → nE E0 ≤ nE F → t = 1 → ∀ (H : Heap) (locs : List Loc) (ls : Array Slot), va_P z.1 classes (wv z ad1 F N) H → va_D A (wv z ad1 F N) → va_S A s.heap H locs → lv_has ls 6 [(1, .ref (ad1 q1))] → W p l e room_1 s m #[Value.ref b] below meth c H locs c1 s1 Q (F0 m 52 ls [])) → ∀ (H : Heap) (locs : List Loc) (ls : Array Slot), va_P z.1 classes (wv z ad E M) H → va_D A (wv z ad E M) → va_S A s.heap H locs → lv_has ls 6 [(0, .ref b), (1, .ref (ad q1)), (2, .int (oI x2))] → W p l e room_1 s m #[Value.ref b] below meth c H locs c0 s0 Q (F0 m 11 ls []) := by
  intro fu
  induction fu with
  | zero =>
    intro c0 s0 ad E M x2 t w2 F N hc hs hag0 hE0 h
    have h : (none : Option (Nat × Int × Ev × Mm)) = some _ := h
    cases h
  | succ fu ih =>
    intro c0 s0 ad E M x2 t w2 F N hc hs hag0 hE0 h k1 H locs ls hP hD hS hl
    obtain ⟨⟨t0, w20, F9, N9⟩, g0, h⟩ := bd_e h
    refine W.wide (Nat.le_refl _) (Nat.le_refl _) (b_La_law_11b l z E0 ad0 ad E M q1 x2 t0 w20 F9 N9 hx hb hml hts hown hlocks hA hG hZ hX hbl hbA hAb mc ms c0 s0 (c0 + 0) (s0 + 0) (Nat.le_refl _) (Nat.le_refl _) (by omega) (by omega) hag0 hE0 g0 (fun ad1 ha he e0 => ?_) (fun ad1 ha he e0 => ?_) H locs ls hP hD hS hl)
    · subst e0
      have h := ite_t rfl h
      exact ih (c0 + 0) (s0 + 0) ad1 F9 N9 w20 t w2 F N (by omega) (by omega) ha he h k1
    · subst e0
      have h := ite_f (by decide) h
      obtain ⟨rfl, rfl, rfl, rfl⟩ := in4 h
      exact fun H locs ls hP hD hS hl => W.wide (by omega) (by omega) (k1 ad1 ha he rfl H locs ls hP hD hS hl)
set_option maxRecDepth 100000 in
set_option maxHeartbeats 4000000 in
theorem b_La_law_78b (l : Launch) (z : Zz) (E0 : Ev) (ad0 : Nat → Nat) (ad : Nat → Nat) (E : Ev) (M : Mm) (q1 : Nat) (q3 : Nat) (x4 : Int) (t : Nat) (w4 : Int) (F : Ev) (N : Mm) {Q : State → Prop} {b L : Nat} {xs : Nat → Int32} {p : Program} {e : Env} {s : State} {m : MethodId} {below : List Frame} {meth : Method} {c : Code} {A : Nat → Prop} (hx : p.tables.exec = Jvm.exec) (hb : c.code = code) (hml : c.maxLocals = 6) (hts : ∀ w ∈ WG, w.before #[Value.ref b] s = true) (hown : s.vm.findClass "BallothallLaw" = some m.cls) (hlocks : meth.locks = false) (hA : ∀ q, s.heap.size ≤ q → A q) (hG : KG z s) (hZ : FZ z A s) (hX : va_X b L xs s s.heap) (hbl : b < s.heap.size) (hbA : ¬ A b) (hAb : ∀ q, A q → s.heap.size ≤ q) (mc ms c0 s0 c1 s1 : Nat) (hc : c0 + 0 ≤ c1) (hs : s0 + 0 ≤ s1) (hm : c1 ≤ mc ∧ mc = 600130) (hm2 : s1 ≤ ms ∧ ms = 7301080) (hag0 : ∀ i, i < nE E0 → ad i = ad0 i) (hE0 : nE E0 ≤ nE E) (h : La_law_78b L xs E M q1 q3 x4 = some (t, w4, F, N)) (k0 : ∀ (ad1 : Nat → Nat), (∀ i, i < nE E0 → ad1 i = ad0 i) → nE E0 ≤ nE F → t = 0 → ∀ (H : Heap) (locs : List Loc) (ls : Array Slot), va_P z.1 classes (wv z ad1 F N) H → va_D A (wv z ad1 F N) → va_S A s.heap H locs → lv_has ls 6 [(1, .ref (ad1 q1)), (2, .ref (ad1 1)), (3, .ref (ad1 q3)), (4, .int (oI w4))] → W p l e room_1 s m #[Value.ref b] below meth c H locs c1 s1 Q (F0 m 78 ls [])) (k1 : ∀ (ad1 : Nat → Nat), (∀ i, i < nE E0 → ad1 i = ad0 i) → nE E0 ≤ nE F → t = 1 → ∀ (H : Heap) (locs : List Loc) (ls : Array Slot), va_P z.1 classes (wv z ad1 F N) H → va_D A (wv z ad1 F N) → va_S A s.heap H locs → lv_has ls 6 [(1, .ref (ad1 q1)), (2, .ref (ad1 1)), (3, .ref (ad1 q3))] → W p l e room_1 s m #[Value.ref b] below meth c H locs c1 s1 Q (F0 m 99 ls [])) : ∀ (H : Heap) (locs : List Loc) (ls : Array Slot), va_P z.1 classes (wv z ad E M) H → va_D A (wv z ad E M) → va_S A s.heap H locs → lv_has ls 6 [(1, .ref (ad q1)), (2, .ref (ad 1)), (3, .ref (ad q3)), (4, .int (oI x4))] → W p l e room_1 s m #[Value.ref b] below meth c H locs c0 s0 Q (F0 m 78 ls []) := by
  intro H locs ls hP hD hS hl
  unfold La_law_78b at h
  obtain ⟨hL, h⟩ := ck_e h
  obtain ⟨h_q1, h⟩ := ck_e h
  obtain ⟨h_q3, h⟩ := ck_e h
  refine lv_iload hx hb d_law_78 (lv_at hl 3 rfl) ?_
  refine lv_aload_n hx hb d_law_80 rfl (lv_at hl 2 rfl) ?_
  refine m_giN (C := "BallothallLaw$Box") (T := TX12) (N := 4) (ci := 12) (k := 0) hx hb hts iX12 hown hG hP h_q3.1 h_q3.2 rfl (by decide) n_775 rfl (fun _ h9 => h9) rfl rfl d_law_81 ?_
  obtain ⟨ok114, h⟩ := ck_e h
  obtain ⟨ok115, h⟩ := ck_e h
  refine lv_icmp_ge (tgt := 99) hx hb d_law_84 (by decide) (fun c9 => ?_) (fun c9 => ?_)
  · have h := ite_t ((oI_le (a := (M q3 0)) (b := x4) ok115 ok114).mp c9) h
    obtain ⟨rfl, rfl, rfl, rfl⟩ := in4 h
    exact W.wide (by omega) (by omega) (k1 ad hag0 hE0 rfl H locs ls hP hD hS (lv_sub hl [0, 1, 2] rfl))
  · have h := ite_f (fun q => c9 ((oI_le (a := (M q3 0)) (b := x4) ok115 ok114).mpr q)) h
    refine lv_aload_n hx hb d_law_87 rfl (lv_at hl 1 rfl) ?_
    obtain ⟨⟨r116, M116⟩, g116, h⟩ := bd_e h
    refine kV (As := []) (rest := []) (s_B_candidate l z ad E M r116 M116 hL g116) hx hb hml hown hts w_443 w_440 w_441 w_442 w_1 md_895fca ⟨Nat.le_of_ble_eq_true rfl, Nat.le_of_ble_eq_true rfl⟩ hG hZ hP hD hS hA 1 (wv_o (ci := 11) (yi_1 hL) (yt_1 hL)) rfl rfl rfl hl.1 rfl (Nat.le_of_ble_eq_true rfl) d_law_88 ⟨(show _ ≤ 600130 by omega), (show _ ≤ 7301080 by omega)⟩ (fun _ H locs hP hD hS => ?_)
    have hP : va_P z.1 classes (wv z ad E M116) H := hP
    have hD : va_D A (wv z ad E M116) := hD
    refine W.eq (g2 := F0 m 91 ls [.int (oI r116)]) rfl ?_
    refine lv_istore (lv' := [(5, .int (oI r116)), (1, .ref (ad q1)), (2, .ref (ad 1)), (3, .ref (ad q3)), (4, .int (oI x4))]) hx hb d_law_91 hl (by decide) rfl (fun ls hl => ?_)
    refine lv_iinc (v := oI (x4 + 1)) (lv' := [(4, .int (oI (x4 + 1))), (5, .int (oI r116)), (1, .ref (ad q1)), (2, .ref (ad 1)), (3, .ref (ad q3))]) hx hb d_law_93 hl (k := 4) rfl (oI_add x4 1) (by decide) rfl (fun ls hl => ?_)
    refine lv_goto (tgt := 78) hx hb d_law_96 (by decide) ?_
    obtain ⟨rfl, rfl, rfl, rfl⟩ := in4 h
    exact W.wide (by omega) (by omega) (k0 ad hag0 hE0 rfl H locs ls hP hD hS (lv_sub hl [2, 3, 4, 0] rfl))
set_option maxRecDepth 100000 in
set_option maxHeartbeats 4000000 in
theorem s_La_law_78 (l : Launch) (z : Zz) (E0 : Ev) (ad0 : Nat → Nat) (q1 : Nat) (q3 : Nat) {Q : State → Prop} {b L : Nat} {xs : Nat → Int32} {p : Program} {e : Env} {s : State} {m : MethodId} {below : List Frame} {meth : Method} {c : Code} {A : Nat → Prop} (hx : p.tables.exec = Jvm.exec) (hb : c.code = code) (hml : c.maxLocals = 6) (hts : ∀ w ∈ WG, w.before #[Value.ref b] s = true) (hown : s.vm.findClass "BallothallLaw" = some m.cls) (hlocks : meth.locks = false) (hA : ∀ q, s.heap.size ≤ q → A q) (hG : KG z s) (hZ : FZ z A s) (hX : va_X b L xs s s.heap) (hbl : b < s.heap.size) (hbA : ¬ A b) (hAb : ∀ q, A q → s.heap.size ≤ q) (mc ms c1 s1 : Nat) (hm : c1 ≤ mc ∧ mc = 600130) (hm2 : s1 ≤ ms ∧ ms = 7301080) : ∀ (fu c0 s0 : Nat) (ad : Nat → Nat) (E : Ev) (M : Mm) (x4 : Int) (t : Nat) (w4 : Int) (F : Ev) (N : Mm), c0 + fu * 0 ≤ c1 → s0 + fu * 0 ≤ s1 → (∀ i, i < nE E0 → ad i = ad0 i) → nE E0 ≤ nE E → l_La_law_78 L xs q1 q3 fu E M x4 = some (t, w4, F, N) → (∀ (ad1 : Nat → Nat), (∀ i, i < nE E0 → ad1 i = ad0 i) → nE E0 ≤ nE F → t = 1 → ∀ (H : Heap) (locs : List Loc) (ls : Array Slot), va_P z.1 classes (wv z ad1 F N) H → va_D A (wv z ad1 F N) → va_S A s.heap H locs → lv_has ls 6 [(1, .ref (ad1 q1)), (2, .ref (ad1 1)), (3, .ref (ad1 q3))] → W p l e room_1 s m #[Value.ref b] below meth c H locs c1 s1 Q (F0 m 99 ls [])) → ∀ (H : Heap) (locs : List Loc) (ls : Array Slot), va_P z.1 classes (wv z ad E M) H → va_D A (wv z ad E M) → va_S A s.heap H locs → lv_has ls 6 [(1, .ref (ad q1)), (2, .ref (ad 1)), (3, .ref (ad q3)), (4, .int (oI x4))] → W p l e room_1 s m #[Value.ref b] below meth c H locs c0 s0 Q (F0 m 78 ls []) := by
  intro fu
  induction fu with
  | zero =>
    intro c0 s0 ad E M x4 t w4 F N hc hs hag0 hE0 h
    have h : (none : Option (Nat × Int × Ev × Mm)) = some _ := h
    cases h
  | succ fu ih =>
    intro c0 s0 ad E M x4 t w4 F N hc hs hag0 hE0 h k1 H locs ls hP hD hS hl
    obtain ⟨⟨t0, w40, F9, N9⟩, g0, h⟩ := bd_e h
    refine W.wide (Nat.le_refl _) (Nat.le_refl _) (b_La_law_78b l z E0 ad0 ad E M q1 q3 x4 t0 w40 F9 N9 hx hb hml hts hown hlocks hA hG hZ hX hbl hbA hAb mc ms c0 s0 (c0 + 0) (s0 + 0) (Nat.le_refl _) (Nat.le_refl _) (by omega) (by omega) hag0 hE0 g0 (fun ad1 ha he e0 => ?_) (fun ad1 ha he e0 => ?_) H locs ls hP hD hS hl)
    · subst e0
      have h := ite_t rfl h
      exact ih (c0 + 0) (s0 + 0) ad1 F9 N9 w40 t w4 F N (by omega) (by omega) ha he h k1
    · subst e0
      have h := ite_f (by decide) h
      obtain ⟨rfl, rfl, rfl, rfl⟩ := in4 h
      exact fun H locs ls hP hD hS hl => W.wide (by omega) (by omega) (k1 ad1 ha he rfl H locs ls hP hD hS hl)
set_option maxRecDepth 100000 in
set_option maxHeartbeats 4000000 in
theorem b_La_law_112b (l : Launch) (z : Zz) (E0 : Ev) (ad0 : Nat → Nat) (ad : Nat → Nat) (E : Ev) (M : Mm) (q1 : Nat) (q3 : Nat) (x4 : Int) (x5 : Int) (t : Nat) (w4 : Int) (w5 : Int) (F : Ev) (N : Mm) {Q : State → Prop} {b L : Nat} {xs : Nat → Int32} {p : Program} {e : Env} {s : State} {m : MethodId} {below : List Frame} {meth : Method} {c : Code} {A : Nat → Prop} (hx : p.tables.exec = Jvm.exec) (hb : c.code = code) (hml : c.maxLocals = 6) (hts : ∀ w ∈ WG, w.before #[Value.ref b] s = true) (hown : s.vm.findClass "BallothallLaw" = some m.cls) (hlocks : meth.locks = false) (hA : ∀ q, s.heap.size ≤ q → A q) (hG : KG z s) (hZ : FZ z A s) (hX : va_X b L xs s s.heap) (hbl : b < s.heap.size) (hbA : ¬ A b) (hAb : ∀ q, A q → s.heap.size ≤ q) (mc ms c0 s0 c1 s1 : Nat) (hc : c0 + 6 ≤ c1) (hs : s0 + 264 ≤ s1) (hm : c1 ≤ mc ∧ mc = 600130) (hm2 : s1 ≤ ms ∧ ms = 7301080) (hag0 : ∀ i, i < nE E0 → ad i = ad0 i) (hE0 : nE E0 ≤ nE E) (h : La_law_112b L xs E M q1 q3 x4 x5 = some (t, w4, w5, F, N)) (k0 : ∀ (ad1 : Nat → Nat), (∀ i, i < nE E0 → ad1 i = ad0 i) → nE E0 ≤ nE F → t = 0 → ∀ (H : Heap) (locs : List Loc) (ls : Array Slot), va_P z.1 classes (wv z ad1 F N) H → va_D A (wv z ad1 F N) → va_S A s.heap H locs → lv_has ls 6 [(1, .ref (ad1 q1)), (2, .ref (ad1 1)), (3, .ref (ad1 q3)), (4, .int (oI w4)), (5, .int (oI w5))] → W p l e room_1 s m #[Value.ref b] below meth c H locs c1 s1 Q (F0 m 112 ls [])) (k1 : ∀ (ad1 : Nat → Nat), (∀ i, i < nE E0 → ad1 i = ad0 i) → nE E0 ≤ nE F → t = 1 → ∀ (H : Heap) (locs : List Loc) (ls : Array Slot), va_P z.1 classes (wv z ad1 F N) H → va_D A (wv z ad1 F N) → va_S A s.heap H locs → lv_has ls 6 [(1, .ref (ad1 q1)), (2, .ref (ad1 1)), (3, .ref (ad1 q3)), (4, .int (oI w4))] → W p l e room_1 s m #[Value.ref b] below meth c H locs c1 s1 Q (F0 m 136 ls [])) : ∀ (H : Heap) (locs : List Loc) (ls : Array Slot), va_P z.1 classes (wv z ad E M) H → va_D A (wv z ad E M) → va_S A s.heap H locs → lv_has ls 6 [(1, .ref (ad q1)), (2, .ref (ad 1)), (3, .ref (ad q3)), (4, .int (oI x4)), (5, .int (oI x5))] → W p l e room_1 s m #[Value.ref b] below meth c H locs c0 s0 Q (F0 m 112 ls []) := by
  intro H locs ls hP hD hS hl
  unfold La_law_112b at h
  obtain ⟨hL, h⟩ := ck_e h
  obtain ⟨h_q1, h⟩ := ck_e h
  obtain ⟨h_q3, h⟩ := ck_e h
  refine lv_iload hx hb d_law_112 (lv_at hl 4 rfl) ?_
  obtain ⟨ok119, h⟩ := ck_e h
  refine lv_if_le (tgt := 136) hx hb d_law_114 (by decide) (fun c9 => ?_) (fun c9 => ?_)
  · have h := ite_t ((oI_le0 ok119).mp c9) h
    obtain ⟨rfl, rfl, rfl, rfl, rfl⟩ := in5 h
    exact W.wide (by omega) (by omega) (k1 ad hag0 hE0 rfl H locs ls hP hD hS (lv_sub hl [0, 1, 2, 3] rfl))
  · have h := ite_f (fun q => c9 ((oI_le0 ok119).mpr q)) h
    refine lv_iload hx hb d_law_117 (lv_at hl 3 rfl) ?_
    obtain ⟨ok120, h⟩ := ck_e h
    refine lv_if_eq (tgt := 136) hx hb d_law_119 (by decide) (fun c9 => ?_) (fun c9 => ?_)
    · have h := ite_t ((oI_eq0 ok120).mp c9) h
      obtain ⟨rfl, rfl, rfl, rfl, rfl⟩ := in5 h
      exact W.wide (by omega) (by omega) (k1 ad hag0 hE0 rfl H locs ls hP hD hS (lv_sub hl [0, 1, 2, 3] rfl))
    · have h := ite_f (fun q => c9 ((oI_eq0 ok120).mpr q)) h
      refine lv_aload_n hx hb d_law_122 rfl (lv_at hl 1 rfl) ?_
      refine lv_aload_n hx hb d_law_123 rfl (lv_at hl 2 rfl) ?_
      refine lv_aload_n hx hb d_law_124 rfl (lv_at hl 0 rfl) ?_
      obtain ⟨⟨r121, E121, M121⟩, g121, h⟩ := bd_e h
      obtain ⟨hgw121, h⟩ := ck_e h
      refine kS (As := [.ref (ad 1), .ref (ad q3), .ref (ad q1)]) (rest := []) (s_La_ballots l z ad E M q3 q1 r121 E121 M121 g121) hx hb hml hown hts w_801 w_799 w_800 w_0 md_6f4f77 ⟨Nat.le_of_ble_eq_true rfl, Nat.le_of_ble_eq_true rfl⟩ hG hZ hP hD hS hA rfl hl.1 rfl (Nat.le_of_ble_eq_true rfl) d_law_125 ⟨(show _ ≤ 600130 by omega), (show _ ≤ 7301080 by omega)⟩ (fun u121 H locs hP hD hS => ?_)
      obtain ⟨ad121, had121⟩ : ∃ q, q = adj E ad u121 := ⟨_, rfl⟩
      have hP : va_P z.1 classes (wv z ad121 E121 M121) H := by rw [had121]; exact hP
      have hD : va_D A (wv z ad121 E121 M121) := by rw [had121]; exact hD
      have hag121 : ∀ i, i < nE E → ad121 i = ad i := fun i hi => by rw [had121]; exact adj_lt hi
      have hl : lv_has ls 6 [(1, .ref (ad121 q1)), (2, .ref (ad121 1)), (3, .ref (ad121 q3)), (4, .int (oI x4)), (5, .int (oI x5))] := by rw [hag121 q1 h_q1.1, hag121 1 (yi_1 hL), hag121 q3 h_q3.1]; exact hl
      refine W.eq (g2 := F0 m 128 ls (.int (oI r121) :: [])) (by rfl) ?_
      have hag0 : ∀ i, i < nE E0 → ad121 i = ad0 i := fun i hi => (hag121 i (Nat.lt_of_lt_of_le hi hE0)).trans (hag0 i hi)
      have hE0 : nE E0 ≤ nE E121 := Nat.le_trans hE0 hgw121.1
      obtain ⟨hL, h⟩ := ck_e h
      have h_q1 : isIA E121 q1 := isA_up hgw121 h_q1
      have h_q3 : isO 12 E121 q3 := isO_up hgw121 h_q3
      refine lv_istore (lv' := [(4, .int (oI r121)), (1, .ref (ad121 q1)), (2, .ref (ad121 1)), (3, .ref (ad121 q3)), (5, .int (oI x5))]) hx hb d_law_128 hl (by decide) rfl (fun ls hl => ?_)
      refine lv_iinc (v := oI (x5 + (-1))) (lv' := [(5, .int (oI (x5 + (-1)))), (4, .int (oI r121)), (1, .ref (ad121 q1)), (2, .ref (ad121 1)), (3, .ref (ad121 q3))]) hx hb d_law_130 hl (k := 4) rfl (oI_add x5 (-1)) (by decide) rfl (fun ls hl => ?_)
      refine lv_goto (tgt := 112) hx hb d_law_133 (by decide) ?_
      obtain ⟨rfl, rfl, rfl, rfl, rfl⟩ := in5 h
      exact W.wide (by omega) (by omega) (k0 ad121 hag0 hE0 rfl H locs ls hP hD hS (lv_sub hl [2, 3, 4, 1, 0] rfl))
set_option maxRecDepth 100000 in
set_option maxHeartbeats 4000000 in
theorem s_La_law_112 (l : Launch) (z : Zz) (E0 : Ev) (ad0 : Nat → Nat) (q1 : Nat) (q3 : Nat) {Q : State → Prop} {b L : Nat} {xs : Nat → Int32} {p : Program} {e : Env} {s : State} {m : MethodId} {below : List Frame} {meth : Method} {c : Code} {A : Nat → Prop} (hx : p.tables.exec = Jvm.exec) (hb : c.code = code) (hml : c.maxLocals = 6) (hts : ∀ w ∈ WG, w.before #[Value.ref b] s = true) (hown : s.vm.findClass "BallothallLaw" = some m.cls) (hlocks : meth.locks = false) (hA : ∀ q, s.heap.size ≤ q → A q) (hG : KG z s) (hZ : FZ z A s) (hX : va_X b L xs s s.heap) (hbl : b < s.heap.size) (hbA : ¬ A b) (hAb : ∀ q, A q → s.heap.size ≤ q) (mc ms c1 s1 : Nat) (hm : c1 ≤ mc ∧ mc = 600130) (hm2 : s1 ≤ ms ∧ ms = 7301080) : ∀ (fu c0 s0 : Nat) (ad : Nat → Nat) (E : Ev) (M : Mm) (x4 : Int) (x5 : Int) (t : Nat) (w4 : Int) (w5 : Int) (F : Ev) (N : Mm), c0 + fu * 6 ≤ c1 → s0 + fu * 264 ≤ s1 → (∀ i, i < nE E0 → ad i = ad0 i) → nE E0 ≤ nE E → l_La_law_112 L xs q1 q3 fu E M x4 x5 = some (t, w4, w5, F, N) → (∀ (ad1 : Nat → Nat), (∀ i, i < nE E0 → ad1 i = ad0 i) → nE E0 ≤ nE F → t = 1 → ∀ (H : Heap) (locs : List Loc) (ls : Array Slot), va_P z.1 classes (wv z ad1 F N) H → va_D A (wv z ad1 F N) → va_S A s.heap H locs → lv_has ls 6 [(1, .ref (ad1 q1)), (2, .ref (ad1 1)), (3, .ref (ad1 q3)), (4, .int (oI w4))] → W p l e room_1 s m #[Value.ref b] below meth c H locs c1 s1 Q (F0 m 136 ls [])) → ∀ (H : Heap) (locs : List Loc) (ls : Array Slot), va_P z.1 classes (wv z ad E M) H → va_D A (wv z ad E M) → va_S A s.heap H locs → lv_has ls 6 [(1, .ref (ad q1)), (2, .ref (ad 1)), (3, .ref (ad q3)), (4, .int (oI x4)), (5, .int (oI x5))] → W p l e room_1 s m #[Value.ref b] below meth c H locs c0 s0 Q (F0 m 112 ls []) := by
  intro fu
  induction fu with
  | zero =>
    intro c0 s0 ad E M x4 x5 t w4 w5 F N hc hs hag0 hE0 h
    have h : (none : Option (Nat × Int × Int × Ev × Mm)) = some _ := h
    cases h
  | succ fu ih =>
    intro c0 s0 ad E M x4 x5 t w4 w5 F N hc hs hag0 hE0 h k1 H locs ls hP hD hS hl
    obtain ⟨⟨t0, w40, w50, F9, N9⟩, g0, h⟩ := bd_e h
    refine W.wide (Nat.le_refl _) (Nat.le_refl _) (b_La_law_112b l z E0 ad0 ad E M q1 q3 x4 x5 t0 w40 w50 F9 N9 hx hb hml hts hown hlocks hA hG hZ hX hbl hbA hAb mc ms c0 s0 (c0 + 6) (s0 + 264) (Nat.le_refl _) (Nat.le_refl _) (by omega) (by omega) hag0 hE0 g0 (fun ad1 ha he e0 => ?_) (fun ad1 ha he e0 => ?_) H locs ls hP hD hS hl)
    · subst e0
      have h := ite_t rfl h
      exact ih (c0 + 6) (s0 + 264) ad1 F9 N9 w40 w50 t w4 w5 F N (by omega) (by omega) ha he h k1
    · subst e0
      have h := ite_f (by decide) h
      obtain ⟨rfl, rfl, rfl, rfl, rfl⟩ := in5 h
      exact fun H locs ls hP hD hS hl => W.wide (by omega) (by omega) (k1 ad1 ha he rfl H locs ls hP hD hS hl)
set_option maxRecDepth 100000 in
set_option maxHeartbeats 4000000 in
theorem b_La_law_j211 (l : Launch) (z : Zz) (E0 : Ev) (ad0 : Nat → Nat) (ad : Nat → Nat) (E : Ev) (M : Mm) (q1 : Nat) (y0 : Int) (r : Int) (hr1 : r = 1)  {b L : Nat} {xs : Nat → Int32} {p : Program} {e : Env} {s : State} {m : MethodId} {below : List Frame} {meth : Method} {c : Code} {A : Nat → Prop} (hx : p.tables.exec = Jvm.exec) (hb : c.code = code) (hml : c.maxLocals = 6) (hts : ∀ w ∈ WG, w.before #[Value.ref b] s = true) (hown : s.vm.findClass "BallothallLaw" = some m.cls) (hlocks : meth.locks = false) (hA : ∀ q, s.heap.size ≤ q → A q) (hG : KG z s) (hZ : FZ z A s) (hX : va_X b L xs s s.heap) (hbl : b < s.heap.size) (hbA : ¬ A b) (hAb : ∀ q, A q → s.heap.size ≤ q) (hr : meth.sig.returnType = ret) (mc ms c0 s0 c1 s1 : Nat) (hc : c0 + 1187 ≤ c1) (hs : s0 + 31381 ≤ s1) (hm : c1 ≤ mc ∧ mc = 600130) (hm2 : s1 ≤ ms ∧ ms = 7301080) (hag0 : ∀ i, i < nE E0 → ad i = ad0 i) (hE0 : nE E0 ≤ nE E) (h : La_law_j211 L xs E M q1 y0 = some r) : ∀ (H : Heap) (locs : List Loc) (ls : Array Slot), va_P z.1 classes (wv z ad E M) H → va_D A (wv z ad E M) → va_S A s.heap H locs → lv_has ls 6 [(1, .ref (ad q1))] → W p l e room_1 s m #[Value.ref b] below meth c H locs c0 s0 (lw_Z below #[Value.ref b] s) (F0 m 211 ls [.int (oI y0)]) := by
  intro H locs ls hP hD hS hl
  unfold La_law_j211 at h
  obtain ⟨hL, h⟩ := ck_e h
  obtain ⟨h_q1, h⟩ := ck_e h
  refine lv_istore (lv' := [(4, .int (oI y0)), (1, .ref (ad q1))]) hx hb d_law_211 hl (by decide) rfl (fun ls hl => ?_)
  refine lv_iload hx hb d_law_213 (lv_at hl 0 rfl) ?_
  obtain ⟨ok127, h⟩ := ck_e h
  refine lv_if_eq (tgt := 243) hx hb d_law_215 (by decide) (fun c9 => ?_) (fun c9 => ?_)
  · have h := ite_t ((oI_eq0 ok127).mp c9) h
    refine lv_iconst (v := oI 0) hx hb d_law_243 (by decide +kernel) ?_
    have h := Option.some.inj h
    exact absurd (h.trans hr1) (by decide)
  · have h := ite_f (fun q => c9 ((oI_eq0 ok127).mpr q)) h
    refine lv_aload_n hx hb d_law_218 rfl (lv_at hl 1 rfl) ?_
    obtain ⟨ok129, h⟩ := ck_e h
    have hT9 : tE E 0 = (0, 1) := Prod.ext (by have := h_q1.2; rw [ok129.1] at this; exact this) ok129.2
    have hi9 : 0 < nE E := by have := h_q1.1; rw [ok129.1] at this; exact this
    have hP : va_P z.1 classes (wv z ad eOne M) H := wv_cutP hi9 hT9 hP
    have hD : va_D A (wv z ad eOne M) := wv_cutD hi9 hT9 hD
    have h_q1 : isIA eOne q1 := by rw [ok129.1]; exact ⟨Nat.zero_lt_one, rfl⟩
    have hl : lv_has ls 6 [(4, .int (oI y0)), (1, .ref (ad q1))] := lv_sub hl [0, 1] rfl
    obtain ⟨⟨r128, E128, M128⟩, g128, h⟩ := bd_e h
    obtain ⟨hgw128, h⟩ := ck_e h
    refine kS (As := [.ref (ad q1)]) (rest := []) (s_La_seats l z ad eOne M q1 r128 E128 M128 g128) hx hb hml hown hts w_1506 w_1504 w_1505 w_0 md_3dc001 ⟨Nat.le_of_ble_eq_true rfl, Nat.le_of_ble_eq_true rfl⟩ hG hZ hP hD hS hA rfl hl.1 rfl (Nat.le_of_ble_eq_true rfl) d_law_219 ⟨(show _ ≤ 600130 by omega), (show _ ≤ 7301080 by omega)⟩ (fun u128 H locs hP hD hS => ?_)
    obtain ⟨ad128, had128⟩ : ∃ q, q = adj eOne ad u128 := ⟨_, rfl⟩
    have hP : va_P z.1 classes (wv z ad128 E128 M128) H := by rw [had128]; exact hP
    have hD : va_D A (wv z ad128 E128 M128) := by rw [had128]; exact hD
    have hag128 : ∀ i, i < nE eOne → ad128 i = ad i := fun i hi => by rw [had128]; exact adj_lt hi
    have hl : lv_has ls 6 [(4, .int (oI y0)), (1, .ref (ad128 q1))] := by rw [hag128 q1 h_q1.1]; exact hl
    refine W.eq (g2 := F0 m 222 ls (.int (oI r128) :: [])) (by rfl) ?_
    have h_q1 : isIA E128 q1 := isA_up hgw128 h_q1
    obtain ⟨ok130, h⟩ := ck_e h
    refine lv_if_eq (tgt := 243) hx hb d_law_222 (by decide) (fun c9 => ?_) (fun c9 => ?_)
    · have h := ite_t ((oI_eq0 ok130).mp c9) h
      refine lv_iconst (v := oI 0) hx hb d_law_243 (by decide +kernel) ?_
      have h := Option.some.inj h
      exact absurd (h.trans hr1) (by decide)
    · have h := ite_f (fun q => c9 ((oI_eq0 ok130).mpr q)) h
      refine lv_aload_n hx hb d_law_225 rfl (lv_at hl 1 rfl) ?_
      obtain ⟨ok132, h⟩ := ck_e h
      have hT9 : tE E128 0 = (0, 1) := Prod.ext (by have := h_q1.2; rw [ok132.1] at this; exact this) ok132.2
      have hi9 : 0 < nE E128 := by have := h_q1.1; rw [ok132.1] at this; exact this
      have hP : va_P z.1 classes (wv z ad128 eOne M128) H := wv_cutP hi9 hT9 hP
      have hD : va_D A (wv z ad128 eOne M128) := wv_cutD hi9 hT9 hD
      have h_q1 : isIA eOne q1 := by rw [ok132.1]; exact ⟨Nat.zero_lt_one, rfl⟩
      have hl : lv_has ls 6 [(4, .int (oI y0)), (1, .ref (ad128 q1))] := lv_sub hl [0, 1] rfl
      obtain ⟨⟨r131, E131, M131⟩, g131, h⟩ := bd_e h
      obtain ⟨hgw131, h⟩ := ck_e h
      refine kS (As := [.ref (ad128 q1)]) (rest := []) (s_La_districts l z ad128 eOne M128 q1 r131 E131 M131 g131) hx hb hml hown hts w_1605 w_1603 w_1604 w_0 md_66c04b ⟨Nat.le_of_ble_eq_true rfl, Nat.le_of_ble_eq_true rfl⟩ hG hZ hP hD hS hA rfl hl.1 rfl (Nat.le_of_ble_eq_true rfl) d_law_226 ⟨(show _ ≤ 600130 by omega), (show _ ≤ 7301080 by omega)⟩ (fun u131 H locs hP hD hS => ?_)
      obtain ⟨ad131, had131⟩ : ∃ q, q = adj eOne ad128 u131 := ⟨_, rfl⟩
      have hP : va_P z.1 classes (wv z ad131 E131 M131) H := by rw [had131]; exact hP
      have hD : va_D A (wv z ad131 E131 M131) := by rw [had131]; exact hD
      have hag131 : ∀ i, i < nE eOne → ad131 i = ad128 i := fun i hi => by rw [had131]; exact adj_lt hi
      have hl : lv_has ls 6 [(4, .int (oI y0)), (1, .ref (ad131 q1))] := by rw [hag131 q1 h_q1.1]; exact hl
      refine W.eq (g2 := F0 m 229 ls (.int (oI r131) :: [])) (by rfl) ?_
      have h_q1 : isIA E131 q1 := isA_up hgw131 h_q1
      obtain ⟨ok133, h⟩ := ck_e h
      refine lv_if_eq (tgt := 243) hx hb d_law_229 (by decide) (fun c9 => ?_) (fun c9 => ?_)
      · have h := ite_t ((oI_eq0 ok133).mp c9) h
        refine lv_iconst (v := oI 0) hx hb d_law_243 (by decide +kernel) ?_
        have h := Option.some.inj h
        exact absurd (h.trans hr1) (by decide)
      · have h := ite_f (fun q => c9 ((oI_eq0 ok133).mpr q)) h
        refine lv_aload_n hx hb d_law_232 rfl (lv_at hl 1 rfl) ?_
        obtain ⟨ok135, h⟩ := ck_e h
        have hT9 : tE E131 0 = (0, 1) := Prod.ext (by have := h_q1.2; rw [ok135.1] at this; exact this) ok135.2
        have hi9 : 0 < nE E131 := by have := h_q1.1; rw [ok135.1] at this; exact this
        have hP : va_P z.1 classes (wv z ad131 eOne M131) H := wv_cutP hi9 hT9 hP
        have hD : va_D A (wv z ad131 eOne M131) := wv_cutD hi9 hT9 hD
        have h_q1 : isIA eOne q1 := by rw [ok135.1]; exact ⟨Nat.zero_lt_one, rfl⟩
        have hl : lv_has ls 6 [(4, .int (oI y0)), (1, .ref (ad131 q1))] := lv_sub hl [0, 1] rfl
        obtain ⟨⟨r134, E134, M134⟩, g134, h⟩ := bd_e h
        obtain ⟨hgw134, h⟩ := ck_e h
        refine kS (As := [.ref (ad131 q1)]) (rest := []) (s_La_council l z ad131 eOne M131 q1 r134 E134 M134 g134) hx hb hml hown hts w_1655 w_1653 w_1654 w_0 md_21fd83 ⟨Nat.le_of_ble_eq_true rfl, Nat.le_of_ble_eq_true rfl⟩ hG hZ hP hD hS hA rfl hl.1 rfl (Nat.le_of_ble_eq_true rfl) d_law_233 ⟨(show _ ≤ 600130 by omega), (show _ ≤ 7301080 by omega)⟩ (fun u134 H locs hP hD hS => ?_)
        obtain ⟨ad134, had134⟩ : ∃ q, q = adj eOne ad131 u134 := ⟨_, rfl⟩
        have hP : va_P z.1 classes (wv z ad134 E134 M134) H := by rw [had134]; exact hP
        have hD : va_D A (wv z ad134 E134 M134) := by rw [had134]; exact hD
        have hag134 : ∀ i, i < nE eOne → ad134 i = ad131 i := fun i hi => by rw [had134]; exact adj_lt hi
        have hl : lv_has ls 6 [(4, .int (oI y0)), (1, .ref (ad134 q1))] := by rw [hag134 q1 h_q1.1]; exact hl
        refine W.eq (g2 := F0 m 236 ls (.int (oI r134) :: [])) (by rfl) ?_
        have h_q1 : isIA E134 q1 := isA_up hgw134 h_q1
        obtain ⟨ok136, h⟩ := ck_e h
        refine lv_if_eq (tgt := 243) hx hb d_law_236 (by decide) (fun c9 => ?_) (fun c9 => ?_)
        · have h := ite_t ((oI_eq0 ok136).mp c9) h
          refine lv_iconst (v := oI 0) hx hb d_law_243 (by decide +kernel) ?_
          have h := Option.some.inj h
          exact absurd (h.trans hr1) (by decide)
        · have h := ite_f (fun q => c9 ((oI_eq0 ok136).mpr q)) h
          refine lv_iconst (v := oI 1) hx hb d_law_239 (by decide +kernel) ?_
          refine lv_goto (tgt := 244) hx hb d_law_240 (by decide) ?_
          refine va_forget (fun q hq => hAb _ (hS.2.2 q hq)) ?_
          refine W.widen (k := 600130) (n := 7301080) (by omega) (by omega) ?_
          exact lw_ret hx hb hr hlocks d_law_244
set_option maxRecDepth 100000 in
set_option maxHeartbeats 4000000 in
theorem b_La_law_j136 (l : Launch) (z : Zz) (E0 : Ev) (ad0 : Nat → Nat) (ad : Nat → Nat) (E : Ev) (M : Mm) (q1 : Nat) (q3 : Nat) (x4 : Int) (r : Int) (hr1 : r = 1)  {b L : Nat} {xs : Nat → Int32} {p : Program} {e : Env} {s : State} {m : MethodId} {below : List Frame} {meth : Method} {c : Code} {A : Nat → Prop} (hx : p.tables.exec = Jvm.exec) (hb : c.code = code) (hml : c.maxLocals = 6) (hts : ∀ w ∈ WG, w.before #[Value.ref b] s = true) (hown : s.vm.findClass "BallothallLaw" = some m.cls) (hlocks : meth.locks = false) (hA : ∀ q, s.heap.size ≤ q → A q) (hG : KG z s) (hZ : FZ z A s) (hX : va_X b L xs s s.heap) (hbl : b < s.heap.size) (hbA : ¬ A b) (hAb : ∀ q, A q → s.heap.size ≤ q) (hr : meth.sig.returnType = ret) (mc ms c0 s0 c1 s1 : Nat) (hc : c0 + 3253 ≤ c1) (hs : s0 + 48170 ≤ s1) (hm : c1 ≤ mc ∧ mc = 600130) (hm2 : s1 ≤ ms ∧ ms = 7301080) (hag0 : ∀ i, i < nE E0 → ad i = ad0 i) (hE0 : nE E0 ≤ nE E) (h : La_law_j136 L xs E M q1 q3 x4 = some r) : ∀ (H : Heap) (locs : List Loc) (ls : Array Slot), va_P z.1 classes (wv z ad E M) H → va_D A (wv z ad E M) → va_S A s.heap H locs → lv_has ls 6 [(1, .ref (ad q1)), (2, .ref (ad 1)), (3, .ref (ad q3)), (4, .int (oI x4))] → W p l e room_1 s m #[Value.ref b] below meth c H locs c0 s0 (lw_Z below #[Value.ref b] s) (F0 m 136 ls []) := by
  intro H locs ls hP hD hS hl
  unfold La_law_j136 at h
  obtain ⟨hL, h⟩ := ck_e h
  obtain ⟨h_q1, h⟩ := ck_e h
  obtain ⟨h_q3, h⟩ := ck_e h
  refine lv_aload_n hx hb d_law_136 rfl (lv_at hl 1 rfl) ?_
  refine lv_iconst (v := oI 0) hx hb d_law_137 (by decide +kernel) ?_
  refine lv_aload_n hx hb d_law_138 rfl (lv_at hl 0 rfl) ?_
  refine lv_aload_n hx hb d_law_139 rfl (lv_at hl 2 rfl) ?_
  refine m_giN (C := "BallothallLaw$Box") (T := TX12) (N := 4) (ci := 12) (k := 0) hx hb hts iX12 hown hG hP h_q3.1 h_q3.2 rfl (by decide) n_775 rfl (fun _ h9 => h9) rfl rfl d_law_140 ?_
  obtain ⟨⟨r123, M123⟩, g123, h⟩ := bd_e h
  refine kS (As := [.ref (ad q1), .int (oI (M q3 0))]) (rest := [.int (oI 0), .ref (ad 1)]) (s_La_next l z ad E M q1 (M q3 0) r123 M123 hL g123) hx hb hml hown hts w_797 w_795 w_796 w_0 md_199d8f ⟨Nat.le_of_ble_eq_true rfl, Nat.le_of_ble_eq_true rfl⟩ hG hZ hP hD hS hA rfl hl.1 rfl (Nat.le_of_ble_eq_true rfl) d_law_143 ⟨(show _ ≤ 600130 by omega), (show _ ≤ 7301080 by omega)⟩ (fun _ H locs hP hD hS => ?_)
  have hP : va_P z.1 classes (wv z ad E M123) H := hP
  have hD : va_D A (wv z ad E M123) := hD
  refine W.eq (g2 := F0 m 146 ls [.int (oI r123), .int (oI 0), .ref (ad 1)]) rfl ?_
  refine lv_aload_n hx hb d_law_146 rfl (lv_at hl 0 rfl) ?_
  refine lv_bipush (v := oI 100) hx hb d_law_147 (by decide +kernel) ?_
  obtain ⟨⟨r124, M124⟩, g124, h⟩ := bd_e h
  refine kS (As := [.ref (ad q1), .int (oI 100)]) (rest := [.int (oI r123), .int (oI 0), .ref (ad 1)]) (s_La_next l z ad E M123 q1 100 r124 M124 hL g124) hx hb hml hown hts w_797 w_795 w_796 w_0 md_199d8f ⟨Nat.le_of_ble_eq_true rfl, Nat.le_of_ble_eq_true rfl⟩ hG hZ hP hD hS hA rfl hl.1 rfl (Nat.le_of_ble_eq_true rfl) d_law_149 ⟨(show _ ≤ 600130 by omega), (show _ ≤ 7301080 by omega)⟩ (fun _ H locs hP hD hS => ?_)
  have hP : va_P z.1 classes (wv z ad E M124) H := hP
  have hD : va_D A (wv z ad E M124) := hD
  refine W.eq (g2 := F0 m 152 ls [.int (oI r124), .int (oI r123), .int (oI 0), .ref (ad 1)]) rfl ?_
  obtain ⟨⟨r125, M125⟩, g125, h⟩ := bd_e h
  refine kV (As := [.int (oI 0), .int (oI r123), .int (oI r124)]) (rest := []) (s_B_setLot l z ad E M124 0 r123 r124 r125 M125 hL g125) hx hb hml hown hts w_526 w_523 w_524 w_525 w_1 md_7e6362 ⟨Nat.le_of_ble_eq_true rfl, Nat.le_of_ble_eq_true rfl⟩ hG hZ hP hD hS hA 1 (wv_o (ci := 11) (yi_1 hL) (yt_1 hL)) rfl rfl rfl hl.1 rfl (Nat.le_of_ble_eq_true rfl) d_law_152 ⟨(show _ ≤ 600130 by omega), (show _ ≤ 7301080 by omega)⟩ (fun _ H locs hP hD hS => ?_)
  have hP : va_P z.1 classes (wv z ad E M125) H := hP
  have hD : va_D A (wv z ad E M125) := hD
  refine W.eq (g2 := F0 m 155 ls [.int (oI r125)]) rfl ?_
  refine lv_istore (lv' := [(5, .int (oI r125)), (1, .ref (ad q1)), (2, .ref (ad 1)), (3, .ref (ad q3)), (4, .int (oI x4))]) hx hb d_law_155 hl (by decide) rfl (fun ls hl => ?_)
  refine lv_iload hx hb d_law_157 (lv_at hl 4 rfl) ?_
  obtain ⟨ok126, h⟩ := ck_e h
  refine lv_if_eq (tgt := 210) hx hb d_law_159 (by decide) (fun c9 => ?_) (fun c9 => ?_)
  · have h := ite_t ((oI_eq0 ok126).mp c9) h
    refine lv_iconst (v := oI 0) hx hb d_law_210 (by decide +kernel) ?_
    exact b_La_law_j211 l z E ad ad E M125 q1 0 r hr1 hx hb hml hts hown hlocks hA hG hZ hX hbl hbA hAb hr mc ms _ _ c1 s1 (by omega) (by omega) hm hm2 (fun _ _ => rfl) (Nat.le_refl _) h H locs ls hP hD hS (lv_sub hl [1] rfl)
  · have h := ite_f (fun q => c9 ((oI_eq0 ok126).mpr q)) h
    refine lv_aload_n hx hb d_law_162 rfl (lv_at hl 2 rfl) ?_
    obtain ⟨r137, g137, h⟩ := bd_e h
    refine kV (As := []) (rest := []) (s_B_allBallots l z ad E M125 r137 hL g137) hx hb hml hown hts w_568 w_565 w_566 w_567 w_1 md_5369b4 ⟨Nat.le_of_ble_eq_true rfl, Nat.le_of_ble_eq_true rfl⟩ hG hZ hP hD hS hA 1 (wv_o (ci := 11) (yi_1 hL) (yt_1 hL)) rfl rfl rfl hl.1 rfl (Nat.le_of_ble_eq_true rfl) d_law_163 ⟨(show _ ≤ 600130 by omega), (show _ ≤ 7301080 by omega)⟩ (fun _ H locs hP hD hS => ?_)
    have hP : va_P z.1 classes (wv z ad E M125) H := hP
    have hD : va_D A (wv z ad E M125) := hD
    refine W.eq (g2 := F0 m 166 ls [.int (oI r137)]) rfl ?_
    refine lv_aload_n hx hb d_law_166 rfl (lv_at hl 3 rfl) ?_
    obtain ⟨r138, g138, h⟩ := bd_e h
    refine kV (As := []) (rest := [.int (oI r137)]) (s_Lb_all l z ad E M125 q3 r138 hL g138) hx hb hml hown hts w_794 w_791 w_792 w_793 w_12 md_dbe0d3 ⟨Nat.le_of_ble_eq_true rfl, Nat.le_of_ble_eq_true rfl⟩ hG hZ hP hD hS hA q3 (wv_o (ci := 12) h_q3.1 h_q3.2) rfl rfl rfl hl.1 rfl (Nat.le_of_ble_eq_true rfl) d_law_167 ⟨(show _ ≤ 600130 by omega), (show _ ≤ 7301080 by omega)⟩ (fun _ H locs hP hD hS => ?_)
    have hP : va_P z.1 classes (wv z ad E M125) H := hP
    have hD : va_D A (wv z ad E M125) := hD
    refine W.eq (g2 := F0 m 170 ls [.int (oI r138), .int (oI r137)]) rfl ?_
    obtain ⟨ok139, h⟩ := ck_e h
    obtain ⟨ok140, h⟩ := ck_e h
    refine lv_icmp_ne (tgt := 210) hx hb d_law_170 (by decide) (fun c9 => ?_) (fun c9 => ?_)
    · have h := ite_f (fun q => c9 ((oI_eq (a := r137) (b := r138) ok139 ok140).mpr q)) h
      refine lv_iconst (v := oI 0) hx hb d_law_210 (by decide +kernel) ?_
      exact b_La_law_j211 l z E ad ad E M125 q1 0 r hr1 hx hb hml hts hown hlocks hA hG hZ hX hbl hbA hAb hr mc ms _ _ c1 s1 (by omega) (by omega) hm hm2 (fun _ _ => rfl) (Nat.le_refl _) h H locs ls hP hD hS (lv_sub hl [1] rfl)
    · have h := ite_t ((oI_eq (a := r137) (b := r138) ok139 ok140).mp c9) h
      refine lv_aload_n hx hb d_law_173 rfl (lv_at hl 2 rfl) ?_
      refine lv_aload_n hx hb d_law_174 rfl (lv_at hl 3 rfl) ?_
      refine lv_aload_n hx hb d_law_175 rfl (lv_at hl 1 rfl) ?_
      obtain ⟨⟨r141, E141, M141⟩, g141, h⟩ := bd_e h
      obtain ⟨hgw141, h⟩ := ck_e h
      refine kS (As := [.ref (ad 1), .ref (ad q3), .ref (ad q1)]) (rest := []) (s_La_transferable l z ad E M125 q3 q1 r141 E141 M141 g141) hx hb hml hown hts w_1065 w_1063 w_1064 w_0 md_552285 ⟨Nat.le_of_ble_eq_true rfl, Nat.le_of_ble_eq_true rfl⟩ hG hZ hP hD hS hA rfl hl.1 rfl (Nat.le_of_ble_eq_true rfl) d_law_176 ⟨(show _ ≤ 600130 by omega), (show _ ≤ 7301080 by omega)⟩ (fun u141 H locs hP hD hS => ?_)
      obtain ⟨ad141, had141⟩ : ∃ q, q = adj E ad u141 := ⟨_, rfl⟩
      have hP : va_P z.1 classes (wv z ad141 E141 M141) H := by rw [had141]; exact hP
      have hD : va_D A (wv z ad141 E141 M141) := by rw [had141]; exact hD
      have hag141 : ∀ i, i < nE E → ad141 i = ad i := fun i hi => by rw [had141]; exact adj_lt hi
      have hl : lv_has ls 6 [(5, .int (oI r125)), (1, .ref (ad141 q1)), (2, .ref (ad141 1)), (3, .ref (ad141 q3)), (4, .int (oI x4))] := by rw [hag141 q1 h_q1.1, hag141 1 (yi_1 hL), hag141 q3 h_q3.1]; exact hl
      refine W.eq (g2 := F0 m 179 ls (.int (oI r141) :: [])) (by rfl) ?_
      have hag0 : ∀ i, i < nE E0 → ad141 i = ad0 i := fun i hi => (hag141 i (Nat.lt_of_lt_of_le hi hE0)).trans (hag0 i hi)
      have hE0 : nE E0 ≤ nE E141 := Nat.le_trans hE0 hgw141.1
      obtain ⟨hL, h⟩ := ck_e h
      have h_q1 : isIA E141 q1 := isA_up hgw141 h_q1
      have h_q3 : isO 12 E141 q3 := isO_up hgw141 h_q3
      obtain ⟨ok142, h⟩ := ck_e h
      refine lv_if_eq (tgt := 210) hx hb d_law_179 (by decide) (fun c9 => ?_) (fun c9 => ?_)
      · have h := ite_t ((oI_eq0 ok142).mp c9) h
        refine lv_iconst (v := oI 0) hx hb d_law_210 (by decide +kernel) ?_
        exact b_La_law_j211 l z E141 ad141 ad141 E141 M141 q1 0 r hr1 hx hb hml hts hown hlocks hA hG hZ hX hbl hbA hAb hr mc ms _ _ c1 s1 (by omega) (by omega) hm hm2 (fun _ _ => rfl) (Nat.le_refl _) h H locs ls hP hD hS (lv_sub hl [1] rfl)
      · have h := ite_f (fun q => c9 ((oI_eq0 ok142).mpr q)) h
        refine lv_aload_n hx hb d_law_182 rfl (lv_at hl 2 rfl) ?_
        refine lv_aload_n hx hb d_law_183 rfl (lv_at hl 3 rfl) ?_
        obtain ⟨⟨r143, E143, M143⟩, g143, h⟩ := bd_e h
        obtain ⟨hgw143, h⟩ := ck_e h
        refine kS (As := [.ref (ad141 1), .ref (ad141 q3)]) (rest := []) (s_La_pairs l z ad141 E141 M141 q3 r143 E143 M143 g143) hx hb hml hown hts w_1299 w_1297 w_1298 w_0 md_02852a ⟨Nat.le_of_ble_eq_true rfl, Nat.le_of_ble_eq_true rfl⟩ hG hZ hP hD hS hA rfl hl.1 rfl (Nat.le_of_ble_eq_true rfl) d_law_184 ⟨(show _ ≤ 600130 by omega), (show _ ≤ 7301080 by omega)⟩ (fun u143 H locs hP hD hS => ?_)
        obtain ⟨ad143, had143⟩ : ∃ q, q = adj E141 ad141 u143 := ⟨_, rfl⟩
        have hP : va_P z.1 classes (wv z ad143 E143 M143) H := by rw [had143]; exact hP
        have hD : va_D A (wv z ad143 E143 M143) := by rw [had143]; exact hD
        have hag143 : ∀ i, i < nE E141 → ad143 i = ad141 i := fun i hi => by rw [had143]; exact adj_lt hi
        have hl : lv_has ls 6 [(5, .int (oI r125)), (1, .ref (ad143 q1)), (2, .ref (ad143 1)), (3, .ref (ad143 q3)), (4, .int (oI x4))] := by rw [hag143 q1 h_q1.1, hag143 1 (yi_1 hL), hag143 q3 h_q3.1]; exact hl
        refine W.eq (g2 := F0 m 187 ls (.int (oI r143) :: [])) (by rfl) ?_
        have hag0 : ∀ i, i < nE E0 → ad143 i = ad0 i := fun i hi => (hag143 i (Nat.lt_of_lt_of_le hi hE0)).trans (hag0 i hi)
        have hE0 : nE E0 ≤ nE E143 := Nat.le_trans hE0 hgw143.1
        obtain ⟨hL, h⟩ := ck_e h
        have h_q1 : isIA E143 q1 := isA_up hgw143 h_q1
        have h_q3 : isO 12 E143 q3 := isO_up hgw143 h_q3
        obtain ⟨ok144, h⟩ := ck_e h
        refine lv_if_eq (tgt := 210) hx hb d_law_187 (by decide) (fun c9 => ?_) (fun c9 => ?_)
        · have h := ite_t ((oI_eq0 ok144).mp c9) h
          refine lv_iconst (v := oI 0) hx hb d_law_210 (by decide +kernel) ?_
          exact b_La_law_j211 l z E143 ad143 ad143 E143 M143 q1 0 r hr1 hx hb hml hts hown hlocks hA hG hZ hX hbl hbA hAb hr mc ms _ _ c1 s1 (by omega) (by omega) hm hm2 (fun _ _ => rfl) (Nat.le_refl _) h H locs ls hP hD hS (lv_sub hl [1] rfl)
        · have h := ite_f (fun q => c9 ((oI_eq0 ok144).mpr q)) h
          refine lv_aload_n hx hb d_law_190 rfl (lv_at hl 2 rfl) ?_
          refine lv_aload_n hx hb d_law_191 rfl (lv_at hl 3 rfl) ?_
          refine lv_aload_n hx hb d_law_192 rfl (lv_at hl 1 rfl) ?_
          obtain ⟨⟨r145, E145, M145⟩, g145, h⟩ := bd_e h
          obtain ⟨hgw145, h⟩ := ck_e h
          refine kS (As := [.ref (ad143 1), .ref (ad143 q3), .ref (ad143 q1)]) (rest := []) (s_La_gains l z ad143 E143 M143 q3 q1 r145 E145 M145 g145) hx hb hml hown hts w_1355 w_1353 w_1354 w_0 md_f3ef4d ⟨Nat.le_of_ble_eq_true rfl, Nat.le_of_ble_eq_true rfl⟩ hG hZ hP hD hS hA rfl hl.1 rfl (Nat.le_of_ble_eq_true rfl) d_law_193 ⟨(show _ ≤ 600130 by omega), (show _ ≤ 7301080 by omega)⟩ (fun u145 H locs hP hD hS => ?_)
          obtain ⟨ad145, had145⟩ : ∃ q, q = adj E143 ad143 u145 := ⟨_, rfl⟩
          have hP : va_P z.1 classes (wv z ad145 E145 M145) H := by rw [had145]; exact hP
          have hD : va_D A (wv z ad145 E145 M145) := by rw [had145]; exact hD
          have hag145 : ∀ i, i < nE E143 → ad145 i = ad143 i := fun i hi => by rw [had145]; exact adj_lt hi
          have hl : lv_has ls 6 [(5, .int (oI r125)), (1, .ref (ad145 q1)), (2, .ref (ad145 1)), (3, .ref (ad145 q3)), (4, .int (oI x4))] := by rw [hag145 q1 h_q1.1, hag145 1 (yi_1 hL), hag145 q3 h_q3.1]; exact hl
          refine W.eq (g2 := F0 m 196 ls (.int (oI r145) :: [])) (by rfl) ?_
          have hag0 : ∀ i, i < nE E0 → ad145 i = ad0 i := fun i hi => (hag145 i (Nat.lt_of_lt_of_le hi hE0)).trans (hag0 i hi)
          have hE0 : nE E0 ≤ nE E145 := Nat.le_trans hE0 hgw145.1
          obtain ⟨hL, h⟩ := ck_e h
          have h_q1 : isIA E145 q1 := isA_up hgw145 h_q1
          have h_q3 : isO 12 E145 q3 := isO_up hgw145 h_q3
          obtain ⟨ok146, h⟩ := ck_e h
          refine lv_if_eq (tgt := 210) hx hb d_law_196 (by decide) (fun c9 => ?_) (fun c9 => ?_)
          · have h := ite_t ((oI_eq0 ok146).mp c9) h
            refine lv_iconst (v := oI 0) hx hb d_law_210 (by decide +kernel) ?_
            exact b_La_law_j211 l z E145 ad145 ad145 E145 M145 q1 0 r hr1 hx hb hml hts hown hlocks hA hG hZ hX hbl hbA hAb hr mc ms _ _ c1 s1 (by omega) (by omega) hm hm2 (fun _ _ => rfl) (Nat.le_refl _) h H locs ls hP hD hS (lv_sub hl [1] rfl)
          · have h := ite_f (fun q => c9 ((oI_eq0 ok146).mpr q)) h
            refine lv_aload_n hx hb d_law_199 rfl (lv_at hl 2 rfl) ?_
            obtain ⟨⟨r147, M147⟩, g147, h⟩ := bd_e h
            refine kV (As := []) (rest := []) (s_B_errors l z ad145 E145 M145 r147 M147 hL g147) hx hb hml hown hts w_576 w_573 w_574 w_575 w_1 md_d65014 ⟨Nat.le_of_ble_eq_true rfl, Nat.le_of_ble_eq_true rfl⟩ hG hZ hP hD hS hA 1 (wv_o (ci := 11) (yi_1 hL) (yt_1 hL)) rfl rfl rfl hl.1 rfl (Nat.le_of_ble_eq_true rfl) d_law_200 ⟨(show _ ≤ 600130 by omega), (show _ ≤ 7301080 by omega)⟩ (fun _ H locs hP hD hS => ?_)
            have hP : va_P z.1 classes (wv z ad145 E145 M147) H := hP
            have hD : va_D A (wv z ad145 E145 M147) := hD
            refine W.eq (g2 := F0 m 203 ls [.int (oI r147)]) rfl ?_
            obtain ⟨ok148, h⟩ := ck_e h
            refine lv_if_ne (tgt := 210) hx hb d_law_203 (by decide) (fun c9 => ?_) (fun c9 => ?_)
            · have h := ite_f (fun q => c9 ((oI_eq0 ok148).mpr q)) h
              refine lv_iconst (v := oI 0) hx hb d_law_210 (by decide +kernel) ?_
              exact b_La_law_j211 l z E145 ad145 ad145 E145 M147 q1 0 r hr1 hx hb hml hts hown hlocks hA hG hZ hX hbl hbA hAb hr mc ms _ _ c1 s1 (by omega) (by omega) hm hm2 (fun _ _ => rfl) (Nat.le_refl _) h H locs ls hP hD hS (lv_sub hl [1] rfl)
            · have h := ite_t ((oI_eq0 ok148).mp c9) h
              refine lv_iconst (v := oI 1) hx hb d_law_206 (by decide +kernel) ?_
              refine lv_goto (tgt := 211) hx hb d_law_207 (by decide) ?_
              exact b_La_law_j211 l z E145 ad145 ad145 E145 M147 q1 1 r hr1 hx hb hml hts hown hlocks hA hG hZ hX hbl hbA hAb hr mc ms _ _ c1 s1 (by omega) (by omega) hm hm2 (fun _ _ => rfl) (Nat.le_refl _) h H locs ls hP hD hS (lv_sub hl [1] rfl)
set_option maxRecDepth 100000 in
set_option maxHeartbeats 4000000 in
theorem s_La_law (l : Launch) (z : Zz) (E0 : Ev) (ad0 : Nat → Nat) (ad : Nat → Nat) (E : Ev) (M : Mm) (r : Int) (hr1 : r = 1) {b L : Nat} {xs : Nat → Int32} {p : Program} {e : Env} {s : State} {m : MethodId} {below : List Frame} {meth : Method} {c : Code} {A : Nat → Prop} (hx : p.tables.exec = Jvm.exec) (hb : c.code = code) (hml : c.maxLocals = 6) (hts : ∀ w ∈ WG, w.before #[Value.ref b] s = true) (hown : s.vm.findClass "BallothallLaw" = some m.cls) (hlocks : meth.locks = false) (hA : ∀ q, s.heap.size ≤ q → A q) (hG : KG z s) (hZ : FZ z A s) (hX : va_X b L xs s s.heap) (hbl : b < s.heap.size) (hbA : ¬ A b) (hAb : ∀ q, A q → s.heap.size ≤ q) (hr : meth.sig.returnType = ret) (mc ms c0 s0 c1 s1 : Nat) (hc : c0 + 3799 ≤ c1) (hs : s0 + 66686 ≤ s1) (hm : c1 ≤ mc ∧ mc = 600130) (hm2 : s1 ≤ ms ∧ ms = 7301080) (hag0 : ∀ i, i < nE E0 → ad i = ad0 i) (hE0 : nE E0 ≤ nE E) (h : f_La_law L xs E M = some r) : ∀ (H : Heap) (locs : List Loc) (ls : Array Slot), va_P z.1 classes (wv z ad E M) H → va_D A (wv z ad E M) → va_S A s.heap H locs → lv_has ls 6 [(0, .ref b)] → W p l e room_1 s m #[Value.ref b] below meth c H locs c0 s0 (lw_Z below #[Value.ref b] s) (F0 m 0 ls []) := by
  intro H locs ls hP hD hS hl
  unfold f_La_law at h
  refine lv_iconst (v := oI 1) hx hb d_law_0 (by decide +kernel) ?_
  obtain ⟨p100, ep100, h⟩ := nb_e h
  obtain ⟨E100, eE100, h⟩ := nb_e h
  obtain ⟨M100, eM100, h⟩ := nb_e h
  refine m_newI (x := (1 : Int)) (N := 1) hx hb (by decide) (by decide) (by decide) (hts _ w_100) hG hP hD hS hA (show _ ≤ 600130 by omega) (show _ ≤ 7301080 by omega) d_law_1 (fun ad100 H hag100 hP hD hS => ?_)
  have hP : va_P z.1 classes (wv z ad100 E100 M100) H := by rw [eE100, eM100]; exact hP
  have hD : va_D A (wv z ad100 E100 M100) := by rw [eE100, eM100]; exact hD
  refine W.eq (g2 := F0 m 3 ls (.ref (ad100 p100) :: [])) (by rw [ep100] <;> rfl) ?_
  have hgw100 : Gw E E100 := by rw [eE100]; exact gw_new _ _
  have hag0 : ∀ i, i < nE E0 → ad100 i = ad0 i := fun i hi => (hag100 i (Nat.lt_of_lt_of_le hi hE0)).trans (hag0 i hi)
  have hE0 : nE E0 ≤ nE E100 := Nat.le_trans hE0 hgw100.1
  have h_p100 : isIA E100 p100 := by rw [ep100, eE100]; exact ⟨new_i _ _, by rw [new_T]⟩
  refine lv_dup hx hb d_law_3 rfl ?_
  refine lv_iconst (v := oI 0) hx hb d_law_4 (by decide +kernel) ?_
  refine lv_bipush (v := oI 13) hx hb d_law_5 (by decide +kernel) ?_
  obtain ⟨ok101, h⟩ := ck_e h
  refine m_is hx hb hG hP hD hS h_p100.1 (isIA_T h_p100) ok101 d_law_7 (fun H locs hP hD hS => ?_)
  have hP : va_P z.1 classes (wv z ad100 E100 (u2 M100 p100 0 13)) H := hP
  have hD : va_D A (wv z ad100 E100 (u2 M100 p100 0 13)) := hD
  refine lv_astore_n (lv' := [(1, .ref (ad100 p100)), (0, .ref b)]) hx hb d_law_8 rfl hl (by decide) rfl (fun ls hl => ?_)
  refine lv_iconst (v := oI 0) hx hb d_law_9 (by decide +kernel) ?_
  refine lv_istore_n (lv' := [(2, .int (oI 0)), (1, .ref (ad100 p100)), (0, .ref b)]) hx hb d_law_10 rfl hl (by decide) rfl (fun ls hl => ?_)
  obtain ⟨⟨t108, v108_2, E108, M108⟩, g108, h⟩ := bd_e h
  obtain ⟨hgw108, h⟩ := ck_e h
  obtain ⟨ok108, h⟩ := ck_e h
  refine s_La_law_11 l z E100 ad100 p100 hx hb hml hts hown hlocks hA hG hZ hX hbl hbA hAb mc ms (c0 + 1) (s0 + 1) (by omega) (by omega) 5000 _ _ ad100 E100 (u2 M100 p100 0 13) 0 t108 v108_2 E108 M108 (by omega) (by omega) (fun _ _ => rfl) (Nat.le_refl _) g108 (fun ad108 hag108 hEE108 e108 H locs ls hP hD hS hl => ?_) H locs ls hP hD hS (lv_sub hl [2, 1, 0] rfl)
  have hag0 : ∀ i, i < nE E0 → ad108 i = ad0 i := fun i hi => (hag108 i (Nat.lt_of_lt_of_le hi hE0)).trans (hag0 i hi)
  have hE0 : nE E0 ≤ nE E108 := Nat.le_trans hE0 hgw108.1
  have h_p100 : isIA E108 p100 := isA_up hgw108 h_p100
  obtain ⟨p109, ep109, h⟩ := nb_e h
  obtain ⟨E109, eE109, h⟩ := nb_e h
  obtain ⟨M109, eM109, h⟩ := nb_e h
  refine m_newO (ci := 11) (C := "Ballothall") (T := TX11) (n := 14) hx hb hts iX11 tyX11_ok hown w_32 w_33 w_1 rfl (fun _ => fsX11) hG hP hD hS hA (show _ ≤ 600130 by omega) (show _ ≤ 7301080 by omega) d_law_52 (fun ad109 H hag109 hP hD hS => ?_)
  have hP : va_P z.1 classes (wv z ad109 E109 M109) H := by rw [eE109, eM109]; exact hP
  have hD : va_D A (wv z ad109 E109 M109) := by rw [eE109, eM109]; exact hD
  refine W.eq (g2 := F0 m 55 ls (.ref (ad109 p109) :: [])) (by rw [ep109] <;> rfl) ?_
  have hl : lv_has ls 6 [(1, .ref (ad109 p100))] := by rw [hag109 p100 h_p100.1]; exact hl
  have hgw109 : Gw E108 E109 := by rw [eE109]; exact gw_new _ _
  have hag0 : ∀ i, i < nE E0 → ad109 i = ad0 i := fun i hi => (hag109 i (Nat.lt_of_lt_of_le hi hE0)).trans (hag0 i hi)
  have hE0 : nE E0 ≤ nE E109 := Nat.le_trans hE0 hgw109.1
  have h_p100 : isIA E109 p100 := isA_up hgw109 h_p100
  have h_p109 : isO 11 E109 p109 := by rw [ep109, eE109]; exact ⟨new_i _ _, new_T _ _⟩
  refine lv_dup hx hb d_law_55 rfl ?_
  obtain ⟨⟨E110, M110⟩, g110, h⟩ := bd_e h
  obtain ⟨hgw110, h⟩ := ck_e h
  refine kI (As := []) (rest := [.ref (ad109 p109)]) (s_B_init l z ad109 E109 M109 p109 E110 M110 g110) hx hb hml hown hts w_36 w_34 w_35 rfl w_1 md_22f6df ⟨Nat.le_of_ble_eq_true rfl, Nat.le_of_ble_eq_true rfl⟩ hG hZ hP hD hS hA rfl hl.1 rfl (Nat.le_of_ble_eq_true rfl) d_law_56 ⟨(show _ ≤ 600130 by omega), (show _ ≤ 7301080 by omega)⟩ (fun u110 H locs hP hD hS => ?_)
  obtain ⟨ad110, had110⟩ : ∃ q, q = adj E109 ad109 u110 := ⟨_, rfl⟩
  have hP : va_P z.1 classes (wv z ad110 E110 M110) H := by rw [had110]; exact hP
  have hD : va_D A (wv z ad110 E110 M110) := by rw [had110]; exact hD
  have hag110 : ∀ i, i < nE E109 → ad110 i = ad109 i := fun i hi => by rw [had110]; exact adj_lt hi
  have hl : lv_has ls 6 [(1, .ref (ad110 p100))] := by rw [hag110 p100 h_p100.1]; exact hl
  refine W.eq (g2 := F0 m 59 ls [.ref (ad110 p109)]) (by rw [hag110 p109 h_p109.1] <;> rfl) ?_
  have hag0 : ∀ i, i < nE E0 → ad110 i = ad0 i := fun i hi => (hag110 i (Nat.lt_of_lt_of_le hi hE0)).trans (hag0 i hi)
  have hE0 : nE E0 ≤ nE E110 := Nat.le_trans hE0 hgw110.1
  have h_p100 : isIA E110 p100 := isA_up hgw110 h_p100
  have h_p109 : isO 11 E110 p109 := isO_up hgw110 h_p109
  obtain ⟨⟨hL, ep1⟩, h⟩ := ck_e h
  refine W.eq (g2 := F0 m 59 ls [.ref (ad110 1)]) (by rw [ep1] <;> rfl) ?_
  refine lv_astore_n (lv' := [(2, .ref (ad110 1)), (1, .ref (ad110 p100))]) hx hb d_law_59 rfl hl (by decide) rfl (fun ls hl => ?_)
  obtain ⟨p111, ep111, h⟩ := nb_e h
  obtain ⟨E111, eE111, h⟩ := nb_e h
  obtain ⟨M111, eM111, h⟩ := nb_e h
  refine m_newO (ci := 12) (C := "BallothallLaw$Box") (T := TX12) (n := 4) hx hb hts iX12 tyX12_ok hown w_767 w_768 w_12 rfl (fun _ => fsX12) hG hP hD hS hA (show _ ≤ 600130 by omega) (show _ ≤ 7301080 by omega) d_law_60 (fun ad111 H hag111 hP hD hS => ?_)
  have hP : va_P z.1 classes (wv z ad111 E111 M111) H := by rw [eE111, eM111]; exact hP
  have hD : va_D A (wv z ad111 E111 M111) := by rw [eE111, eM111]; exact hD
  refine W.eq (g2 := F0 m 63 ls (.ref (ad111 p111) :: [])) (by rw [ep111] <;> rfl) ?_
  have hl : lv_has ls 6 [(2, .ref (ad111 1)), (1, .ref (ad111 p100))] := by rw [hag111 1 (yi_1 hL), hag111 p100 h_p100.1]; exact hl
  have hgw111 : Gw E110 E111 := by rw [eE111]; exact gw_new _ _
  have hL111 : Lay E111 := by rw [eE111]; exact lay_new hL
  have hag0 : ∀ i, i < nE E0 → ad111 i = ad0 i := fun i hi => (hag111 i (Nat.lt_of_lt_of_le hi hE0)).trans (hag0 i hi)
  have hE0 : nE E0 ≤ nE E111 := Nat.le_trans hE0 hgw111.1
  have hL : Lay E111 := hL111
  have h_p100 : isIA E111 p100 := isA_up hgw111 h_p100
  have h_p111 : isO 12 E111 p111 := by rw [ep111, eE111]; exact ⟨new_i _ _, new_T _ _⟩
  refine lv_dup hx hb d_law_63 rfl ?_
  refine lv_iconst (v := oI 2) hx hb d_law_64 (by decide +kernel) ?_
  refine lv_aload_n hx hb d_law_65 rfl (lv_at hl 1 rfl) ?_
  refine lv_iconst (v := oI 4) hx hb d_law_66 (by decide +kernel) ?_
  obtain ⟨⟨r112, M112⟩, g112, h⟩ := bd_e h
  refine kS (As := [.ref (ad111 p100), .int (oI 4)]) (rest := [.int (oI 2), .ref (ad111 p111), .ref (ad111 p111)]) (s_La_next l z ad111 E111 M111 p100 4 r112 M112 hL g112) hx hb hml hown hts w_797 w_795 w_796 w_0 md_199d8f ⟨Nat.le_of_ble_eq_true rfl, Nat.le_of_ble_eq_true rfl⟩ hG hZ hP hD hS hA rfl hl.1 rfl (Nat.le_of_ble_eq_true rfl) d_law_67 ⟨(show _ ≤ 600130 by omega), (show _ ≤ 7301080 by omega)⟩ (fun _ H locs hP hD hS => ?_)
  have hP : va_P z.1 classes (wv z ad111 E111 M112) H := hP
  have hD : va_D A (wv z ad111 E111 M112) := hD
  refine W.eq (g2 := F0 m 70 ls [.int (oI r112), .int (oI 2), .ref (ad111 p111), .ref (ad111 p111)]) rfl ?_
  refine lv_iadd hx hb d_law_70 ?_
  refine nrm (oI_add _ _) ?_
  obtain ⟨⟨E113, M113⟩, g113, h⟩ := bd_e h
  obtain ⟨hgw113, h⟩ := ck_e h
  refine kI (As := [.int (oI (2 + r112))]) (rest := [.ref (ad111 p111)]) (s_Lb_init l z ad111 E111 M112 p111 (2 + r112) E113 M113 g113) hx hb hml hown hts w_771 w_769 w_770 rfl w_12 md_1e44e2 ⟨Nat.le_of_ble_eq_true rfl, Nat.le_of_ble_eq_true rfl⟩ hG hZ hP hD hS hA rfl hl.1 rfl (Nat.le_of_ble_eq_true rfl) d_law_71 ⟨(show _ ≤ 600130 by omega), (show _ ≤ 7301080 by omega)⟩ (fun u113 H locs hP hD hS => ?_)
  obtain ⟨ad113, had113⟩ : ∃ q, q = adj E111 ad111 u113 := ⟨_, rfl⟩
  have hP : va_P z.1 classes (wv z ad113 E113 M113) H := by rw [had113]; exact hP
  have hD : va_D A (wv z ad113 E113 M113) := by rw [had113]; exact hD
  have hag113 : ∀ i, i < nE E111 → ad113 i = ad111 i := fun i hi => by rw [had113]; exact adj_lt hi
  have hl : lv_has ls 6 [(2, .ref (ad113 1)), (1, .ref (ad113 p100))] := by rw [hag113 1 (yi_1 hL), hag113 p100 h_p100.1]; exact hl
  refine W.eq (g2 := F0 m 74 ls [.ref (ad113 p111)]) (by rw [hag113 p111 h_p111.1] <;> rfl) ?_
  have hag0 : ∀ i, i < nE E0 → ad113 i = ad0 i := fun i hi => (hag113 i (Nat.lt_of_lt_of_le hi hE0)).trans (hag0 i hi)
  have hE0 : nE E0 ≤ nE E113 := Nat.le_trans hE0 hgw113.1
  obtain ⟨hL, h⟩ := ck_e h
  have h_p100 : isIA E113 p100 := isA_up hgw113 h_p100
  have h_p111 : isO 12 E113 p111 := isO_up hgw113 h_p111
  refine lv_astore_n (lv' := [(3, .ref (ad113 p111)), (2, .ref (ad113 1)), (1, .ref (ad113 p100))]) hx hb d_law_74 rfl hl (by decide) rfl (fun ls hl => ?_)
  refine lv_iconst (v := oI 0) hx hb d_law_75 (by decide +kernel) ?_
  refine lv_istore (lv' := [(4, .int (oI 0)), (3, .ref (ad113 p111)), (2, .ref (ad113 1)), (1, .ref (ad113 p100))]) hx hb d_law_76 hl (by decide) rfl (fun ls hl => ?_)
  obtain ⟨⟨t117, v117_4, E117, M117⟩, g117, h⟩ := bd_e h
  obtain ⟨hgw117, h⟩ := ck_e h
  obtain ⟨hL117, h⟩ := ck_e h
  obtain ⟨ok117, h⟩ := ck_e h
  refine s_La_law_78 l z E113 ad113 p100 p111 hx hb hml hts hown hlocks hA hG hZ hX hbl hbA hAb mc ms (c0 + 354) (s0 + 10068) (by omega) (by omega) 5000 _ _ ad113 E113 M113 0 t117 v117_4 E117 M117 (by omega) (by omega) (fun _ _ => rfl) (Nat.le_refl _) g117 (fun ad117 hag117 hEE117 e117 H locs ls hP hD hS hl => ?_) H locs ls hP hD hS (lv_sub hl [3, 2, 1, 0] rfl)
  have hag0 : ∀ i, i < nE E0 → ad117 i = ad0 i := fun i hi => (hag117 i (Nat.lt_of_lt_of_le hi hE0)).trans (hag0 i hi)
  have hE0 : nE E0 ≤ nE E117 := Nat.le_trans hE0 hgw117.1
  have hL : Lay E117 := hL117
  have h_p100 : isIA E117 p100 := isA_up hgw117 h_p100
  have h_p111 : isO 12 E117 p111 := isO_up hgw117 h_p111
  refine lv_iconst (v := oI 1) hx hb d_law_99 (by decide +kernel) ?_
  refine lv_istore (lv' := [(4, .int (oI 1)), (1, .ref (ad117 p100)), (2, .ref (ad117 1)), (3, .ref (ad117 p111))]) hx hb d_law_100 hl (by decide) rfl (fun ls hl => ?_)
  refine lv_iconst (v := oI 2) hx hb d_law_102 (by decide +kernel) ?_
  refine lv_aload_n hx hb d_law_103 rfl (lv_at hl 1 rfl) ?_
  refine lv_bipush (v := oI 8) hx hb d_law_104 (by decide +kernel) ?_
  obtain ⟨⟨r118, M118⟩, g118, h⟩ := bd_e h
  refine kS (As := [.ref (ad117 p100), .int (oI 8)]) (rest := [.int (oI 2)]) (s_La_next l z ad117 E117 M117 p100 8 r118 M118 hL g118) hx hb hml hown hts w_797 w_795 w_796 w_0 md_199d8f ⟨Nat.le_of_ble_eq_true rfl, Nat.le_of_ble_eq_true rfl⟩ hG hZ hP hD hS hA rfl hl.1 rfl (Nat.le_of_ble_eq_true rfl) d_law_106 ⟨(show _ ≤ 600130 by omega), (show _ ≤ 7301080 by omega)⟩ (fun _ H locs hP hD hS => ?_)
  have hP : va_P z.1 classes (wv z ad117 E117 M118) H := hP
  have hD : va_D A (wv z ad117 E117 M118) := hD
  refine W.eq (g2 := F0 m 109 ls [.int (oI r118), .int (oI 2)]) rfl ?_
  refine lv_iadd hx hb d_law_109 ?_
  refine nrm (oI_add _ _) ?_
  refine lv_istore (lv' := [(5, .int (oI (2 + r118))), (4, .int (oI 1)), (1, .ref (ad117 p100)), (2, .ref (ad117 1)), (3, .ref (ad117 p111))]) hx hb d_law_110 hl (by decide) rfl (fun ls hl => ?_)
  obtain ⟨⟨t122, v122_4, v122_5, E122, M122⟩, g122, h⟩ := bd_e h
  obtain ⟨hgw122, h⟩ := ck_e h
  obtain ⟨hL122, h⟩ := ck_e h
  obtain ⟨ok122, h⟩ := ck_e h
  refine s_La_law_112 l z E117 ad117 p100 p111 hx hb hml hts hown hlocks hA hG hZ hX hbl hbA hAb mc ms (c0 + 546) (s0 + 18516) (by omega) (by omega) 32 _ _ ad117 E117 M118 1 (2 + r118) t122 v122_4 v122_5 E122 M122 (by omega) (by omega) (fun _ _ => rfl) (Nat.le_refl _) g122 (fun ad122 hag122 hEE122 e122 H locs ls hP hD hS hl => ?_) H locs ls hP hD hS (lv_sub hl [2, 3, 4, 1, 0] rfl)
  have hag0 : ∀ i, i < nE E0 → ad122 i = ad0 i := fun i hi => (hag122 i (Nat.lt_of_lt_of_le hi hE0)).trans (hag0 i hi)
  have hE0 : nE E0 ≤ nE E122 := Nat.le_trans hE0 hgw122.1
  have hL : Lay E122 := hL122
  have h_p100 : isIA E122 p100 := isA_up hgw122 h_p100
  have h_p111 : isO 12 E122 p111 := isO_up hgw122 h_p111
  exact b_La_law_j136 l z E122 ad122 ad122 E122 M122 p100 p111 v122_4 r hr1 hx hb hml hts hown hlocks hA hG hZ hX hbl hbA hAb hr mc ms _ _ c1 s1 (by omega) (by omega) hm hm2 (fun _ _ => rfl) (Nat.le_refl _) h H locs ls hP hD hS (lv_sub hl [0, 1, 2, 3] rfl)
