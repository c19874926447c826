set_option maxRecDepth 100000 in
set_option maxHeartbeats 4000000 in
theorem b_La_council_30b (l : Launch) (z : Zz) (E0 : Ev) (ad0 : Nat → Nat) (ad : Nat → Nat) (E : Ev) (M : Mm) (x2 : Int) (q4 : Nat) (x3 : Int) (x5 : Int) (x7 : Int) (t : Nat) (w3 : Int) (w5 : Int) (w7 : Int) (F : Ev) (N : Mm) {Q : State → Prop} {p : Program} {e : Env} {s : State} {m : MethodId} {below : List Frame} {meth : Method} {c : Code} {A : Nat → Prop} {args : Array Value} (hx : p.tables.exec = Jvm.exec) (hb : c.code = method_13_code) (hml : c.maxLocals = 17) (hts : ∀ w ∈ WG, w.before args s = true) (hown : s.vm.findClass "BallothallLaw" = some m.cls) (hlocks : meth.locks = false) (hA : ∀ q, s.heap.size ≤ q → A q) (hG : KG z s) (hZ : FZ z A s) (mc ms c0 s0 c1 s1 : Nat) (hc : c0 + 0 ≤ c1) (hs : s0 + 0 ≤ s1) (hm : c1 ≤ mc) (hm2 : s1 ≤ ms) (hag0 : ∀ i, i < nE E0 → ad i = ad0 i) (hE0 : nE E0 ≤ nE E) (h : La_council_30b E M x2 q4 x3 x5 x7 = some (t, w3, w5, w7, F, N)) (k0 : ∀ (ad1 : Nat → Nat), (∀ i, i < nE E0 → ad1 i = ad0 i) → nE E0 ≤ nE F → t = 0 → ∀ (H : Heap) (locs : List Loc) (ls : Array Slot), va_P z.1 classes (wv z ad1 F N) H → va_D A (wv z ad1 F N) → va_S A s.heap H locs → lv_has ls 17 [(0, .ref (ad1 1)), (1, .ref (ad1 1)), (2, .int (oI x2)), (3, .int (oI w3)), (4, .ref (ad1 q4)), (5, .long (oJ w5)), (7, .int (oI w7))] → W p l e (rmK 4 109 mc ms) s m args below meth c H locs c1 s1 Q (F0 m 30 ls [])) (k1 : ∀ (ad1 : Nat → Nat), (∀ i, i < nE E0 → ad1 i = ad0 i) → nE E0 ≤ nE F → t = 1 → ∀ (H : Heap) (locs : List Loc) (ls : Array Slot), va_P z.1 classes (wv z ad1 F N) H → va_D A (wv z ad1 F N) → va_S A s.heap H locs → lv_has ls 17 [(0, .ref (ad1 1)), (1, .ref (ad1 1)), (2, .int (oI x2)), (3, .int (oI w3)), (4, .ref (ad1 q4)), (5, .long (oJ w5))] → W p l e (rmK 4 109 mc ms) s m args below meth c H locs c1 s1 Q (F0 m 82 ls [])) : ∀ (H : Heap) (locs : List Loc) (ls : Array Slot), va_P z.1 classes (wv z ad E M) H → va_D A (wv z ad E M) → va_S A s.heap H locs → lv_has ls 17 [(0, .ref (ad 1)), (1, .ref (ad 1)), (2, .int (oI x2)), (3, .int (oI x3)), (4, .ref (ad q4)), (5, .long (oJ x5)), (7, .int (oI x7))] → W p l e (rmK 4 109 mc ms) s m args below meth c H locs c0 s0 Q (F0 m 30 ls []) := by
  intro H locs ls hP hD hS hl
  unfold La_council_30b at h
  obtain ⟨hL, h⟩ := ck_e h
  obtain ⟨h_q4, h⟩ := ck_e h
  refine lv_iload hx hb d_L13_30 (lv_at hl 6 rfl) ?_
  refine lv_iload_n hx hb d_L13_32 rfl (lv_at hl 2 rfl) ?_
  obtain ⟨ok5, h⟩ := ck_e h
  obtain ⟨ok6, h⟩ := ck_e h
  refine lv_icmp_ge (tgt := 82) hx hb d_L13_33 (by decide) (fun c9 => ?_) (fun c9 => ?_)
  · have h := ite_t ((oI_le (a := x2) (b := x7) ok6 ok5).mp c9) h
    obtain ⟨rfl, rfl, rfl, rfl, rfl, rfl⟩ := in6 h
    exact W.wide (by omega) (by omega) (k1 ad hag0 hE0 rfl H locs ls hP hD hS (lv_sub hl [0, 1, 2, 3, 4, 5] rfl))
  · have h := ite_f (fun q => c9 ((oI_le (a := x2) (b := x7) ok6 ok5).mpr q)) h
    refine lv_aload hx hb d_L13_36 (lv_at hl 4 rfl) ?_
    refine lv_iload hx hb d_L13_38 (lv_at hl 6 rfl) ?_
    refine lv_aload_n hx hb d_L13_40 rfl (lv_at hl 0 rfl) ?_
    refine lv_bipush (v := oI 12) hx hb d_L13_41 (by decide +kernel) ?_
    obtain ⟨⟨r7, M7⟩, g7, h⟩ := bd_e h
    refine kS (As := [.ref (ad 1), .int (oI 12)]) (rest := [.int (oI x7), .ref (ad q4)]) (s_La_next l z ad E M 1 12 r7 M7 hL g7) hx hb hml hown hts w_797 w_795 w_796 w_0 md_199d8f ⟨Nat.le_of_ble_eq_true rfl, Nat.le_of_ble_eq_true rfl⟩ hG hZ hP hD hS hA rfl hl.1 rfl (Nat.le_of_ble_eq_true rfl) d_L13_43 ⟨(show _ ≤ mc by omega), (show _ ≤ ms by omega)⟩ (fun _ H locs hP hD hS => ?_)
    have hP : va_P z.1 classes (wv z ad E M7) H := hP
    have hD : va_D A (wv z ad E M7) := hD
    refine W.eq (g2 := F0 m 46 ls [.int (oI r7), .int (oI x7), .ref (ad q4)]) rfl ?_
    obtain ⟨ok8, h⟩ := ck_e h
    refine m_is hx hb hG hP hD hS h_q4.1 (isIA_T h_q4) ok8 d_L13_46 (fun H locs hP hD hS => ?_)
    have hP : va_P z.1 classes (wv z ad E (u2 M7 q4 x7.toNat r7)) H := hP
    have hD : va_D A (wv z ad E (u2 M7 q4 x7.toNat r7)) := hD
    refine lv_iload_n hx hb d_L13_47 rfl (lv_at hl 3 rfl) ?_
    refine lv_aload hx hb d_L13_48 (lv_at hl 4 rfl) ?_
    refine lv_iload hx hb d_L13_50 (lv_at hl 6 rfl) ?_
    refine m_ia hx hb hG hP h_q4.1 (isIA_T h_q4) ok8 d_L13_52 ?_
    refine lv_iadd hx hb d_L13_53 ?_
    refine nrm (oI_add _ _) ?_
    obtain ⟨v9, e9, h⟩ := nb_e h
    refine nrm (congrArg oI e9.symm) ?_
    refine lv_istore_n (lv' := [(3, .int (oI v9)), (0, .ref (ad 1)), (1, .ref (ad 1)), (2, .int (oI x2)), (4, .ref (ad q4)), (5, .long (oJ x5)), (7, .int (oI x7))]) hx hb d_L13_54 rfl hl (by decide) rfl (fun ls hl => ?_)
    refine lv_aload_n hx hb d_L13_55 rfl (lv_at hl 2 rfl) ?_
    refine lv_aload hx hb d_L13_56 (lv_at hl 4 rfl) ?_
    refine lv_iload hx hb d_L13_58 (lv_at hl 6 rfl) ?_
    refine m_ia hx hb hG hP h_q4.1 (isIA_T h_q4) ok8 d_L13_60 ?_
    obtain ⟨⟨r10, M10⟩, g10, h⟩ := bd_e h
    refine kV (As := [.int (oI ((u2 M7 q4 x7.toNat r7) q4 x7.toNat))]) (rest := []) (s_B_member l z ad E (u2 M7 q4 x7.toNat r7) ((u2 M7 q4 x7.toNat r7) q4 x7.toNat) r10 M10 hL g10) hx hb hml hown hts w_1659 w_1656 w_1657 w_1658 w_1 md_caa1ec ⟨Nat.le_of_ble_eq_true rfl, Nat.le_of_ble_eq_true rfl⟩ hG hZ hP hD hS hA 1 (wv_o (ci := 11) (yi_1 hL) (yt_1 hL)) rfl rfl rfl hl.1 rfl (Nat.le_of_ble_eq_true rfl) d_L13_61 ⟨(show _ ≤ mc by omega), (show _ ≤ ms by omega)⟩ (fun _ H locs hP hD hS => ?_)
    have hP : va_P z.1 classes (wv z ad E M10) H := hP
    have hD : va_D A (wv z ad E M10) := hD
    refine W.eq (g2 := F0 m 64 ls [.int (oI r10)]) rfl ?_
    refine lv_istore (lv' := [(8, .int (oI r10)), (3, .int (oI v9)), (0, .ref (ad 1)), (1, .ref (ad 1)), (2, .int (oI x2)), (4, .ref (ad q4)), (5, .long (oJ x5)), (7, .int (oI x7))]) hx hb d_L13_64 hl (by decide) rfl (fun ls hl => ?_)
    refine lv_lload hx hb d_L13_66 (lv_at hl 6 rfl) ?_
    refine lv_iload hx hb d_L13_68 (lv_at hl 7 rfl) ?_
    refine lv_iconst (v := oI 1) hx hb d_L13_70 (by decide +kernel) ?_
    refine lv_iadd hx hb d_L13_71 ?_
    refine nrm (oI_add _ _) ?_
    obtain ⟨ok11, h⟩ := ck_e h
    refine lv_i2l (v := oJ (x7 + 1)) hx hb d_L13_72 (oI_l ok11) ?_
    refine lv_lmul hx hb d_L13_73 ?_
    refine nrmL (oJ_mul _ _) ?_
    refine lv_lstore (lv' := [(5, .long (oJ (x5 * (x7 + 1)))), (8, .int (oI r10)), (3, .int (oI v9)), (0, .ref (ad 1)), (1, .ref (ad 1)), (2, .int (oI x2)), (4, .ref (ad q4)), (7, .int (oI x7))]) hx hb d_L13_74 hl (by decide) rfl (fun ls hl => ?_)
    refine lv_iinc (v := oI (x7 + 1)) (lv' := [(7, .int (oI (x7 + 1))), (5, .long (oJ (x5 * (x7 + 1)))), (8, .int (oI r10)), (3, .int (oI v9)), (0, .ref (ad 1)), (1, .ref (ad 1)), (2, .int (oI x2)), (4, .ref (ad q4))]) hx hb d_L13_76 hl (k := 7) rfl (oI_add x7 1) (by decide) rfl (fun ls hl => ?_)
    refine lv_goto (tgt := 30) hx hb d_L13_79 (by decide) ?_
    obtain ⟨rfl, rfl, rfl, rfl, rfl, rfl⟩ := in6 h
    exact W.wide (by omega) (by omega) (k0 ad hag0 hE0 rfl H locs ls hP hD hS (lv_sub hl [4, 5, 6, 3, 7, 1, 0] rfl))
set_option maxRecDepth 100000 in
set_option maxHeartbeats 4000000 in
theorem s_La_council_30 (l : Launch) (z : Zz) (E0 : Ev) (ad0 : Nat → Nat) (x2 : Int) (q4 : Nat) {Q : State → Prop} {p : Program} {e : Env} {s : State} {m : MethodId} {below : List Frame} {meth : Method} {c : Code} {A : Nat → Prop} {args : Array Value} (hx : p.tables.exec = Jvm.exec) (hb : c.code = method_13_code) (hml : c.maxLocals = 17) (hts : ∀ w ∈ WG, w.before args s = true) (hown : s.vm.findClass "BallothallLaw" = some m.cls) (hlocks : meth.locks = false) (hA : ∀ q, s.heap.size ≤ q → A q) (hG : KG z s) (hZ : FZ z A s) (mc ms c1 s1 : Nat) (hm : c1 ≤ mc) (hm2 : s1 ≤ ms) : ∀ (fu c0 s0 : Nat) (ad : Nat → Nat) (E : Ev) (M : Mm) (x3 : Int) (x5 : Int) (x7 : Int) (t : Nat) (w3 : Int) (w5 : Int) (w7 : Int) (F : Ev) (N : Mm), c0 + fu * 0 ≤ c1 → s0 + fu * 0 ≤ s1 → (∀ i, i < nE E0 → ad i = ad0 i) → nE E0 ≤ nE E → l_La_council_30 x2 q4 fu E M x3 x5 x7 = some (t, w3, w5, w7, F, N) → (∀ (ad1 : Nat → Nat), (∀ i, i < nE E0 → ad1 i = ad0 i) → nE E0 ≤ nE F → t = 1 → ∀ (H : Heap) (locs : List Loc) (ls : Array Slot), va_P z.1 classes (wv z ad1 F N) H → va_D A (wv z ad1 F N) → va_S A s.heap H locs → lv_has ls 17 [(0, .ref (ad1 1)), (1, .ref (ad1 1)), (2, .int (oI x2)), (3, .int (oI w3)), (4, .ref (ad1 q4)), (5, .long (oJ w5))] → W p l e (rmK 4 109 mc ms) s m args below meth c H locs c1 s1 Q (F0 m 82 ls [])) → ∀ (H : Heap) (locs : List Loc) (ls : Array Slot), va_P z.1 classes (wv z ad E M) H → va_D A (wv z ad E M) → va_S A s.heap H locs → lv_has ls 17 [(0, .ref (ad 1)), (1, .ref (ad 1)), (2, .int (oI x2)), (3, .int (oI x3)), (4, .ref (ad q4)), (5, .long (oJ x5)), (7, .int (oI x7))] → W p l e (rmK 4 109 mc ms) s m args below meth c H locs c0 s0 Q (F0 m 30 ls []) := by
  intro fu
  induction fu with
  | zero =>
    intro c0 s0 ad E M x3 x5 x7 t w3 w5 w7 F N hc hs hag0 hE0 h
    have h : (none : Option (Nat × Int × Int × Int × Ev × Mm)) = some _ := h
    cases h
  | succ fu ih =>
    intro c0 s0 ad E M x3 x5 x7 t w3 w5 w7 F N hc hs hag0 hE0 h k1 H locs ls hP hD hS hl
    obtain ⟨⟨t0, w30, w50, w70, F9, N9⟩, g0, h⟩ := bd_e h
    refine W.wide (Nat.le_refl _) (Nat.le_refl _) (b_La_council_30b l z E0 ad0 ad E M x2 q4 x3 x5 x7 t0 w30 w50 w70 F9 N9 hx hb hml hts hown hlocks hA hG hZ mc ms c0 s0 (c0 + 0) (s0 + 0) (Nat.le_refl _) (Nat.le_refl _) (by omega) (by omega) hag0 hE0 g0 (fun ad1 ha he e0 => ?_) (fun ad1 ha he e0 => ?_) H locs ls hP hD hS hl)
    · subst e0
      have h := ite_t rfl h
      exact ih (c0 + 0) (s0 + 0) ad1 F9 N9 w30 w50 w70 t w3 w5 w7 F N (by omega) (by omega) ha he h k1
    · subst e0
      have h := ite_f (by decide) h
      obtain ⟨rfl, rfl, rfl, rfl, rfl, rfl⟩ := in6 h
      exact fun H locs ls hP hD hS hl => W.wide (by omega) (by omega) (k1 ad1 ha he rfl H locs ls hP hD hS hl)
set_option maxRecDepth 100000 in
set_option maxHeartbeats 4000000 in
theorem b_La_council_136b (l : Launch) (z : Zz) (E0 : Ev) (ad0 : Nat → Nat) (ad : Nat → Nat) (E : Ev) (M : Mm) (x2 : Int) (x3 : Int) (q4 : Nat) (x5 : Int) (x7 : Int) (x9 : Int) (x11 : Int) (x12 : Int) (x13 : Int) (x14 : Int) (x15 : Int) (x16 : Int) (t : Nat) (w15 : Int) (w16 : Int) (F : Ev) (N : Mm) {Q : State → Prop} {p : Program} {e : Env} {s : State} {m : MethodId} {below : List Frame} {meth : Method} {c : Code} {A : Nat → Prop} {args : Array Value} (hx : p.tables.exec = Jvm.exec) (hb : c.code = method_13_code) (hml : c.maxLocals = 17) (hts : ∀ w ∈ WG, w.before args s = true) (hown : s.vm.findClass "BallothallLaw" = some m.cls) (hlocks : meth.locks = false) (hA : ∀ q, s.heap.size ≤ q → A q) (hG : KG z s) (hZ : FZ z A s) (mc ms c0 s0 c1 s1 : Nat) (hc : c0 + 0 ≤ c1) (hs : s0 + 0 ≤ s1) (hm : c1 ≤ mc) (hm2 : s1 ≤ ms) (hag0 : ∀ i, i < nE E0 → ad i = ad0 i) (hE0 : nE E0 ≤ nE E) (h : La_council_136b E M x2 x3 q4 x5 x7 x9 x11 x12 x13 x14 x15 x16 = some (t, w15, w16, F, N)) (k0 : ∀ (ad1 : Nat → Nat), (∀ i, i < nE E0 → ad1 i = ad0 i) → nE E0 ≤ nE F → t = 0 → ∀ (H : Heap) (locs : List Loc) (ls : Array Slot), va_P z.1 classes (wv z ad1 F N) H → va_D A (wv z ad1 F N) → va_S A s.heap H locs → lv_has ls 17 [(1, .ref (ad1 1)), (2, .int (oI x2)), (3, .int (oI x3)), (4, .ref (ad1 q4)), (5, .long (oJ x5)), (7, .int (oI x7)), (9, .long (oJ x9)), (11, .int (oI x11)), (12, .int (oI x12)), (13, .int (oI x13)), (14, .int (oI x14)), (15, .int (oI w15)), (16, .int (oI w16))] → W p l e (rmK 4 109 mc ms) s m args below meth c H locs c1 s1 Q (F0 m 136 ls [])) (k1 : ∀ (ad1 : Nat → Nat), (∀ i, i < nE E0 → ad1 i = ad0 i) → nE E0 ≤ nE F → t = 1 → ∀ (H : Heap) (locs : List Loc) (ls : Array Slot), va_P z.1 classes (wv z ad1 F N) H → va_D A (wv z ad1 F N) → va_S A s.heap H locs → lv_has ls 17 [(1, .ref (ad1 1)), (2, .int (oI x2)), (3, .int (oI x3)), (4, .ref (ad1 q4)), (5, .long (oJ x5)), (7, .int (oI x7)), (9, .long (oJ x9)), (11, .int (oI x11)), (12, .int (oI x12)), (13, .int (oI x13)), (14, .int (oI x14)), (15, .int (oI w15))] → W p l e (rmK 4 109 mc ms) s m args below meth c H locs c1 s1 Q (F0 m 166 ls [])) : ∀ (H : Heap) (locs : List Loc) (ls : Array Slot), va_P z.1 classes (wv z ad E M) H → va_D A (wv z ad E M) → va_S A s.heap H locs → lv_has ls 17 [(1, .ref (ad 1)), (2, .int (oI x2)), (3, .int (oI x3)), (4, .ref (ad q4)), (5, .long (oJ x5)), (7, .int (oI x7)), (9, .long (oJ x9)), (11, .int (oI x11)), (12, .int (oI x12)), (13, .int (oI x13)), (14, .int (oI x14)), (15, .int (oI x15)), (16, .int (oI x16))] → W p l e (rmK 4 109 mc ms) s m args below meth c H locs c0 s0 Q (F0 m 136 ls []) := by
  intro H locs ls hP hD hS hl
  unfold La_council_136b at h
  obtain ⟨hL, h⟩ := ck_e h
  obtain ⟨h_q4, h⟩ := ck_e h
  refine lv_iload hx hb d_L13_136 (lv_at hl 12 rfl) ?_
  refine lv_iload_n hx hb d_L13_138 rfl (lv_at hl 1 rfl) ?_
  obtain ⟨ok20, h⟩ := ck_e h
  obtain ⟨ok21, h⟩ := ck_e h
  refine lv_icmp_ge (tgt := 166) hx hb d_L13_139 (by decide) (fun c9 => ?_) (fun c9 => ?_)
  · have h := ite_t ((oI_le (a := x2) (b := x16) ok21 ok20).mp c9) h
    obtain ⟨rfl, rfl, rfl, rfl, rfl⟩ := in5 h
    exact W.wide (by omega) (by omega) (k1 ad hag0 hE0 rfl H locs ls hP hD hS (lv_sub hl [0, 1, 2, 3, 4, 5, 6, 7, 8, 9, 10, 11] rfl))
  · have h := ite_f (fun q => c9 ((oI_le (a := x2) (b := x16) ok21 ok20).mpr q)) h
    refine lv_iload hx hb d_L13_142 (lv_at hl 11 rfl) ?_
    refine lv_iload hx hb d_L13_144 (lv_at hl 10 rfl) ?_
    refine lv_iload hx hb d_L13_146 (lv_at hl 12 rfl) ?_
    obtain ⟨ok22, h⟩ := ck_e h
    obtain ⟨ok23, h⟩ := ck_e h
    refine lv_ishr hx hb d_L13_148 ?_
    refine nrm (oI_shr (a := x14) ok22 ok23.1 ok23.2) ?_
    refine lv_iconst (v := oI 1) hx hb d_L13_149 (by decide +kernel) ?_
    refine lv_iand hx hb d_L13_150 ?_
    refine nrm (oI_m1 _) ?_
    refine lv_aload hx hb d_L13_151 (lv_at hl 3 rfl) ?_
    refine lv_iload hx hb d_L13_153 (lv_at hl 12 rfl) ?_
    obtain ⟨ok24, h⟩ := ck_e h
    refine m_ia hx hb hG hP h_q4.1 (isIA_T h_q4) ok24 d_L13_155 ?_
    refine lv_imul hx hb d_L13_156 ?_
    refine nrm (oI_mul _ _) ?_
    refine lv_iadd hx hb d_L13_157 ?_
    refine nrm (oI_add _ _) ?_
    obtain ⟨v25, e25, h⟩ := nb_e h
    refine nrm (congrArg oI e25.symm) ?_
    refine lv_istore (lv' := [(15, .int (oI v25)), (1, .ref (ad 1)), (2, .int (oI x2)), (3, .int (oI x3)), (4, .ref (ad q4)), (5, .long (oJ x5)), (7, .int (oI x7)), (9, .long (oJ x9)), (11, .int (oI x11)), (12, .int (oI x12)), (13, .int (oI x13)), (14, .int (oI x14)), (16, .int (oI x16))]) hx hb d_L13_158 hl (by decide) rfl (fun ls hl => ?_)
    refine lv_iinc (v := oI (x16 + 1)) (lv' := [(16, .int (oI (x16 + 1))), (15, .int (oI v25)), (1, .ref (ad 1)), (2, .int (oI x2)), (3, .int (oI x3)), (4, .ref (ad q4)), (5, .long (oJ x5)), (7, .int (oI x7)), (9, .long (oJ x9)), (11, .int (oI x11)), (12, .int (oI x12)), (13, .int (oI x13)), (14, .int (oI x14))]) hx hb d_L13_160 hl (k := 12) rfl (oI_add x16 1) (by decide) rfl (fun ls hl => ?_)
    refine lv_goto (tgt := 136) hx hb d_L13_163 (by decide) ?_
    obtain ⟨rfl, rfl, rfl, rfl, rfl⟩ := in5 h
    exact W.wide (by omega) (by omega) (k0 ad hag0 hE0 rfl H locs ls hP hD hS (lv_sub hl [2, 3, 4, 5, 6, 7, 8, 9, 10, 11, 12, 1, 0] rfl))
set_option maxRecDepth 100000 in
set_option maxHeartbeats 4000000 in
theorem s_La_council_136 (l : Launch) (z : Zz) (E0 : Ev) (ad0 : Nat → Nat) (x2 : Int) (x3 : Int) (q4 : Nat) (x5 : Int) (x7 : Int) (x9 : Int) (x11 : Int) (x12 : Int) (x13 : Int) (x14 : Int) {Q : State → Prop} {p : Program} {e : Env} {s : State} {m : MethodId} {below : List Frame} {meth : Method} {c : Code} {A : Nat → Prop} {args : Array Value} (hx : p.tables.exec = Jvm.exec) (hb : c.code = method_13_code) (hml : c.maxLocals = 17) (hts : ∀ w ∈ WG, w.before args s = true) (hown : s.vm.findClass "BallothallLaw" = some m.cls) (hlocks : meth.locks = false) (hA : ∀ q, s.heap.size ≤ q → A q) (hG : KG z s) (hZ : FZ z A s) (mc ms c1 s1 : Nat) (hm : c1 ≤ mc) (hm2 : s1 ≤ ms) : ∀ (fu c0 s0 : Nat) (ad : Nat → Nat) (E : Ev) (M : Mm) (x15 : Int) (x16 : Int) (t : Nat) (w15 : Int) (w16 : Int) (F : Ev) (N : Mm), c0 + fu * 0 ≤ c1 → s0 + fu * 0 ≤ s1 → (∀ i, i < nE E0 → ad i = ad0 i) → nE E0 ≤ nE E → l_La_council_136 x2 x3 q4 x5 x7 x9 x11 x12 x13 x14 fu E M x15 x16 = some (t, w15, w16, F, N) → (∀ (ad1 : Nat → Nat), (∀ i, i < nE E0 → ad1 i = ad0 i) → nE E0 ≤ nE F → t = 1 → ∀ (H : Heap) (locs : List Loc) (ls : Array Slot), va_P z.1 classes (wv z ad1 F N) H → va_D A (wv z ad1 F N) → va_S A s.heap H locs → lv_has ls 17 [(1, .ref (ad1 1)), (2, .int (oI x2)), (3, .int (oI x3)), (4, .ref (ad1 q4)), (5, .long (oJ x5)), (7, .int (oI x7)), (9, .long (oJ x9)), (11, .int (oI x11)), (12, .int (oI x12)), (13, .int (oI x13)), (14, .int (oI x14)), (15, .int (oI w15))] → W p l e (rmK 4 109 mc ms) s m args below meth c H locs c1 s1 Q (F0 m 166 ls [])) → ∀ (H : Heap) (locs : List Loc) (ls : Array Slot), va_P z.1 classes (wv z ad E M) H → va_D A (wv z ad E M) → va_S A s.heap H locs → lv_has ls 17 [(1, .ref (ad 1)), (2, .int (oI x2)), (3, .int (oI x3)), (4, .ref (ad q4)), (5, .long (oJ x5)), (7, .int (oI x7)), (9, .long (oJ x9)), (11, .int (oI x11)), (12, .int (oI x12)), (13, .int (oI x13)), (14, .int (oI x14)), (15, .int (oI x15)), (16, .int (oI x16))] → W p l e (rmK 4 109 mc ms) s m args below meth c H locs c0 s0 Q (F0 m 136 ls []) := by
  intro fu
  induction fu with
  | zero =>
    intro c0 s0 ad E M x15 x16 t w15 w16 F N hc hs hag0 hE0 h
    have h : (none : Option (Nat × Int × Int × Ev × Mm)) = some _ := h
    cases h
  | succ fu ih =>
    intro c0 s0 ad E M x15 x16 t w15 w16 F N hc hs hag0 hE0 h k1 H locs ls hP hD hS hl
    obtain ⟨⟨t0, w150, w160, F9, N9⟩, g0, h⟩ := bd_e h
    refine W.wide (Nat.le_refl _) (Nat.le_refl _) (b_La_council_136b l z E0 ad0 ad E M x2 x3 q4 x5 x7 x9 x11 x12 x13 x14 x15 x16 t0 w150 w160 F9 N9 hx hb hml hts hown hlocks hA hG hZ mc ms c0 s0 (c0 + 0) (s0 + 0) (Nat.le_refl _) (Nat.le_refl _) (by omega) (by omega) hag0 hE0 g0 (fun ad1 ha he e0 => ?_) (fun ad1 ha he e0 => ?_) H locs ls hP hD hS hl)
    · subst e0
      have h := ite_t rfl h
      exact ih (c0 + 0) (s0 + 0) ad1 F9 N9 w150 w160 t w15 w16 F N (by omega) (by omega) ha he h k1
    · subst e0
      have h := ite_f (by decide) h
      obtain ⟨rfl, rfl, rfl, rfl, rfl⟩ := in5 h
      exact fun H locs ls hP hD hS hl => W.wide (by omega) (by omega) (k1 ad1 ha he rfl H locs ls hP hD hS hl)
set_option maxRecDepth 100000 in
set_option maxHeartbeats 4000000 in
theorem b_La_council_122b (l : Launch) (z : Zz) (E0 : Ev) (ad0 : Nat → Nat) (ad : Nat → Nat) (E : Ev) (M : Mm) (x2 : Int) (x3 : Int) (q4 : Nat) (x5 : Int) (x7 : Int) (x9 : Int) (x11 : Int) (x12 : Int) (x13 : Int) (x14 : Int) (t : Nat) (w13 : Int) (w14 : Int) (F : Ev) (N : Mm) {Q : State → Prop} {p : Program} {e : Env} {s : State} {m : MethodId} {below : List Frame} {meth : Method} {c : Code} {A : Nat → Prop} {args : Array Value} (hx : p.tables.exec = Jvm.exec) (hb : c.code = method_13_code) (hml : c.maxLocals = 17) (hts : ∀ w ∈ WG, w.before args s = true) (hown : s.vm.findClass "BallothallLaw" = some m.cls) (hlocks : meth.locks = false) (hA : ∀ q, s.heap.size ≤ q → A q) (hG : KG z s) (hZ : FZ z A s) (mc ms c0 s0 c1 s1 : Nat) (hc : c0 + 0 ≤ c1) (hs : s0 + 0 ≤ s1) (hm : c1 ≤ mc) (hm2 : s1 ≤ ms) (hag0 : ∀ i, i < nE E0 → ad i = ad0 i) (hE0 : nE E0 ≤ nE E) (h : La_council_122b E M x2 x3 q4 x5 x7 x9 x11 x12 x13 x14 = some (t, w13, w14, F, N)) (k0 : ∀ (ad1 : Nat → Nat), (∀ i, i < nE E0 → ad1 i = ad0 i) → nE E0 ≤ nE F → t = 0 → ∀ (H : Heap) (locs : List Loc) (ls : Array Slot), va_P z.1 classes (wv z ad1 F N) H → va_D A (wv z ad1 F N) → va_S A s.heap H locs → lv_has ls 17 [(1, .ref (ad1 1)), (2, .int (oI x2)), (3, .int (oI x3)), (4, .ref (ad1 q4)), (5, .long (oJ x5)), (7, .int (oI x7)), (9, .long (oJ x9)), (11, .int (oI x11)), (12, .int (oI x12)), (13, .int (oI w13)), (14, .int (oI w14))] → W p l e (rmK 4 109 mc ms) s m args below meth c H locs c1 s1 Q (F0 m 122 ls [])) (k1 : ∀ (ad1 : Nat → Nat), (∀ i, i < nE E0 → ad1 i = ad0 i) → nE E0 ≤ nE F → t = 1 → ∀ (H : Heap) (locs : List Loc) (ls : Array Slot), va_P z.1 classes (wv z ad1 F N) H → va_D A (wv z ad1 F N) → va_S A s.heap H locs → lv_has ls 17 [(1, .ref (ad1 1)), (2, .int (oI x2)), (3, .int (oI x3)), (4, .ref (ad1 q4)), (5, .long (oJ x5)), (7, .int (oI x7)), (9, .long (oJ x9)), (11, .int (oI x11)), (12, .int (oI x12)), (13, .int (oI w13))] → W p l e (rmK 4 109 mc ms) s m args below meth c H locs c1 s1 Q (F0 m 212 ls [])) : ∀ (H : Heap) (locs : List Loc) (ls : Array Slot), va_P z.1 classes (wv z ad E M) H → va_D A (wv z ad E M) → va_S A s.heap H locs → lv_has ls 17 [(1, .ref (ad 1)), (2, .int (oI x2)), (3, .int (oI x3)), (4, .ref (ad q4)), (5, .long (oJ x5)), (7, .int (oI x7)), (9, .long (oJ x9)), (11, .int (oI x11)), (12, .int (oI x12)), (13, .int (oI x13)), (14, .int (oI x14))] → W p l e (rmK 4 109 mc ms) s m args below meth c H locs c0 s0 Q (F0 m 122 ls []) := by
  intro H locs ls hP hD hS hl
  unfold La_council_122b at h
  obtain ⟨hL, h⟩ := ck_e h
  obtain ⟨h_q4, h⟩ := ck_e h
  refine lv_iload hx hb d_L13_122 (lv_at hl 10 rfl) ?_
  refine lv_iconst (v := oI 1) hx hb d_L13_124 (by decide +kernel) ?_
  refine lv_iload_n hx hb d_L13_125 rfl (lv_at hl 1 rfl) ?_
  obtain ⟨ok17, h⟩ := ck_e h
  refine lv_ishl hx hb d_L13_126 ?_
  refine nrm (oI_one_shl ok17) ?_
  obtain ⟨ok18, h⟩ := ck_e h
  obtain ⟨ok19, h⟩ := ck_e h
  refine lv_icmp_ge (tgt := 212) hx hb d_L13_127 (by decide) (fun c9 => ?_) (fun c9 => ?_)
  · have h := ite_t ((oI_le (a := (2 ^ x2.toNat)) (b := x14) ok19 ok18).mp c9) h
    obtain ⟨rfl, rfl, rfl, rfl, rfl⟩ := in5 h
    exact W.wide (by omega) (by omega) (k1 ad hag0 hE0 rfl H locs ls hP hD hS (lv_sub hl [0, 1, 2, 3, 4, 5, 6, 7, 8, 9] rfl))
  · have h := ite_f (fun q => c9 ((oI_le (a := (2 ^ x2.toNat)) (b := x14) ok19 ok18).mpr q)) h
    refine lv_iconst (v := oI 0) hx hb d_L13_130 (by decide +kernel) ?_
    refine lv_istore (lv' := [(15, .int (oI 0)), (1, .ref (ad 1)), (2, .int (oI x2)), (3, .int (oI x3)), (4, .ref (ad q4)), (5, .long (oJ x5)), (7, .int (oI x7)), (9, .long (oJ x9)), (11, .int (oI x11)), (12, .int (oI x12)), (13, .int (oI x13)), (14, .int (oI x14))]) hx hb d_L13_131 hl (by decide) rfl (fun ls hl => ?_)
    refine lv_iconst (v := oI 0) hx hb d_L13_133 (by decide +kernel) ?_
    refine lv_istore (lv' := [(16, .int (oI 0)), (15, .int (oI 0)), (1, .ref (ad 1)), (2, .int (oI x2)), (3, .int (oI x3)), (4, .ref (ad q4)), (5, .long (oJ x5)), (7, .int (oI x7)), (9, .long (oJ x9)), (11, .int (oI x11)), (12, .int (oI x12)), (13, .int (oI x13)), (14, .int (oI x14))]) hx hb d_L13_134 hl (by decide) rfl (fun ls hl => ?_)
    obtain ⟨⟨t26, v26_15, v26_16, E26, M26⟩, g26, h⟩ := bd_e h
    obtain ⟨hgw26, h⟩ := ck_e h
    obtain ⟨hL26, h⟩ := ck_e h
    obtain ⟨ok26, h⟩ := ck_e h
    refine s_La_council_136 l z E ad x2 x3 q4 x5 x7 x9 x11 x12 x13 x14 hx hb hml hts hown hlocks hA hG hZ mc ms (c0 + 0) (s0 + 0) (by omega) (by omega) 5000 _ _ ad E M 0 0 t26 v26_15 v26_16 E26 M26 (by omega) (by omega) (fun _ _ => rfl) (Nat.le_refl _) g26 (fun ad26 hag26 hEE26 e26 H locs ls hP hD hS hl => ?_) H locs ls hP hD hS (lv_sub hl [2, 3, 4, 5, 6, 7, 8, 9, 10, 11, 12, 1, 0] rfl)
    have hag0 : ∀ i, i < nE E0 → ad26 i = ad0 i := fun i hi => (hag26 i (Nat.lt_of_lt_of_le hi hE0)).trans (hag0 i hi)
    have hE0 : nE E0 ≤ nE E26 := Nat.le_trans hE0 hgw26.1
    have hL : Lay E26 := hL26
    have h_q4 : isIA E26 q4 := isA_up hgw26 h_q4
    refine lv_iload hx hb d_L13_166 (lv_at hl 9 rfl) ?_
    refine lv_iload hx hb d_L13_168 (lv_at hl 10 rfl) ?_
    refine lv_iload hx hb d_L13_170 (lv_at hl 8 rfl) ?_
    obtain ⟨ok27, h⟩ := ck_e h
    refine lv_ishr hx hb d_L13_172 ?_
    refine nrm (oI_shr (a := x14) ok18 ok27.1 ok27.2) ?_
    refine lv_iconst (v := oI 1) hx hb d_L13_173 (by decide +kernel) ?_
    refine lv_iand hx hb d_L13_174 ?_
    refine nrm (oI_m1 _) ?_
    refine lv_if_ne (tgt := 202) hx hb d_L13_175 (by decide) (fun c9 => ?_) (fun c9 => ?_)
    · have h := ite_f (fun q => c9 ((oI_eq0 ⟨by omega, by omega⟩).mpr q)) h
      refine lv_iconst (v := oI 0) hx hb d_L13_202 (by decide +kernel) ?_
      refine lv_iadd hx hb d_L13_203 ?_
      refine nrm (oI_add _ _) ?_
      refine lv_istore (lv' := [(13, .int (oI (x13 + 0))), (1, .ref (ad26 1)), (2, .int (oI x2)), (3, .int (oI x3)), (4, .ref (ad26 q4)), (5, .long (oJ x5)), (7, .int (oI x7)), (9, .long (oJ x9)), (11, .int (oI x11)), (12, .int (oI x12)), (14, .int (oI x14)), (15, .int (oI v26_15))]) hx hb d_L13_204 hl (by decide) rfl (fun ls hl => ?_)
      refine lv_iinc (v := oI (x14 + 1)) (lv' := [(14, .int (oI (x14 + 1))), (13, .int (oI (x13 + 0))), (1, .ref (ad26 1)), (2, .int (oI x2)), (3, .int (oI x3)), (4, .ref (ad26 q4)), (5, .long (oJ x5)), (7, .int (oI x7)), (9, .long (oJ x9)), (11, .int (oI x11)), (12, .int (oI x12)), (15, .int (oI v26_15))]) hx hb d_L13_206 hl (k := 10) rfl (oI_add x14 1) (by decide) rfl (fun ls hl => ?_)
      refine lv_goto (tgt := 122) hx hb d_L13_209 (by decide) ?_
      obtain ⟨rfl, rfl, rfl, rfl, rfl⟩ := in5 h
      exact W.wide (by omega) (by omega) (k0 ad26 hag0 hE0 rfl H locs ls hP hD hS (lv_sub hl [2, 3, 4, 5, 6, 7, 8, 9, 10, 1, 0] rfl))
    · have h := ite_t ((oI_eq0 ⟨by omega, by omega⟩).mp c9) h
      refine lv_iload hx hb d_L13_178 (lv_at hl 11 rfl) ?_
      refine lv_iload hx hb d_L13_180 (lv_at hl 5 rfl) ?_
      obtain ⟨ok28, h⟩ := ck_e h
      obtain ⟨ok29, h⟩ := ck_e h
      refine lv_icmp_ge (tgt := 202) hx hb d_L13_182 (by decide) (fun c9 => ?_) (fun c9 => ?_)
      · have h := ite_t ((oI_le (a := x7) (b := v26_15) ok29 ok28).mp c9) h
        refine lv_iconst (v := oI 0) hx hb d_L13_202 (by decide +kernel) ?_
        refine lv_iadd hx hb d_L13_203 ?_
        refine nrm (oI_add _ _) ?_
        refine lv_istore (lv' := [(13, .int (oI (x13 + 0))), (1, .ref (ad26 1)), (2, .int (oI x2)), (3, .int (oI x3)), (4, .ref (ad26 q4)), (5, .long (oJ x5)), (7, .int (oI x7)), (9, .long (oJ x9)), (11, .int (oI x11)), (12, .int (oI x12)), (14, .int (oI x14)), (15, .int (oI v26_15))]) hx hb d_L13_204 hl (by decide) rfl (fun ls hl => ?_)
        refine lv_iinc (v := oI (x14 + 1)) (lv' := [(14, .int (oI (x14 + 1))), (13, .int (oI (x13 + 0))), (1, .ref (ad26 1)), (2, .int (oI x2)), (3, .int (oI x3)), (4, .ref (ad26 q4)), (5, .long (oJ x5)), (7, .int (oI x7)), (9, .long (oJ x9)), (11, .int (oI x11)), (12, .int (oI x12)), (15, .int (oI v26_15))]) hx hb d_L13_206 hl (k := 10) rfl (oI_add x14 1) (by decide) rfl (fun ls hl => ?_)
        refine lv_goto (tgt := 122) hx hb d_L13_209 (by decide) ?_
        obtain ⟨rfl, rfl, rfl, rfl, rfl⟩ := in5 h
        exact W.wide (by omega) (by omega) (k0 ad26 hag0 hE0 rfl H locs ls hP hD hS (lv_sub hl [2, 3, 4, 5, 6, 7, 8, 9, 10, 1, 0] rfl))
      · have h := ite_f (fun q => c9 ((oI_le (a := x7) (b := v26_15) ok29 ok28).mpr q)) h
        refine lv_iload hx hb d_L13_185 (lv_at hl 11 rfl) ?_
        refine lv_aload hx hb d_L13_187 (lv_at hl 3 rfl) ?_
        refine lv_iload hx hb d_L13_189 (lv_at hl 8 rfl) ?_
        obtain ⟨ok30, h⟩ := ck_e h
        refine m_ia hx hb hG hP h_q4.1 (isIA_T h_q4) ok30 d_L13_191 ?_
        refine lv_iadd hx hb d_L13_192 ?_
        refine nrm (oI_add _ _) ?_
        refine lv_iload hx hb d_L13_193 (lv_at hl 5 rfl) ?_
        obtain ⟨ok31, h⟩ := ck_e h
        refine lv_icmp_lt (tgt := 202) hx hb d_L13_195 (by decide) (fun c9 => ?_) (fun c9 => ?_)
        · have h := ite_t ((oI_lt (a := (v26_15 + (M26 q4 x12.toNat))) (b := x7) ok31 ok29).mp c9) h
          refine lv_iconst (v := oI 0) hx hb d_L13_202 (by decide +kernel) ?_
          refine lv_iadd hx hb d_L13_203 ?_
          refine nrm (oI_add _ _) ?_
          refine lv_istore (lv' := [(13, .int (oI (x13 + 0))), (1, .ref (ad26 1)), (2, .int (oI x2)), (3, .int (oI x3)), (4, .ref (ad26 q4)), (5, .long (oJ x5)), (7, .int (oI x7)), (9, .long (oJ x9)), (11, .int (oI x11)), (12, .int (oI x12)), (14, .int (oI x14)), (15, .int (oI v26_15))]) hx hb d_L13_204 hl (by decide) rfl (fun ls hl => ?_)
          refine lv_iinc (v := oI (x14 + 1)) (lv' := [(14, .int (oI (x14 + 1))), (13, .int (oI (x13 + 0))), (1, .ref (ad26 1)), (2, .int (oI x2)), (3, .int (oI x3)), (4, .ref (ad26 q4)), (5, .long (oJ x5)), (7, .int (oI x7)), (9, .long (oJ x9)), (11, .int (oI x11)), (12, .int (oI x12)), (15, .int (oI v26_15))]) hx hb d_L13_206 hl (k := 10) rfl (oI_add x14 1) (by decide) rfl (fun ls hl => ?_)
          refine lv_goto (tgt := 122) hx hb d_L13_209 (by decide) ?_
          obtain ⟨rfl, rfl, rfl, rfl, rfl⟩ := in5 h
          exact W.wide (by omega) (by omega) (k0 ad26 hag0 hE0 rfl H locs ls hP hD hS (lv_sub hl [2, 3, 4, 5, 6, 7, 8, 9, 10, 1, 0] rfl))
        · have h := ite_f (fun q => c9 ((oI_lt (a := (v26_15 + (M26 q4 x12.toNat))) (b := x7) ok31 ok29).mpr q)) h
          refine lv_iconst (v := oI 1) hx hb d_L13_198 (by decide +kernel) ?_
          refine lv_goto (tgt := 203) hx hb d_L13_199 (by decide) ?_
          refine lv_iadd hx hb d_L13_203 ?_
          refine nrm (oI_add _ _) ?_
          refine lv_istore (lv' := [(13, .int (oI (x13 + 1))), (1, .ref (ad26 1)), (2, .int (oI x2)), (3, .int (oI x3)), (4, .ref (ad26 q4)), (5, .long (oJ x5)), (7, .int (oI x7)), (9, .long (oJ x9)), (11, .int (oI x11)), (12, .int (oI x12)), (14, .int (oI x14)), (15, .int (oI v26_15))]) hx hb d_L13_204 hl (by decide) rfl (fun ls hl => ?_)
          refine lv_iinc (v := oI (x14 + 1)) (lv' := [(14, .int (oI (x14 + 1))), (13, .int (oI (x13 + 1))), (1, .ref (ad26 1)), (2, .int (oI x2)), (3, .int (oI x3)), (4, .ref (ad26 q4)), (5, .long (oJ x5)), (7, .int (oI x7)), (9, .long (oJ x9)), (11, .int (oI x11)), (12, .int (oI x12)), (15, .int (oI v26_15))]) hx hb d_L13_206 hl (k := 10) rfl (oI_add x14 1) (by decide) rfl (fun ls hl => ?_)
          refine lv_goto (tgt := 122) hx hb d_L13_209 (by decide) ?_
          obtain ⟨rfl, rfl, rfl, rfl, rfl⟩ := in5 h
          exact W.wide (by omega) (by omega) (k0 ad26 hag0 hE0 rfl H locs ls hP hD hS (lv_sub hl [2, 3, 4, 5, 6, 7, 8, 9, 10, 1, 0] rfl))
set_option maxRecDepth 100000 in
set_option maxHeartbeats 4000000 in
theorem s_La_council_122 (l : Launch) (z : Zz) (E0 : Ev) (ad0 : Nat → Nat) (x2 : Int) (x3 : Int) (q4 : Nat) (x5 : Int) (x7 : Int) (x9 : Int) (x11 : Int) (x12 : Int) {Q : State → Prop} {p : Program} {e : Env} {s : State} {m : MethodId} {below : List Frame} {meth : Method} {c : Code} {A : Nat → Prop} {args : Array Value} (hx : p.tables.exec = Jvm.exec) (hb : c.code = method_13_code) (hml : c.maxLocals = 17) (hts : ∀ w ∈ WG, w.before args s = true) (hown : s.vm.findClass "BallothallLaw" = some m.cls) (hlocks : meth.locks = false) (hA : ∀ q, s.heap.size ≤ q → A q) (hG : KG z s) (hZ : FZ z A s) (mc ms c1 s1 : Nat) (hm : c1 ≤ mc) (hm2 : s1 ≤ ms) : ∀ (fu c0 s0 : Nat) (ad : Nat → Nat) (E : Ev) (M : Mm) (x13 : Int) (x14 : Int) (t : Nat) (w13 : Int) (w14 : Int) (F : Ev) (N : Mm), c0 + fu * 0 ≤ c1 → s0 + fu * 0 ≤ s1 → (∀ i, i < nE E0 → ad i = ad0 i) → nE E0 ≤ nE E → l_La_council_122 x2 x3 q4 x5 x7 x9 x11 x12 fu E M x13 x14 = some (t, w13, w14, F, N) → (∀ (ad1 : Nat → Nat), (∀ i, i < nE E0 → ad1 i = ad0 i) → nE E0 ≤ nE F → t = 1 → ∀ (H : Heap) (locs : List Loc) (ls : Array Slot), va_P z.1 classes (wv z ad1 F N) H → va_D A (wv z ad1 F N) → va_S A s.heap H locs → lv_has ls 17 [(1, .ref (ad1 1)), (2, .int (oI x2)), (3, .int (oI x3)), (4, .ref (ad1 q4)), (5, .long (oJ x5)), (7, .int (oI x7)), (9, .long (oJ x9)), (11, .int (oI x11)), (12, .int (oI x12)), (13, .int (oI w13))] → W p l e (rmK 4 109 mc ms) s m args below meth c H locs c1 s1 Q (F0 m 212 ls [])) → ∀ (H : Heap) (locs : List Loc) (ls : Array Slot), va_P z.1 classes (wv z ad E M) H → va_D A (wv z ad E M) → va_S A s.heap H locs → lv_has ls 17 [(1, .ref (ad 1)), (2, .int (oI x2)), (3, .int (oI x3)), (4, .ref (ad q4)), (5, .long (oJ x5)), (7, .int (oI x7)), (9, .long (oJ x9)), (11, .int (oI x11)), (12, .int (oI x12)), (13, .int (oI x13)), (14, .int (oI x14))] → W p l e (rmK 4 109 mc ms) s m args below meth c H locs c0 s0 Q (F0 m 122 ls []) := by
  intro fu
  induction fu with
  | zero =>
    intro c0 s0 ad E M x13 x14 t w13 w14 F N hc hs hag0 hE0 h
    have h : (none : Option (Nat × Int × Int × Ev × Mm)) = some _ := h
    cases h
  | succ fu ih =>
    intro c0 s0 ad E M x13 x14 t w13 w14 F N hc hs hag0 hE0 h k1 H locs ls hP hD hS hl
    obtain ⟨⟨t0, w130, w140, F9, N9⟩, g0, h⟩ := bd_e h
    refine W.wide (Nat.le_refl _) (Nat.le_refl _) (b_La_council_122b l z E0 ad0 ad E M x2 x3 q4 x5 x7 x9 x11 x12 x13 x14 t0 w130 w140 F9 N9 hx hb hml hts hown hlocks hA hG hZ mc ms c0 s0 (c0 + 0) (s0 + 0) (Nat.le_refl _) (Nat.le_refl _) (by omega) (by omega) hag0 hE0 g0 (fun ad1 ha he e0 => ?_) (fun ad1 ha he e0 => ?_) H locs ls hP hD hS hl)
    · subst e0
      have h := ite_t rfl h
      exact ih (c0 + 0) (s0 + 0) ad1 F9 N9 w130 w140 t w13 w14 F N (by omega) (by omega) ha he h k1
    · subst e0
      have h := ite_f (by decide) h
      obtain ⟨rfl, rfl, rfl, rfl, rfl⟩ := in5 h
      exact fun H locs ls hP hD hS hl => W.wide (by omega) (by omega) (k1 ad1 ha he rfl H locs ls hP hD hS hl)
set_option maxRecDepth 100000 in
set_option maxHeartbeats 4000000 in
theorem b_La_council_j265 (l : Launch) (z : Zz) (E0 : Ev) (ad0 : Nat → Nat) (ad : Nat → Nat) (E : Ev) (M : Mm) (x2 : Int) (x3 : Int) (q4 : Nat) (x5 : Int) (x7 : Int) (x9 : Int) (x12 : Int) (y0 : Int) (y1 : Int) (t : Nat) (w9 : Int) (w11 : Int) (w12 : Int) (F : Ev) (N : Mm) {Q : State → Prop} {p : Program} {e : Env} {s : State} {m : MethodId} {below : List Frame} {meth : Method} {c : Code} {A : Nat → Prop} {args : Array Value} (hx : p.tables.exec = Jvm.exec) (hb : c.code = method_13_code) (hml : c.maxLocals = 17) (hts : ∀ w ∈ WG, w.before args s = true) (hown : s.vm.findClass "BallothallLaw" = some m.cls) (hlocks : meth.locks = false) (hA : ∀ q, s.heap.size ≤ q → A q) (hG : KG z s) (hZ : FZ z A s) (mc ms c0 s0 c1 s1 : Nat) (hc : c0 + 0 ≤ c1) (hs : s0 + 0 ≤ s1) (hm : c1 ≤ mc) (hm2 : s1 ≤ ms) (hag0 : ∀ i, i < nE E0 → ad i = ad0 i) (hE0 : nE E0 ≤ nE E) (h : La_council_j265 E M x2 x3 q4 x5 x7 x9 x12 y0 y1 = some (t, w9, w11, w12, F, N)) (k0 : ∀ (ad1 : Nat → Nat), (∀ i, i < nE E0 → ad1 i = ad0 i) → nE E0 ≤ nE F → t = 0 → ∀ (H : Heap) (locs : List Loc) (ls : Array Slot), va_P z.1 classes (wv z ad1 F N) H → va_D A (wv z ad1 F N) → va_S A s.heap H locs → lv_has ls 17 [(1, .ref (ad1 1)), (2, .int (oI x2)), (3, .int (oI x3)), (4, .ref (ad1 q4)), (5, .long (oJ x5)), (7, .int (oI x7)), (9, .long (oJ w9)), (11, .int (oI w11)), (12, .int (oI w12))] → W p l e (rmK 4 109 mc ms) s m args below meth c H locs c1 s1 Q (F0 m 110 ls [])) (k1 : ∀ (ad1 : Nat → Nat), (∀ i, i < nE E0 → ad1 i = ad0 i) → nE E0 ≤ nE F → t = 1 → ∀ (H : Heap) (locs : List Loc) (ls : Array Slot), va_P z.1 classes (wv z ad1 F N) H → va_D A (wv z ad1 F N) → va_S A s.heap H locs → lv_has ls 17 [(3, .int (oI x3)), (5, .long (oJ x5)), (7, .int (oI x7)), (9, .long (oJ w9)), (11, .int (oI w11))] → W p l e (rmK 4 109 mc ms) s m args below meth c H locs c1 s1 Q (F0 m 281 ls [])) : ∀ (H : Heap) (locs : List Loc) (ls : Array Slot), va_P z.1 classes (wv z ad E M) H → va_D A (wv z ad E M) → va_S A s.heap H locs → lv_has ls 17 [(1, .ref (ad 1)), (2, .int (oI x2)), (3, .int (oI x3)), (4, .ref (ad q4)), (5, .long (oJ x5)), (7, .int (oI x7)), (9, .long (oJ x9)), (12, .int (oI x12))] → W p l e (rmK 4 109 mc ms) s m args below meth c H locs c0 s0 Q (F0 m 265 ls [.int (oI y0), .int (oI y1)]) := by
  intro H locs ls hP hD hS hl
  unfold La_council_j265 at h
  obtain ⟨hL, h⟩ := ck_e h
  obtain ⟨h_q4, h⟩ := ck_e h
  obtain ⟨ok41, h⟩ := ck_e h
  obtain ⟨ok42, h⟩ := ck_e h
  refine lv_icmp_ne (tgt := 272) hx hb d_L13_265 (by decide) (fun c9 => ?_) (fun c9 => ?_)
  · have h := ite_f (fun q => c9 ((oI_eq (a := y1) (b := y0) ok41 ok42).mpr q)) h
    refine lv_iconst (v := oI 0) hx hb d_L13_272 (by decide +kernel) ?_
    refine lv_istore (lv' := [(11, .int (oI 0)), (1, .ref (ad 1)), (2, .int (oI x2)), (3, .int (oI x3)), (4, .ref (ad q4)), (5, .long (oJ x5)), (7, .int (oI x7)), (9, .long (oJ x9)), (12, .int (oI x12))]) hx hb d_L13_273 hl (by decide) rfl (fun ls hl => ?_)
    refine lv_iinc (v := oI (x12 + 1)) (lv' := [(12, .int (oI (x12 + 1))), (11, .int (oI 0)), (1, .ref (ad 1)), (2, .int (oI x2)), (3, .int (oI x3)), (4, .ref (ad q4)), (5, .long (oJ x5)), (7, .int (oI x7)), (9, .long (oJ x9))]) hx hb d_L13_275 hl (k := 8) rfl (oI_add x12 1) (by decide) rfl (fun ls hl => ?_)
    refine lv_goto (tgt := 110) hx hb d_L13_278 (by decide) ?_
    obtain ⟨rfl, rfl, rfl, rfl, rfl, rfl⟩ := in6 h
    exact W.wide (by omega) (by omega) (k0 ad hag0 hE0 rfl H locs ls hP hD hS (lv_sub hl [2, 3, 4, 5, 6, 7, 8, 1, 0] rfl))
  · have h := ite_t ((oI_eq (a := y1) (b := y0) ok41 ok42).mp c9) h
    refine lv_iconst (v := oI 1) hx hb d_L13_268 (by decide +kernel) ?_
    refine lv_goto (tgt := 273) hx hb d_L13_269 (by decide) ?_
    refine lv_istore (lv' := [(11, .int (oI 1)), (1, .ref (ad 1)), (2, .int (oI x2)), (3, .int (oI x3)), (4, .ref (ad q4)), (5, .long (oJ x5)), (7, .int (oI x7)), (9, .long (oJ x9)), (12, .int (oI x12))]) hx hb d_L13_273 hl (by decide) rfl (fun ls hl => ?_)
    refine lv_iinc (v := oI (x12 + 1)) (lv' := [(12, .int (oI (x12 + 1))), (11, .int (oI 1)), (1, .ref (ad 1)), (2, .int (oI x2)), (3, .int (oI x3)), (4, .ref (ad q4)), (5, .long (oJ x5)), (7, .int (oI x7)), (9, .long (oJ x9))]) hx hb d_L13_275 hl (k := 8) rfl (oI_add x12 1) (by decide) rfl (fun ls hl => ?_)
    refine lv_goto (tgt := 110) hx hb d_L13_278 (by decide) ?_
    obtain ⟨rfl, rfl, rfl, rfl, rfl, rfl⟩ := in6 h
    exact W.wide (by omega) (by omega) (k0 ad hag0 hE0 rfl H locs ls hP hD hS (lv_sub hl [2, 3, 4, 5, 6, 7, 8, 1, 0] rfl))
set_option maxRecDepth 100000 in
set_option maxHeartbeats 4000000 in
theorem b_La_council_j255 (l : Launch) (z : Zz) (E0 : Ev) (ad0 : Nat → Nat) (ad : Nat → Nat) (E : Ev) (M : Mm) (x2 : Int) (x3 : Int) (q4 : Nat) (x5 : Int) (x7 : Int) (x9 : Int) (x12 : Int) (x13 : Int) (y0 : Int) (t : Nat) (w9 : Int) (w11 : Int) (w12 : Int) (F : Ev) (N : Mm) {Q : State → Prop} {p : Program} {e : Env} {s : State} {m : MethodId} {below : List Frame} {meth : Method} {c : Code} {A : Nat → Prop} {args : Array Value} (hx : p.tables.exec = Jvm.exec) (hb : c.code = method_13_code) (hml : c.maxLocals = 17) (hts : ∀ w ∈ WG, w.before args s = true) (hown : s.vm.findClass "BallothallLaw" = some m.cls) (hlocks : meth.locks = false) (hA : ∀ q, s.heap.size ≤ q → A q) (hG : KG z s) (hZ : FZ z A s) (mc ms c0 s0 c1 s1 : Nat) (hc : c0 + 0 ≤ c1) (hs : s0 + 0 ≤ s1) (hm : c1 ≤ mc) (hm2 : s1 ≤ ms) (hag0 : ∀ i, i < nE E0 → ad i = ad0 i) (hE0 : nE E0 ≤ nE E) (h : La_council_j255 E M x2 x3 q4 x5 x7 x9 x12 x13 y0 = some (t, w9, w11, w12, F, N)) (k0 : ∀ (ad1 : Nat → Nat), (∀ i, i < nE E0 → ad1 i = ad0 i) → nE E0 ≤ nE F → t = 0 → ∀ (H : Heap) (locs : List Loc) (ls : Array Slot), va_P z.1 classes (wv z ad1 F N) H → va_D A (wv z ad1 F N) → va_S A s.heap H locs → lv_has ls 17 [(1, .ref (ad1 1)), (2, .int (oI x2)), (3, .int (oI x3)), (4, .ref (ad1 q4)), (5, .long (oJ x5)), (7, .int (oI x7)), (9, .long (oJ w9)), (11, .int (oI w11)), (12, .int (oI w12))] → W p l e (rmK 4 109 mc ms) s m args below meth c H locs c1 s1 Q (F0 m 110 ls [])) (k1 : ∀ (ad1 : Nat → Nat), (∀ i, i < nE E0 → ad1 i = ad0 i) → nE E0 ≤ nE F → t = 1 → ∀ (H : Heap) (locs : List Loc) (ls : Array Slot), va_P z.1 classes (wv z ad1 F N) H → va_D A (wv z ad1 F N) → va_S A s.heap H locs → lv_has ls 17 [(3, .int (oI x3)), (5, .long (oJ x5)), (7, .int (oI x7)), (9, .long (oJ w9)), (11, .int (oI w11))] → W p l e (rmK 4 109 mc ms) s m args below meth c H locs c1 s1 Q (F0 m 281 ls [])) : ∀ (H : Heap) (locs : List Loc) (ls : Array Slot), va_P z.1 classes (wv z ad E M) H → va_D A (wv z ad E M) → va_S A s.heap H locs → lv_has ls 17 [(1, .ref (ad 1)), (2, .int (oI x2)), (3, .int (oI x3)), (4, .ref (ad q4)), (5, .long (oJ x5)), (7, .int (oI x7)), (9, .long (oJ x9)), (12, .int (oI x12)), (13, .int (oI x13))] → W p l e (rmK 4 109 mc ms) s m args below meth c H locs c0 s0 Q (F0 m 255 ls [.int (oI y0)]) := by
  intro H locs ls hP hD hS hl
  unfold La_council_j255 at h
  obtain ⟨hL, h⟩ := ck_e h
  obtain ⟨h_q4, h⟩ := ck_e h
  refine lv_iload hx hb d_L13_255 (lv_at hl 8 rfl) ?_
  obtain ⟨ok40, h⟩ := ck_e h
  refine lv_if_le (tgt := 264) hx hb d_L13_257 (by decide) (fun c9 => ?_) (fun c9 => ?_)
  · have h := ite_t ((oI_le0 ok40).mp c9) h
    refine lv_iconst (v := oI 0) hx hb d_L13_264 (by decide +kernel) ?_
    exact b_La_council_j265 l z E0 ad0 ad E M x2 x3 q4 x5 x7 x9 x12 0 y0 t w9 w11 w12 F N hx hb hml hts hown hlocks hA hG hZ mc ms _ _ c1 s1 (by omega) (by omega) hm hm2 hag0 hE0 h k0 k1 H locs ls hP hD hS (lv_sub hl [0, 1, 2, 3, 4, 5, 6, 7] rfl)
  · have h := ite_f (fun q => c9 ((oI_le0 ok40).mpr q)) h
    refine lv_iconst (v := oI 1) hx hb d_L13_260 (by decide +kernel) ?_
    refine lv_goto (tgt := 265) hx hb d_L13_261 (by decide) ?_
    exact b_La_council_j265 l z E0 ad0 ad E M x2 x3 q4 x5 x7 x9 x12 1 y0 t w9 w11 w12 F N hx hb hml hts hown hlocks hA hG hZ mc ms _ _ c1 s1 (by omega) (by omega) hm hm2 hag0 hE0 h k0 k1 H locs ls hP hD hS (lv_sub hl [0, 1, 2, 3, 4, 5, 6, 7] rfl)
set_option maxRecDepth 100000 in
set_option maxHeartbeats 4000000 in
theorem b_La_council_110b (l : Launch) (z : Zz) (E0 : Ev) (ad0 : Nat → Nat) (ad : Nat → Nat) (E : Ev) (M : Mm) (x2 : Int) (x3 : Int) (q4 : Nat) (x5 : Int) (x7 : Int) (x9 : Int) (x11 : Int) (x12 : Int) (t : Nat) (w9 : Int) (w11 : Int) (w12 : Int) (F : Ev) (N : Mm) {Q : State → Prop} {p : Program} {e : Env} {s : State} {m : MethodId} {below : List Frame} {meth : Method} {c : Code} {A : Nat → Prop} {args : Array Value} (hx : p.tables.exec = Jvm.exec) (hb : c.code = method_13_code) (hml : c.maxLocals = 17) (hts : ∀ w ∈ WG, w.before args s = true) (hown : s.vm.findClass "BallothallLaw" = some m.cls) (hlocks : meth.locks = false) (hA : ∀ q, s.heap.size ≤ q → A q) (hG : KG z s) (hZ : FZ z A s) (mc ms c0 s0 c1 s1 : Nat) (hc : c0 + 0 ≤ c1) (hs : s0 + 0 ≤ s1) (hm : c1 ≤ mc) (hm2 : s1 ≤ ms) (hag0 : ∀ i, i < nE E0 → ad i = ad0 i) (hE0 : nE E0 ≤ nE E) (h : La_council_110b E M x2 x3 q4 x5 x7 x9 x11 x12 = some (t, w9, w11, w12, F, N)) (k0 : ∀ (ad1 : Nat → Nat), (∀ i, i < nE E0 → ad1 i = ad0 i) → nE E0 ≤ nE F → t = 0 → ∀ (H : Heap) (locs : List Loc) (ls : Array Slot), va_P z.1 classes (wv z ad1 F N) H → va_D A (wv z ad1 F N) → va_S A s.heap H locs → lv_has ls 17 [(1, .ref (ad1 1)), (2, .int (oI x2)), (3, .int (oI x3)), (4, .ref (ad1 q4)), (5, .long (oJ x5)), (7, .int (oI x7)), (9, .long (oJ w9)), (11, .int (oI w11)), (12, .int (oI w12))] → W p l e (rmK 4 109 mc ms) s m args below meth c H locs c1 s1 Q (F0 m 110 ls [])) (k1 : ∀ (ad1 : Nat → Nat), (∀ i, i < nE E0 → ad1 i = ad0 i) → nE E0 ≤ nE F → t = 1 → ∀ (H : Heap) (locs : List Loc) (ls : Array Slot), va_P z.1 classes (wv z ad1 F N) H → va_D A (wv z ad1 F N) → va_S A s.heap H locs → lv_has ls 17 [(3, .int (oI x3)), (5, .long (oJ x5)), (7, .int (oI x7)), (9, .long (oJ w9)), (11, .int (oI w11))] → W p l e (rmK 4 109 mc ms) s m args below meth c H locs c1 s1 Q (F0 m 281 ls [])) : ∀ (H : Heap) (locs : List Loc) (ls : Array Slot), va_P z.1 classes (wv z ad E M) H → va_D A (wv z ad E M) → va_S A s.heap H locs → lv_has ls 17 [(1, .ref (ad 1)), (2, .int (oI x2)), (3, .int (oI x3)), (4, .ref (ad q4)), (5, .long (oJ x5)), (7, .int (oI x7)), (9, .long (oJ x9)), (11, .int (oI x11)), (12, .int (oI x12))] → W p l e (rmK 4 109 mc ms) s m args below meth c H locs c0 s0 Q (F0 m 110 ls []) := by
  intro H locs ls hP hD hS hl
  unfold La_council_110b at h
  obtain ⟨hL, h⟩ := ck_e h
  obtain ⟨h_q4, h⟩ := ck_e h
  refine lv_iload hx hb d_L13_110 (lv_at hl 8 rfl) ?_
  refine lv_iload_n hx hb d_L13_112 rfl (lv_at hl 1 rfl) ?_
  obtain ⟨ok15, h⟩ := ck_e h
  obtain ⟨ok16, h⟩ := ck_e h
  refine lv_icmp_ge (tgt := 281) hx hb d_L13_113 (by decide) (fun c9 => ?_) (fun c9 => ?_)
  · have h := ite_t ((oI_le (a := x2) (b := x12) ok16 ok15).mp c9) h
    obtain ⟨rfl, rfl, rfl, rfl, rfl, rfl⟩ := in6 h
    exact W.wide (by omega) (by omega) (k1 ad hag0 hE0 rfl H locs ls hP hD hS (lv_sub hl [2, 4, 5, 6, 7] rfl))
  · have h := ite_f (fun q => c9 ((oI_le (a := x2) (b := x12) ok16 ok15).mpr q)) h
    refine lv_iconst (v := oI 0) hx hb d_L13_116 (by decide +kernel) ?_
    refine lv_istore (lv' := [(13, .int (oI 0)), (1, .ref (ad 1)), (2, .int (oI x2)), (3, .int (oI x3)), (4, .ref (ad q4)), (5, .long (oJ x5)), (7, .int (oI x7)), (9, .long (oJ x9)), (11, .int (oI x11)), (12, .int (oI x12))]) hx hb d_L13_117 hl (by decide) rfl (fun ls hl => ?_)
    refine lv_iconst (v := oI 0) hx hb d_L13_119 (by decide +kernel) ?_
    refine lv_istore (lv' := [(14, .int (oI 0)), (13, .int (oI 0)), (1, .ref (ad 1)), (2, .int (oI x2)), (3, .int (oI x3)), (4, .ref (ad q4)), (5, .long (oJ x5)), (7, .int (oI x7)), (9, .long (oJ x9)), (11, .int (oI x11)), (12, .int (oI x12))]) hx hb d_L13_120 hl (by decide) rfl (fun ls hl => ?_)
    obtain ⟨⟨t32, v32_13, v32_14, E32, M32⟩, g32, h⟩ := bd_e h
    obtain ⟨hgw32, h⟩ := ck_e h
    obtain ⟨hL32, h⟩ := ck_e h
    obtain ⟨ok32, h⟩ := ck_e h
    refine s_La_council_122 l z E ad x2 x3 q4 x5 x7 x9 x11 x12 hx hb hml hts hown hlocks hA hG hZ mc ms (c0 + 0) (s0 + 0) (by omega) (by omega) 5000 _ _ ad E M 0 0 t32 v32_13 v32_14 E32 M32 (by omega) (by omega) (fun _ _ => rfl) (Nat.le_refl _) g32 (fun ad32 hag32 hEE32 e32 H locs ls hP hD hS hl => ?_) H locs ls hP hD hS (lv_sub hl [2, 3, 4, 5, 6, 7, 8, 9, 10, 1, 0] rfl)
    have hag0 : ∀ i, i < nE E0 → ad32 i = ad0 i := fun i hi => (hag32 i (Nat.lt_of_lt_of_le hi hE0)).trans (hag0 i hi)
    have hE0 : nE E0 ≤ nE E32 := Nat.le_trans hE0 hgw32.1
    have hL : Lay E32 := hL32
    have h_q4 : isIA E32 q4 := isA_up hgw32 h_q4
    refine lv_lload hx hb d_L13_212 (lv_at hl 6 rfl) ?_
    refine lv_aload_n hx hb d_L13_214 rfl (lv_at hl 0 rfl) ?_
    refine lv_iload hx hb d_L13_215 (lv_at hl 8 rfl) ?_
    obtain ⟨⟨r33, M33⟩, g33, h⟩ := bd_e h
    refine kV (As := [.int (oI x12)]) (rest := [.long (oJ x9)]) (s_B_ordersTurned l z ad32 E32 M32 x12 r33 M33 hL g33) hx hb hml hown hts w_1671 w_1668 w_1669 w_1670 w_1 md_41465a ⟨Nat.le_of_ble_eq_true rfl, Nat.le_of_ble_eq_true rfl⟩ hG hZ hP hD hS hA 1 (wv_o (ci := 11) (yi_1 hL) (yt_1 hL)) rfl rfl rfl hl.1 rfl (Nat.le_of_ble_eq_true rfl) d_L13_217 ⟨(show _ ≤ mc by omega), (show _ ≤ ms by omega)⟩ (fun _ H locs hP hD hS => ?_)
    have hP : va_P z.1 classes (wv z ad32 E32 M33) H := hP
    have hD : va_D A (wv z ad32 E32 M33) := hD
    refine W.eq (g2 := F0 m 220 ls [.long (oJ r33), .long (oJ x9)]) rfl ?_
    refine lv_ladd hx hb d_L13_220 ?_
    refine nrmL (oJ_add _ _) ?_
    refine lv_lstore (lv' := [(9, .long (oJ (x9 + r33))), (1, .ref (ad32 1)), (2, .int (oI x2)), (3, .int (oI x3)), (4, .ref (ad32 q4)), (5, .long (oJ x5)), (7, .int (oI x7)), (11, .int (oI x11)), (12, .int (oI x12)), (13, .int (oI v32_13))]) hx hb d_L13_221 hl (by decide) rfl (fun ls hl => ?_)
    refine lv_iload hx hb d_L13_223 (lv_at hl 7 rfl) ?_
    obtain ⟨ok34, h⟩ := ck_e h
    refine lv_if_eq (tgt := 272) hx hb d_L13_225 (by decide) (fun c9 => ?_) (fun c9 => ?_)
    · have h := ite_t ((oI_eq0 ok34).mp c9) h
      refine lv_iconst (v := oI 0) hx hb d_L13_272 (by decide +kernel) ?_
      refine lv_istore (lv' := [(11, .int (oI 0)), (9, .long (oJ (x9 + r33))), (1, .ref (ad32 1)), (2, .int (oI x2)), (3, .int (oI x3)), (4, .ref (ad32 q4)), (5, .long (oJ x5)), (7, .int (oI x7)), (12, .int (oI x12)), (13, .int (oI v32_13))]) hx hb d_L13_273 hl (by decide) rfl (fun ls hl => ?_)
      refine lv_iinc (v := oI (x12 + 1)) (lv' := [(12, .int (oI (x12 + 1))), (11, .int (oI 0)), (9, .long (oJ (x9 + r33))), (1, .ref (ad32 1)), (2, .int (oI x2)), (3, .int (oI x3)), (4, .ref (ad32 q4)), (5, .long (oJ x5)), (7, .int (oI x7)), (13, .int (oI v32_13))]) hx hb d_L13_275 hl (k := 8) rfl (oI_add x12 1) (by decide) rfl (fun ls hl => ?_)
      refine lv_goto (tgt := 110) hx hb d_L13_278 (by decide) ?_
      obtain ⟨rfl, rfl, rfl, rfl, rfl, rfl⟩ := in6 h
      exact W.wide (by omega) (by omega) (k0 ad32 hag0 hE0 rfl H locs ls hP hD hS (lv_sub hl [3, 4, 5, 6, 7, 8, 2, 1, 0] rfl))
    · have h := ite_f (fun q => c9 ((oI_eq0 ok34).mpr q)) h
      refine lv_aload_n hx hb d_L13_228 rfl (lv_at hl 1 rfl) ?_
      refine lv_iload hx hb d_L13_229 (lv_at hl 8 rfl) ?_
      obtain ⟨⟨r35, M35⟩, g35, h⟩ := bd_e h
      refine kV (As := [.int (oI x12)]) (rest := []) (s_B_swings l z ad32 E32 M33 x12 r35 M35 hL g35) hx hb hml hown hts w_1677 w_1674 w_1675 w_1676 w_1 md_fa578c ⟨Nat.le_of_ble_eq_true rfl, Nat.le_of_ble_eq_true rfl⟩ hG hZ hP hD hS hA 1 (wv_o (ci := 11) (yi_1 hL) (yt_1 hL)) rfl rfl rfl hl.1 rfl (Nat.le_of_ble_eq_true rfl) d_L13_231 ⟨(show _ ≤ mc by omega), (show _ ≤ ms by omega)⟩ (fun _ H locs hP hD hS => ?_)
      have hP : va_P z.1 classes (wv z ad32 E32 M35) H := hP
      have hD : va_D A (wv z ad32 E32 M35) := hD
      refine W.eq (g2 := F0 m 234 ls [.int (oI r35)]) rfl ?_
      refine lv_iload hx hb d_L13_234 (lv_at hl 9 rfl) ?_
      obtain ⟨ok36, h⟩ := ck_e h
      obtain ⟨ok37, h⟩ := ck_e h
      refine lv_icmp_ne (tgt := 272) hx hb d_L13_236 (by decide) (fun c9 => ?_) (fun c9 => ?_)
      · have h := ite_f (fun q => c9 ((oI_eq (a := r35) (b := v32_13) ok36 ok37).mpr q)) h
        refine lv_iconst (v := oI 0) hx hb d_L13_272 (by decide +kernel) ?_
        refine lv_istore (lv' := [(11, .int (oI 0)), (9, .long (oJ (x9 + r33))), (1, .ref (ad32 1)), (2, .int (oI x2)), (3, .int (oI x3)), (4, .ref (ad32 q4)), (5, .long (oJ x5)), (7, .int (oI x7)), (12, .int (oI x12)), (13, .int (oI v32_13))]) hx hb d_L13_273 hl (by decide) rfl (fun ls hl => ?_)
        refine lv_iinc (v := oI (x12 + 1)) (lv' := [(12, .int (oI (x12 + 1))), (11, .int (oI 0)), (9, .long (oJ (x9 + r33))), (1, .ref (ad32 1)), (2, .int (oI x2)), (3, .int (oI x3)), (4, .ref (ad32 q4)), (5, .long (oJ x5)), (7, .int (oI x7)), (13, .int (oI v32_13))]) hx hb d_L13_275 hl (k := 8) rfl (oI_add x12 1) (by decide) rfl (fun ls hl => ?_)
        refine lv_goto (tgt := 110) hx hb d_L13_278 (by decide) ?_
        obtain ⟨rfl, rfl, rfl, rfl, rfl, rfl⟩ := in6 h
        exact W.wide (by omega) (by omega) (k0 ad32 hag0 hE0 rfl H locs ls hP hD hS (lv_sub hl [3, 4, 5, 6, 7, 8, 2, 1, 0] rfl))
      · have h := ite_t ((oI_eq (a := r35) (b := v32_13) ok36 ok37).mp c9) h
        refine lv_aload_n hx hb d_L13_239 rfl (lv_at hl 1 rfl) ?_
        refine lv_iload hx hb d_L13_240 (lv_at hl 8 rfl) ?_
        obtain ⟨⟨r38, M38⟩, g38, h⟩ := bd_e h
        refine kV (As := [.int (oI x12)]) (rest := []) (s_B_ordersTurned l z ad32 E32 M35 x12 r38 M38 hL g38) hx hb hml hown hts w_1671 w_1668 w_1669 w_1670 w_1 md_41465a ⟨Nat.le_of_ble_eq_true rfl, Nat.le_of_ble_eq_true rfl⟩ hG hZ hP hD hS hA 1 (wv_o (ci := 11) (yi_1 hL) (yt_1 hL)) rfl rfl rfl hl.1 rfl (Nat.le_of_ble_eq_true rfl) d_L13_242 ⟨(show _ ≤ mc by omega), (show _ ≤ ms by omega)⟩ (fun _ H locs hP hD hS => ?_)
        have hP : va_P z.1 classes (wv z ad32 E32 M38) H := hP
        have hD : va_D A (wv z ad32 E32 M38) := hD
        refine W.eq (g2 := F0 m 245 ls [.long (oJ r38)]) rfl ?_
        refine lv_lconst (v := oJ 0) hx hb d_L13_245 (by decide +kernel) ?_
        obtain ⟨ok39, h⟩ := ck_e h
        refine W.lcmp hx hb d_L13_246 ?_
        refine nrm (cmp_val (a := r38) (b := (0 : Int)) ok39 (by decide)) ?_
        refine lv_if_le (tgt := 254) hx hb d_L13_247 (by decide) (fun c9 => ?_) (fun c9 => ?_)
        · have h := ite_t ((cmp_le r38 (0 : Int)).mp c9) h
          refine lv_iconst (v := oI 0) hx hb d_L13_254 (by decide +kernel) ?_
          exact b_La_council_j255 l z E0 ad0 ad32 E32 M38 x2 x3 q4 x5 x7 (x9 + r33) x12 v32_13 0 t w9 w11 w12 F N hx hb hml hts hown hlocks hA hG hZ mc ms _ _ c1 s1 (by omega) (by omega) hm hm2 hag0 hE0 h k0 k1 H locs ls hP hD hS (lv_sub hl [1, 2, 3, 4, 5, 6, 0, 8, 9] rfl)
        · have h := ite_f (fun q => c9 ((cmp_le r38 (0 : Int)).mpr q)) h
          refine lv_iconst (v := oI 1) hx hb d_L13_250 (by decide +kernel) ?_
          refine lv_goto (tgt := 255) hx hb d_L13_251 (by decide) ?_
          exact b_La_council_j255 l z E0 ad0 ad32 E32 M38 x2 x3 q4 x5 x7 (x9 + r33) x12 v32_13 1 t w9 w11 w12 F N hx hb hml hts hown hlocks hA hG hZ mc ms _ _ c1 s1 (by omega) (by omega) hm hm2 hag0 hE0 h k0 k1 H locs ls hP hD hS (lv_sub hl [1, 2, 3, 4, 5, 6, 0, 8, 9] rfl)
set_option maxRecDepth 100000 in
set_option maxHeartbeats 4000000 in
theorem s_La_council_110 (l : Launch) (z : Zz) (E0 : Ev) (ad0 : Nat → Nat) (x2 : Int) (x3 : Int) (q4 : Nat) (x5 : Int) (x7 : Int) {Q : State → Prop} {p : Program} {e : Env} {s : State} {m : MethodId} {below : List Frame} {meth : Method} {c : Code} {A : Nat → Prop} {args : Array Value} (hx : p.tables.exec = Jvm.exec) (hb : c.code = method_13_code) (hml : c.maxLocals = 17) (hts : ∀ w ∈ WG, w.before args s = true) (hown : s.vm.findClass "BallothallLaw" = some m.cls) (hlocks : meth.locks = false) (hA : ∀ q, s.heap.size ≤ q → A q) (hG : KG z s) (hZ : FZ z A s) (mc ms c1 s1 : Nat) (hm : c1 ≤ mc) (hm2 : s1 ≤ ms) : ∀ (fu c0 s0 : Nat) (ad : Nat → Nat) (E : Ev) (M : Mm) (x9 : Int) (x11 : Int) (x12 : Int) (t : Nat) (w9 : Int) (w11 : Int) (w12 : Int) (F : Ev) (N : Mm), c0 + fu * 0 ≤ c1 → s0 + fu * 0 ≤ s1 → (∀ i, i < nE E0 → ad i = ad0 i) → nE E0 ≤ nE E → l_La_council_110 x2 x3 q4 x5 x7 fu E M x9 x11 x12 = some (t, w9, w11, w12, F, N) → (∀ (ad1 : Nat → Nat), (∀ i, i < nE E0 → ad1 i = ad0 i) → nE E0 ≤ nE F → t = 1 → ∀ (H : Heap) (locs : List Loc) (ls : Array Slot), va_P z.1 classes (wv z ad1 F N) H → va_D A (wv z ad1 F N) → va_S A s.heap H locs → lv_has ls 17 [(3, .int (oI x3)), (5, .long (oJ x5)), (7, .int (oI x7)), (9, .long (oJ w9)), (11, .int (oI w11))] → W p l e (rmK 4 109 mc ms) s m args below meth c H locs c1 s1 Q (F0 m 281 ls [])) → ∀ (H : Heap) (locs : List Loc) (ls : Array Slot), va_P z.1 classes (wv z ad E M) H → va_D A (wv z ad E M) → va_S A s.heap H locs → lv_has ls 17 [(1, .ref (ad 1)), (2, .int (oI x2)), (3, .int (oI x3)), (4, .ref (ad q4)), (5, .long (oJ x5)), (7, .int (oI x7)), (9, .long (oJ x9)), (11, .int (oI x11)), (12, .int (oI x12))] → W p l e (rmK 4 109 mc ms) s m args below meth c H locs c0 s0 Q (F0 m 110 ls []) := by
  intro fu
  induction fu with
  | zero =>
    intro c0 s0 ad E M x9 x11 x12 t w9 w11 w12 F N hc hs hag0 hE0 h
    have h : (none : Option (Nat × Int × Int × Int × Ev × Mm)) = some _ := h
    cases h
  | succ fu ih =>
    intro c0 s0 ad E M x9 x11 x12 t w9 w11 w12 F N hc hs hag0 hE0 h k1 H locs ls hP hD hS hl
    obtain ⟨⟨t0, w90, w110, w120, F9, N9⟩, g0, h⟩ := bd_e h
    refine W.wide (Nat.le_refl _) (Nat.le_refl _) (b_La_council_110b l z E0 ad0 ad E M x2 x3 q4 x5 x7 x9 x11 x12 t0 w90 w110 w120 F9 N9 hx hb hml hts hown hlocks hA hG hZ mc ms c0 s0 (c0 + 0) (s0 + 0) (Nat.le_refl _) (Nat.le_refl _) (by omega) (by omega) hag0 hE0 g0 (fun ad1 ha he e0 => ?_) (fun ad1 ha he e0 => ?_) H locs ls hP hD hS hl)
    · subst e0
      have h := ite_t rfl h
      exact ih (c0 + 0) (s0 + 0) ad1 F9 N9 w90 w110 w120 t w9 w11 w12 F N (by omega) (by omega) ha he h k1
    · subst e0
      have h := ite_f (by decide) h
      obtain ⟨rfl, rfl, rfl, rfl, rfl, rfl⟩ := in6 h
      exact fun H locs ls hP hD hS hl => W.wide (by omega) (by omega) (k1 ad1 ha he rfl H locs ls hP hD hS hl)
set_option maxRecDepth 100000 in
set_option maxHeartbeats 4000000 in
theorem b_La_council_j300 (l : Launch) (z : Zz) (E0 : Ev) (ad0 : Nat → Nat) (ad : Nat → Nat) (E : Ev) (M : Mm) (y0 : Int) (y1 : Int) (r : Int) (F : Ev) (N : Mm) {p : Program} {e : Env} {s : State} {m : MethodId} {below : List Frame} {meth : Method} {c : Code} {A : Nat → Prop} {args : Array Value} (hx : p.tables.exec = Jvm.exec) (hb : c.code = method_13_code) (hml : c.maxLocals = 17) (hts : ∀ w ∈ WG, w.before args s = true) (hown : s.vm.findClass "BallothallLaw" = some m.cls) (hlocks : meth.locks = false) (hA : ∀ q, s.heap.size ≤ q → A q) (hG : KG z s) (hZ : FZ z A s) (hr : meth.sig.returnType = (some .boolean)) (mc ms c0 s0 c1 s1 : Nat) (hc : c0 + 0 ≤ c1) (hs : s0 + 0 ≤ s1) (hm : c1 ≤ mc) (hm2 : s1 ≤ ms) (hag0 : ∀ i, i < nE E0 → ad i = ad0 i) (hE0 : nE E0 ≤ nE E) (h : La_council_j300 E M y0 y1 = some (r, F, N)) : ∀ (H : Heap) (locs : List Loc) (ls : Array Slot), va_P z.1 classes (wv z ad E M) H → va_D A (wv z ad E M) → va_S A s.heap H locs → lv_has ls 17 [] → W p l e (rmK 4 109 mc ms) s m args below meth c H locs c0 s0 (MQ below (QK z A (fun u => some (.int (oI r))) (fun u => wv z (adj E0 ad0 u) F N)) args s c1 s1 A) (F0 m 300 ls [.long (oJ y0), .long (oJ y1)]) := by
  intro H locs ls hP hD hS hl
  unfold La_council_j300 at h
  obtain ⟨hL, h⟩ := ck_e h
  obtain ⟨ok47, h⟩ := ck_e h
  obtain ⟨ok48, h⟩ := ck_e h
  refine W.lcmp hx hb d_L13_300 ?_
  refine nrm (cmp_val (a := y1) (b := y0) ok47 ok48) ?_
  refine lv_if_ne (tgt := 308) hx hb d_L13_301 (by decide) (fun c9 => ?_) (fun c9 => ?_)
  · have h := ite_f (fun q => c9 ((cmp_eq y1 y0).mpr q)) h
    refine lv_iconst (v := oI 0) hx hb d_L13_308 (by decide +kernel) ?_
    refine W.wide (k := c1) (n := s1) (by omega) (by omega) ?_
    obtain ⟨rfl, rfl, rfl⟩ := in3 h
    exact W.zret hx hb hr rfl (fun t ht hW => qkA hP hD hS ad (congrArg (fun q => wv z q E M) (adj_self hag0).symm) rfl ht) hS.2.2 d_L13_309
  · have h := ite_t ((cmp_eq y1 y0).mp c9) h
    refine lv_iconst (v := oI 1) hx hb d_L13_304 (by decide +kernel) ?_
    refine lv_goto (tgt := 309) hx hb d_L13_305 (by decide) ?_
    refine W.wide (k := c1) (n := s1) (by omega) (by omega) ?_
    obtain ⟨rfl, rfl, rfl⟩ := in3 h
    exact W.zret hx hb hr rfl (fun t ht hW => qkA hP hD hS ad (congrArg (fun q => wv z q E M) (adj_self hag0).symm) rfl ht) hS.2.2 d_L13_309
set_option maxRecDepth 100000 in
set_option maxHeartbeats 4000000 in
theorem s_La_council (l : Launch) (z : Zz) (ad : Nat → Nat) (E : Ev) (M : Mm) (p0 : Nat) (r : Int) (F : Ev) (N : Mm) (h : f_La_council E M p0 = some (r, F, N)) : CT l z ⟨"BallothallLaw", "council", "([I)Z"⟩ method_13_code 17 (some .boolean) [.ref (ad p0)] (wv z ad E M) 4 109 351 10103 (fun u => some (.int (oI r))) (fun u => wv z (adj E ad u) F N) := by
  refine CT.of (own := "BallothallLaw") (by decide +kernel) (Nat.le_of_ble_eq_true rfl) rfl (fun p e s m below meth c A ls hx hb hml hr hts hown hlocks hin hA hG hZ hP hD hS hl => ?_)
  have hl : lv_has ls 17 [(0, .ref (ad p0))] := hl
  have key : ∀ (E0 : Ev) (ad0 : Nat → Nat) (mc ms c0 s0 c1 s1 : Nat) (H : Heap) (locs : List Loc) (args : Array Value), c0 + 351 ≤ c1 → s0 + 10103 ≤ s1 → c1 ≤ mc → s1 ≤ ms → (∀ i, i < nE E0 → ad i = ad0 i) → nE E0 ≤ nE E → (∀ w ∈ WG, w.before args s = true) → va_P z.1 classes (wv z ad E M) H → va_S A s.heap H locs → W p l e (rmK 4 109 mc ms) s m args below meth c H locs c0 s0 (MQ below (QK z A (fun u => some (.int (oI r))) (fun u => wv z (adj E0 ad0 u) F N)) args s c1 s1 A) (F0 m 0 ls []) := by
    intro E0 ad0 mc ms c0 s0 c1 s1 H locs args hc hs hm hm2 hag0 hE0 hts hP hS
    unfold f_La_council at h
    obtain ⟨h_p0, h⟩ := ck_e h
    obtain ⟨p0, ep0, h⟩ := nb_e h
    obtain ⟨E0, eE0, h⟩ := nb_e h
    obtain ⟨M0, eM0, h⟩ := nb_e h
    refine m_newO (ci := 11) (C := "Ballothall") (T := TX11) (n := 14) hx hb hts iX11 tyX11_ok hown w_32 w_33 w_1 rfl (fun _ => fsX11) hG hP hD hS hA (show _ ≤ mc by omega) (show _ ≤ ms by omega) d_L13_0 (fun ad0 H hag0 hP hD hS => ?_)
    have hP : va_P z.1 classes (wv z ad0 E0 M0) H := by rw [eE0, eM0]; exact hP
    have hD : va_D A (wv z ad0 E0 M0) := by rw [eE0, eM0]; exact hD
    refine W.eq (g2 := F0 m 3 ls (.ref (ad0 p0) :: [])) (by rw [ep0] <;> rfl) ?_
    have hl : lv_has ls 17 [(0, .ref (ad0 p0))] := by rw [hag0 p0 h_p0.1]; exact hl
    have hgw0 : Gw E E0 := by rw [eE0]; exact gw_new _ _
    have hag0 : ∀ i, i < nE E0 → ad0 i = ad0 i := fun i hi => (hag0 i (Nat.lt_of_lt_of_le hi hE0)).trans (hag0 i hi)
    have hE0 : nE E0 ≤ nE E0 := Nat.le_trans hE0 hgw0.1
    have h_p0 : isIA E0 p0 := isA_up hgw0 h_p0
    have h_p0 : isO 11 E0 p0 := by rw [ep0, eE0]; exact ⟨new_i _ _, new_T _ _⟩
    refine lv_dup hx hb d_L13_3 rfl ?_
    obtain ⟨⟨E1, M1⟩, g1, h⟩ := bd_e h
    obtain ⟨hgw1, h⟩ := ck_e h
    refine kI (As := []) (rest := [.ref (ad0 p0)]) (s_B_init l z ad0 E0 M0 p0 E1 M1 g1) hx hb hml hown hts w_36 w_34 w_35 rfl w_1 md_22f6df ⟨Nat.le_of_ble_eq_true rfl, Nat.le_of_ble_eq_true rfl⟩ hG hZ hP hD hS hA rfl hl.1 rfl (Nat.le_of_ble_eq_true rfl) d_L13_4 ⟨(show _ ≤ mc by omega), (show _ ≤ ms by omega)⟩ (fun u1 H locs hP hD hS => ?_)
    obtain ⟨ad1, had1⟩ : ∃ q, q = adj E0 ad0 u1 := ⟨_, rfl⟩
    have hP : va_P z.1 classes (wv z ad1 E1 M1) H := by rw [had1]; exact hP
    have hD : va_D A (wv z ad1 E1 M1) := by rw [had1]; exact hD
    have hag1 : ∀ i, i < nE E0 → ad1 i = ad0 i := fun i hi => by rw [had1]; exact adj_lt hi
    have hl : lv_has ls 17 [(0, .ref (ad1 p0))] := by rw [hag1 p0 h_p0.1]; exact hl
    refine W.eq (g2 := F0 m 7 ls [.ref (ad1 p0)]) (by rw [hag1 p0 h_p0.1] <;> rfl) ?_
    have hag0 : ∀ i, i < nE E0 → ad1 i = ad0 i := fun i hi => (hag1 i (Nat.lt_of_lt_of_le hi hE0)).trans (hag0 i hi)
    have hE0 : nE E0 ≤ nE E1 := Nat.le_trans hE0 hgw1.1
    have h_p0 : isIA E1 p0 := isA_up hgw1 h_p0
    obtain ⟨⟨hL, ep1⟩, h⟩ := ck_e h
    subst ep1
    refine lv_astore_n (lv' := [(1, .ref (ad1 1)), (0, .ref (ad1 1))]) hx hb d_L13_7 rfl hl (by decide) rfl (fun ls hl => ?_)
    refine lv_iconst (v := oI 1) hx hb d_L13_8 (by decide +kernel) ?_
    refine lv_aload_n hx hb d_L13_9 rfl (lv_at hl 1 rfl) ?_
    refine lv_bipush (v := oI 7) hx hb d_L13_10 (by decide +kernel) ?_
    obtain ⟨⟨r2, M2⟩, g2, h⟩ := bd_e h
    refine kS (As := [.ref (ad1 1), .int (oI 7)]) (rest := [.int (oI 1)]) (s_La_next l z ad1 E1 M1 1 7 r2 M2 hL g2) hx hb hml hown hts w_797 w_795 w_796 w_0 md_199d8f ⟨Nat.le_of_ble_eq_true rfl, Nat.le_of_ble_eq_true rfl⟩ hG hZ hP hD hS hA rfl hl.1 rfl (Nat.le_of_ble_eq_true rfl) d_L13_12 ⟨(show _ ≤ mc by omega), (show _ ≤ ms by omega)⟩ (fun _ H locs hP hD hS => ?_)
    have hP : va_P z.1 classes (wv z ad1 E1 M2) H := hP
    have hD : va_D A (wv z ad1 E1 M2) := hD
    refine W.eq (g2 := F0 m 15 ls [.int (oI r2), .int (oI 1)]) rfl ?_
    refine lv_iadd hx hb d_L13_15 ?_
    refine nrm (oI_add _ _) ?_
    refine lv_istore_n (lv' := [(2, .int (oI (1 + r2))), (1, .ref (ad1 1)), (0, .ref (ad1 1))]) hx hb d_L13_16 rfl hl (by decide) rfl (fun ls hl => ?_)
    refine lv_iconst (v := oI 0) hx hb d_L13_17 (by decide +kernel) ?_
    refine lv_istore_n (lv' := [(3, .int (oI 0)), (2, .int (oI (1 + r2))), (1, .ref (ad1 1)), (0, .ref (ad1 1))]) hx hb d_L13_18 rfl hl (by decide) rfl (fun ls hl => ?_)
    refine lv_iload_n hx hb d_L13_19 rfl (lv_at hl 1 rfl) ?_
    obtain ⟨ok3, h⟩ := ck_e h
    obtain ⟨p4, ep4, h⟩ := nb_e h
    obtain ⟨E4, eE4, h⟩ := nb_e h
    obtain ⟨M4, eM4, h⟩ := nb_e h
    refine m_newI (x := (1 + r2)) (N := 64) hx hb ok3.1 ok3.2 (by decide) (hts _ w_100) hG hP hD hS hA (show _ ≤ mc by omega) (show _ ≤ ms by omega) d_L13_20 (fun ad4 H hag4 hP hD hS => ?_)
    have hP : va_P z.1 classes (wv z ad4 E4 M4) H := by rw [eE4, eM4]; exact hP
    have hD : va_D A (wv z ad4 E4 M4) := by rw [eE4, eM4]; exact hD
    refine W.eq (g2 := F0 m 22 ls (.ref (ad4 p4) :: [])) (by rw [ep4] <;> rfl) ?_
    have hl : lv_has ls 17 [(3, .int (oI 0)), (2, .int (oI (1 + r2))), (1, .ref (ad4 1)), (0, .ref (ad4 1))] := by rw [hag4 1 (yi_1 hL)]; exact hl
    have hgw4 : Gw E1 E4 := by rw [eE4]; exact gw_new _ _
    have hL4 : Lay E4 := by rw [eE4]; exact lay_new hL
    have hag0 : ∀ i, i < nE E0 → ad4 i = ad0 i := fun i hi => (hag4 i (Nat.lt_of_lt_of_le hi hE0)).trans (hag0 i hi)
    have hE0 : nE E0 ≤ nE E4 := Nat.le_trans hE0 hgw4.1
    have hL : Lay E4 := hL4
    have h_p4 : isIA E4 p4 := by rw [ep4, eE4]; exact ⟨new_i _ _, by rw [new_T]⟩
    refine lv_astore (lv' := [(4, .ref (ad4 p4)), (3, .int (oI 0)), (2, .int (oI (1 + r2))), (1, .ref (ad4 1)), (0, .ref (ad4 1))]) hx hb d_L13_22 hl (by decide) rfl (fun ls hl => ?_)
    refine lv_lconst (v := oJ 1) hx hb d_L13_24 (by decide +kernel) ?_
    refine lv_lstore (lv' := [(5, .long (oJ 1)), (4, .ref (ad4 p4)), (3, .int (oI 0)), (2, .int (oI (1 + r2))), (1, .ref (ad4 1)), (0, .ref (ad4 1))]) hx hb d_L13_25 hl (by decide) rfl (fun ls hl => ?_)
    refine lv_iconst (v := oI 0) hx hb d_L13_27 (by decide +kernel) ?_
    refine lv_istore (lv' := [(7, .int (oI 0)), (5, .long (oJ 1)), (4, .ref (ad4 p4)), (3, .int (oI 0)), (2, .int (oI (1 + r2))), (1, .ref (ad4 1)), (0, .ref (ad4 1))]) hx hb d_L13_28 hl (by decide) rfl (fun ls hl => ?_)
    obtain ⟨⟨t12, v12_3, v12_5, v12_7, E12, M12⟩, g12, h⟩ := bd_e h
    obtain ⟨hgw12, h⟩ := ck_e h
    obtain ⟨hL12, h⟩ := ck_e h
    obtain ⟨ok12, h⟩ := ck_e h
    refine s_La_council_30 l z E4 ad4 (1 + r2) p4 hx hb hml hts hown hlocks hA hG hZ mc ms (c0 + 351) (s0 + 10103) (by omega) (by omega) 5000 _ _ ad4 E4 M4 0 1 0 t12 v12_3 v12_5 v12_7 E12 M12 (by omega) (by omega) (fun _ _ => rfl) (Nat.le_refl _) g12 (fun ad12 hag12 hEE12 e12 H locs ls hP hD hS hl => ?_) H locs ls hP hD hS (lv_sub hl [6, 5, 4, 3, 2, 1, 0] rfl)
    have hag0 : ∀ i, i < nE E0 → ad12 i = ad0 i := fun i hi => (hag12 i (Nat.lt_of_lt_of_le hi hE0)).trans (hag0 i hi)
    have hE0 : nE E0 ≤ nE E12 := Nat.le_trans hE0 hgw12.1
    have hL : Lay E12 := hL12
    have h_p4 : isIA E12 p4 := isA_up hgw12 h_p4
    refine lv_iconst (v := oI 1) hx hb d_L13_82 (by decide +kernel) ?_
    refine lv_aload_n hx hb d_L13_83 rfl (lv_at hl 0 rfl) ?_
    refine lv_iload_n hx hb d_L13_84 rfl (lv_at hl 3 rfl) ?_
    refine lv_iconst (v := oI 3) hx hb d_L13_85 (by decide +kernel) ?_
    refine lv_iadd hx hb d_L13_86 ?_
    refine nrm (oI_add _ _) ?_
    obtain ⟨⟨r13, M13⟩, g13, h⟩ := bd_e h
    refine kS (As := [.ref (ad12 1), .int (oI (v12_3 + 3))]) (rest := [.int (oI 1)]) (s_La_next l z ad12 E12 M12 1 (v12_3 + 3) r13 M13 hL g13) hx hb hml hown hts w_797 w_795 w_796 w_0 md_199d8f ⟨Nat.le_of_ble_eq_true rfl, Nat.le_of_ble_eq_true rfl⟩ hG hZ hP hD hS hA rfl hl.1 rfl (Nat.le_of_ble_eq_true rfl) d_L13_87 ⟨(show _ ≤ mc by omega), (show _ ≤ ms by omega)⟩ (fun _ H locs hP hD hS => ?_)
    have hP : va_P z.1 classes (wv z ad12 E12 M13) H := hP
    have hD : va_D A (wv z ad12 E12 M13) := hD
    refine W.eq (g2 := F0 m 90 ls [.int (oI r13), .int (oI 1)]) rfl ?_
    refine lv_iadd hx hb d_L13_90 ?_
    refine nrm (oI_add _ _) ?_
    refine lv_istore (lv' := [(7, .int (oI (1 + r13))), (0, .ref (ad12 1)), (1, .ref (ad12 1)), (2, .int (oI (1 + r2))), (3, .int (oI v12_3)), (4, .ref (ad12 p4)), (5, .long (oJ v12_5))]) hx hb d_L13_91 hl (by decide) rfl (fun ls hl => ?_)
    refine lv_aload_n hx hb d_L13_93 rfl (lv_at hl 2 rfl) ?_
    refine lv_iload hx hb d_L13_94 (lv_at hl 0 rfl) ?_
    obtain ⟨⟨r14, M14⟩, g14, h⟩ := bd_e h
    refine kV (As := [.int (oI (1 + r13))]) (rest := []) (s_B_setQuota l z ad12 E12 M13 (1 + r13) r14 M14 hL g14) hx hb hml hown hts w_1667 w_1664 w_1665 w_1666 w_1 md_dc78b4 ⟨Nat.le_of_ble_eq_true rfl, Nat.le_of_ble_eq_true rfl⟩ hG hZ hP hD hS hA 1 (wv_o (ci := 11) (yi_1 hL) (yt_1 hL)) rfl rfl rfl hl.1 rfl (Nat.le_of_ble_eq_true rfl) d_L13_96 ⟨(show _ ≤ mc by omega), (show _ ≤ ms by omega)⟩ (fun _ H locs hP hD hS => ?_)
    have hP : va_P z.1 classes (wv z ad12 E12 M14) H := hP
    have hD : va_D A (wv z ad12 E12 M14) := hD
    refine W.eq (g2 := F0 m 99 ls [.int (oI r14)]) rfl ?_
    refine lv_istore (lv' := [(8, .int (oI r14)), (7, .int (oI (1 + r13))), (0, .ref (ad12 1)), (1, .ref (ad12 1)), (2, .int (oI (1 + r2))), (3, .int (oI v12_3)), (4, .ref (ad12 p4)), (5, .long (oJ v12_5))]) hx hb d_L13_99 hl (by decide) rfl (fun ls hl => ?_)
    refine lv_lconst (v := oJ 0) hx hb d_L13_101 (by decide +kernel) ?_
    refine lv_lstore (lv' := [(9, .long (oJ 0)), (8, .int (oI r14)), (7, .int (oI (1 + r13))), (0, .ref (ad12 1)), (1, .ref (ad12 1)), (2, .int (oI (1 + r2))), (3, .int (oI v12_3)), (4, .ref (ad12 p4)), (5, .long (oJ v12_5))]) hx hb d_L13_102 hl (by decide) rfl (fun ls hl => ?_)
    refine lv_iconst (v := oI 1) hx hb d_L13_104 (by decide +kernel) ?_
    refine lv_istore (lv' := [(11, .int (oI 1)), (9, .long (oJ 0)), (8, .int (oI r14)), (7, .int (oI (1 + r13))), (0, .ref (ad12 1)), (1, .ref (ad12 1)), (2, .int (oI (1 + r2))), (3, .int (oI v12_3)), (4, .ref (ad12 p4)), (5, .long (oJ v12_5))]) hx hb d_L13_105 hl (by decide) rfl (fun ls hl => ?_)
    refine lv_iconst (v := oI 0) hx hb d_L13_107 (by decide +kernel) ?_
    refine lv_istore (lv' := [(12, .int (oI 0)), (11, .int (oI 1)), (9, .long (oJ 0)), (8, .int (oI r14)), (7, .int (oI (1 + r13))), (0, .ref (ad12 1)), (1, .ref (ad12 1)), (2, .int (oI (1 + r2))), (3, .int (oI v12_3)), (4, .ref (ad12 p4)), (5, .long (oJ v12_5))]) hx hb d_L13_108 hl (by decide) rfl (fun ls hl => ?_)
    obtain ⟨⟨t43, v43_9, v43_11, v43_12, E43, M43⟩, g43, h⟩ := bd_e h
    obtain ⟨hgw43, h⟩ := ck_e h
    obtain ⟨hL43, h⟩ := ck_e h
    obtain ⟨ok43, h⟩ := ck_e h
    refine s_La_council_110 l z E12 ad12 (1 + r2) v12_3 p4 v12_5 (1 + r13) hx hb hml hts hown hlocks hA hG hZ mc ms (c0 + 351) (s0 + 10103) (by omega) (by omega) 5000 _ _ ad12 E12 M14 0 1 0 t43 v43_9 v43_11 v43_12 E43 M43 (by omega) (by omega) (fun _ _ => rfl) (Nat.le_refl _) g43 (fun ad43 hag43 hEE43 e43 H locs ls hP hD hS hl => ?_) H locs ls hP hD hS (lv_sub hl [6, 7, 8, 9, 10, 4, 2, 1, 0] rfl)
    have hag0 : ∀ i, i < nE E0 → ad43 i = ad0 i := fun i hi => (hag43 i (Nat.lt_of_lt_of_le hi hE0)).trans (hag0 i hi)
    have hE0 : nE E0 ≤ nE E43 := Nat.le_trans hE0 hgw43.1
    have hL : Lay E43 := hL43
    refine lv_iload hx hb d_L13_281 (lv_at hl 4 rfl) ?_
    obtain ⟨ok44, h⟩ := ck_e h
    refine lv_if_eq (tgt := 308) hx hb d_L13_283 (by decide) (fun c9 => ?_) (fun c9 => ?_)
    · have h := ite_t ((oI_eq0 ok44).mp c9) h
      refine lv_iconst (v := oI 0) hx hb d_L13_308 (by decide +kernel) ?_
      refine W.wide (k := c1) (n := s1) (by omega) (by omega) ?_
      obtain ⟨rfl, rfl, rfl⟩ := in3 h
      exact W.zret hx hb hr rfl (fun t ht hW => qkA hP hD hS ad43 (congrArg (fun q => wv z q E43 M43) (adj_self hag0).symm) rfl ht) hS.2.2 d_L13_309
    · have h := ite_f (fun q => c9 ((oI_eq0 ok44).mpr q)) h
      refine lv_lload hx hb d_L13_286 (lv_at hl 3 rfl) ?_
      refine lv_iload hx hb d_L13_288 (lv_at hl 2 rfl) ?_
      refine lv_iload_n hx hb d_L13_290 rfl (lv_at hl 0 rfl) ?_
      obtain ⟨ok45, h⟩ := ck_e h
      obtain ⟨ok46, h⟩ := ck_e h
      refine lv_icmp_gt (tgt := 299) hx hb d_L13_291 (by decide) (fun c9 => ?_) (fun c9 => ?_)
      · have h := ite_t ((oI_lt (a := v12_3) (b := (1 + r13)) ok46 ok45).mp c9) h
        refine lv_lconst (v := oJ 0) hx hb d_L13_299 (by decide +kernel) ?_
        exact b_La_council_j300 l z E0 ad0 ad43 E43 M43 0 v43_9 r F N hx hb hml hts hown hlocks hA hG hZ hr mc ms _ _ c1 s1 (by omega) (by omega) hm hm2 hag0 hE0 h H locs ls hP hD hS (lv_sub hl [] rfl)
      · have h := ite_f (fun q => c9 ((oI_lt (a := v12_3) (b := (1 + r13)) ok46 ok45).mpr q)) h
        refine lv_lload hx hb d_L13_294 (lv_at hl 1 rfl) ?_
        refine lv_goto (tgt := 300) hx hb d_L13_296 (by decide) ?_
        exact b_La_council_j300 l z E0 ad0 ad43 E43 M43 v12_5 v43_9 r F N hx hb hml hts hown hlocks hA hG hZ hr mc ms _ _ c1 s1 (by omega) (by omega) hm hm2 hag0 hE0 h H locs ls hP hD hS (lv_sub hl [] rfl)
  exact key E ad 351 10103 0 0 351 10103 _ _ _ (by decide) (by decide) (by decide) (by decide) (fun _ _ => rfl) (Nat.le_refl _) hts hP hS
set_option maxRecDepth 100000 in
set_option maxHeartbeats 4000000 in
theorem b_La_law_11b (l : Launch) (z : Zz) (E0 : Ev) (ad0 : Nat → Nat) (ad : Nat → Nat) (E : Ev) (M : Mm) (q1 : Nat) (x2 : Int) (t : Nat) (w2 : Int) (F : Ev) (N : Mm) {Q : State → Prop} {p : Program} {e : Env} {s : State} {m : MethodId} {below : List Frame} {meth : Method} {c : Code} {A : Nat → Prop} (hx : p.tables.exec = Jvm.exec) (hb : c.code = code) (hml : c.maxLocals = 6) (hts : ∀ w ∈ WG, w.before #[Value.ref b] s = true) (hown : s.vm.findClass "BallothallLaw" = some m.cls) (hlocks : meth.locks = false) (hA : ∀ q, s.heap.size ≤ q → A q) (hG : KG z s) (hZ : FZ z A s) {b L : Nat} {xs : Nat → Int32} (hX : va_X b L xs s s.heap) (hbl : b < s.heap.size) (hbA : ¬ A b) (mc ms c0 s0 c1 s1 : Nat) (hc : c0 + 0 ≤ c1) (hs : s0 + 0 ≤ s1) (hm : c1 ≤ mc ∧ mc = 600130) (hm2 : s1 ≤ ms ∧ ms = 7301080) (hag0 : ∀ i, i < nE E0 → ad i = ad0 i) (hE0 : nE E0 ≤ nE E) (h : La_law_11b L xs E M q1 x2 = some (t, w2, F, N)) (k0 : ∀ (ad1 : Nat → Nat), (∀ i, i < nE E0 → ad1 i = ad0 i) → nE E0 ≤ nE F → t = 0 → ∀ (H : Heap) (locs : List Loc) (ls : Array Slot), va_P z.1 classes (wv z ad1 F N) H → va_D A (wv z ad1 F N) → va_S A s.heap H locs → lv_has ls 6 [(0, .ref b), (1, .ref (ad1 q1)), (2, .int (oI w2))] → W p l e room_1 s m #[Value.ref b] below meth c H locs c1 s1 Q (F0 m 11 ls [])) (k1 : ∀ (ad1 : Nat → Nat), (∀ i, i < nE E0 → ad1 i = ad0 i) → nE E0 ≤ nE F → t = 1 → ∀ (H : Heap) (locs : List Loc) (ls : Array Slot), va_P z.1 classes (wv z ad1 F N) H → va_D A (wv z ad1 F N) → va_S A s.heap H locs → lv_has ls 6 [(1, .ref (ad1 q1))] → W p l e room_1 s m #[Value.ref b] below meth c H locs c1 s1 Q (F0 m 52 ls [])) : ∀ (H : Heap) (locs : List Loc) (ls : Array Slot), va_P z.1 classes (wv z ad E M) H → va_D A (wv z ad E M) → va_S A s.heap H locs → lv_has ls 6 [(0, .ref b), (1, .ref (ad q1)), (2, .int (oI x2))] → W p l e room_1 s m #[Value.ref b] below meth c H locs c0 s0 Q (F0 m 11 ls []) := by
  intro H locs ls hP hD hS hl
  unfold La_law_11b at h
  obtain ⟨h_q1, h⟩ := ck_e h
  refine lv_iload_n hx hb d_law_11 rfl (lv_at hl 2 rfl) ?_
  refine lv_aload_n hx hb d_law_12 rfl (lv_at hl 0 rfl) ?_
  refine va_slen hx hb hX hbl hbA hS d_law_13 ?_
  refine nrm (x1 := oI (L : Int)) (len_oI L) ?_
  obtain ⟨ok2, h⟩ := ck_e h
  obtain ⟨ok3, h⟩ := ck_e h
  refine lv_icmp_ge (tgt := 52) hx hb d_law_14 (by decide) (fun c9 => ?_) (fun c9 => ?_)
  · have h := ite_t ((oI_le (a := (L : Int)) (b := x2) ok3 ok2).mp c9) h
    obtain ⟨rfl, rfl, rfl, rfl⟩ := in4 h
    exact W.wide (by omega) (by omega) (k1 ad hag0 hE0 rfl H locs ls hP hD hS (lv_sub hl [1] rfl))
  · have h := ite_f (fun q => c9 ((oI_le (a := (L : Int)) (b := x2) ok3 ok2).mpr q)) h
    refine lv_aload_n hx hb d_law_17 rfl (lv_at hl 1 rfl) ?_
    refine lv_iconst (v := oI 0) hx hb d_law_18 (by decide +kernel) ?_
    refine lv_aload_n hx hb d_law_19 rfl (lv_at hl 1 rfl) ?_
    refine lv_iconst (v := oI 0) hx hb d_law_20 (by decide +kernel) ?_
    obtain ⟨ok4, h⟩ := ck_e h
    refine m_ia hx hb hG hP h_q1.1 (isIA_T h_q1) ok4 d_law_21 ?_
    refine nrm (x1 := oI (M q1 0)) rfl ?_
    refine lv_aload_n hx hb d_law_22 rfl (lv_at hl 0 rfl) ?_
    refine lv_iload_n hx hb d_law_23 rfl (lv_at hl 2 rfl) ?_
    obtain ⟨ok5, h⟩ := ck_e h
    refine va_sld hx hb hX hbl hbA hS (inb_v ok5) d_law_24 ?_
    rw [inb_n ok5]
    refine nrm (x1 := oI (xi xs x2.toNat)) (oI_self _).symm ?_
    refine lv_ixor hx hb d_law_25 ?_
    refine nrm (oI_xorR _ _) ?_
    refine lv_ldc hx hb hown (hts _ w_798) d_law_26 ?_
    refine nrm (x1 := oI 1103515245) (by decide +kernel) ?_
    refine lv_imul hx hb d_law_28 ?_
    refine nrm (oI_mul _ _) ?_
    refine lv_sipush (v := oI 12345) hx hb d_law_29 (by decide +kernel) ?_
    refine lv_iadd hx hb d_law_32 ?_
    refine nrm (oI_add _ _) ?_
    obtain ⟨v6, e6, h⟩ := nb_e h
    refine nrm (congrArg oI e6.symm) ?_
    refine m_is hx hb hG hP hD hS h_q1.1 (isIA_T h_q1) ok4 d_law_33 (fun H locs hP hD hS => ?_)
    have hP : va_P z.1 classes (wv z ad E (u2 M q1 0 v6)) H := hP
    have hD : va_D A (wv z ad E (u2 M q1 0 v6)) := hD
    refine lv_aload_n hx hb d_law_34 rfl (lv_at hl 1 rfl) ?_
    refine lv_iconst (v := oI 0) hx hb d_law_35 (by decide +kernel) ?_
    refine lv_dup2_11 hx hb d_law_36 rfl rfl ?_
    refine m_ia hx hb hG hP h_q1.1 (isIA_T h_q1) ok4 d_law_37 ?_
    refine nrm (x1 := oI ((u2 M q1 0 v6) q1 0)) rfl ?_
    refine lv_aload_n hx hb d_law_38 rfl (lv_at hl 1 rfl) ?_
    refine lv_iconst (v := oI 0) hx hb d_law_39 (by decide +kernel) ?_
    refine m_ia hx hb hG hP h_q1.1 (isIA_T h_q1) ok4 d_law_40 ?_
    refine nrm (x1 := oI ((u2 M q1 0 v6) q1 0)) rfl ?_
    refine lv_bipush (v := oI 15) hx hb d_law_41 (by decide +kernel) ?_
    refine lv_iushr (v := oI (ushI ((u2 M q1 0 v6) q1 0) 15)) hx hb d_law_43 (oI_ushr _ 15 _ (by decide +kernel)) ?_
    refine lv_ixor hx hb d_law_44 ?_
    refine nrm (oI_xorR _ _) ?_
    obtain ⟨v7, e7, h⟩ := nb_e h
    refine nrm (congrArg oI e7.symm) ?_
    refine m_is hx hb hG hP hD hS h_q1.1 (isIA_T h_q1) ok4 d_law_45 (fun H locs hP hD hS => ?_)
    have hP : va_P z.1 classes (wv z ad E (u2 (u2 M q1 0 v6) q1 0 v7)) H := hP
    have hD : va_D A (wv z ad E (u2 (u2 M q1 0 v6) q1 0 v7)) := hD
    refine lv_iinc (v := oI (x2 + 1)) (lv' := [(2, .int (oI (x2 + 1))), (0, .ref b), (1, .ref (ad q1))]) hx hb d_law_46 hl (k := 2) rfl (oI_add x2 1) (by decide) rfl (fun ls hl => ?_)
    refine lv_goto (tgt := 11) hx hb d_law_49 (by decide) ?_
    obtain ⟨rfl, rfl, rfl, rfl⟩ := in4 h
    exact W.wide (by omega) (by omega) (k0 ad hag0 hE0 rfl H locs ls hP hD hS (lv_sub hl [1, 2, 0] rfl))
set_option maxRecDepth 100000 in
set_option maxHeartbeats 4000000 in
theorem s_La_law_11 (l : Launch) (z : Zz) (E0 : Ev) (ad0 : Nat → Nat) (q1 : Nat) {Q : State → Prop} {p : Program} {e : Env} {s : State} {m : MethodId} {below : List Frame} {meth : Method} {c : Code} {A : Nat → Prop} (hx : p.tables.exec = Jvm.exec) (hb : c.code = code) (hml : c.maxLocals = 6) (hts : ∀ w ∈ WG, w.before #[Value.ref b] s = true) (hown : s.vm.findClass "BallothallLaw" = some m.cls) (hlocks : meth.locks = false) (hA : ∀ q, s.heap.size ≤ q → A q) (hG : KG z s) (hZ : FZ z A s) {b L : Nat} {xs : Nat → Int32} (hX : va_X b L xs s s.heap) (hbl : b < s.heap.size) (hbA : ¬ A b) (mc ms c1 s1 : Nat) (hm : c1 ≤ mc ∧ mc = 600130) (hm2 : s1 ≤ ms ∧ ms = 7301080) : ∀ (fu c0 s0 : Nat) (ad : Nat → Nat) (E : Ev) (M : Mm) (x2 : Int) (t : Nat) (w2 : Int) (F : Ev) (N : Mm), c0 + fu * 0 ≤ c1 → s0 + fu * 0 ≤ s1 → (∀ i, i < nE E0 → ad i = ad0 i) → nE E0 ≤ nE E → l_La_law_11 L xs q1 fu E M x2 = some (t, w2, F, N) → (∀ (ad1 : Nat → Nat), (∀ i, i < nE E0 → ad1 i = ad0 i) → nE E0 ≤ nE F → t = 1 → ∀ (H : Heap) (locs : List Loc) (ls : Array Slot), va_P z.1 classes (wv z ad1 F N) H → va_D A (wv z ad1 F N) → va_S A s.heap H locs → lv_has ls 6 [(1, .ref (ad1 q1))] → W p l e room_1 s m #[Value.ref b] below meth c H locs c1 s1 Q (F0 m 52 ls [])) → ∀ (H : Heap) (locs : List Loc) (ls : Array Slot), va_P z.1 classes (wv z ad E M) H → va_D A (wv z ad E M) → va_S A s.heap H locs → lv_has ls 6 [(0, .ref b), (1, .ref (ad q1)), (2, .int (oI x2))] → W p l e room_1 s m #[Value.ref b] below meth c H locs c0 s0 Q (F0 m 11 ls []) := by
  intro fu
  induction fu with
  | zero =>
    intro c0 s0 ad E M x2 t w2 F N hc hs hag0 hE0 h
    have h : (none : Option (Nat × Int × Ev × Mm)) = some _ := h
    cases h
  | succ fu ih =>
    intro c0 s0 ad E M x2 t w2 F N hc hs hag0 hE0 h k1 H locs ls hP hD hS hl
    obtain ⟨⟨t0, w20, F9, N9⟩, g0, h⟩ := bd_e h
    refine W.wide (Nat.le_refl _) (Nat.le_refl _) (b_La_law_11b l z E0 ad0 ad E M q1 x2 t0 w20 F9 N9 hx hb hml hts hown hlocks hA hG hZ hX hbl hbA mc ms c0 s0 (c0 + 0) (s0 + 0) (Nat.le_refl _) (Nat.le_refl _) (by omega) (by omega) hag0 hE0 g0 (fun ad1 ha he e0 => ?_) (fun ad1 ha he e0 => ?_) H locs ls hP hD hS hl)
    · subst e0
      have h := ite_t rfl h
      exact ih (c0 + 0) (s0 + 0) ad1 F9 N9 w20 t w2 F N (by omega) (by omega) ha he h k1
    · subst e0
      have h := ite_f (by decide) h
      obtain ⟨rfl, rfl, rfl, rfl⟩ := in4 h
      exact fun H locs ls hP hD hS hl => W.wide (by omega) (by omega) (k1 ad1 ha he rfl H locs ls hP hD hS hl)
set_option maxRecDepth 100000 in
set_option maxHeartbeats 4000000 in
theorem b_La_law_78b (l : Launch) (z : Zz) (E0 : Ev) (ad0 : Nat → Nat) (ad : Nat → Nat) (E : Ev) (M : Mm) (q1 : Nat) (q3 : Nat) (x4 : Int) (t : Nat) (w4 : Int) (F : Ev) (N : Mm) {Q : State → Prop} {p : Program} {e : Env} {s : State} {m : MethodId} {below : List Frame} {meth : Method} {c : Code} {A : Nat → Prop} (hx : p.tables.exec = Jvm.exec) (hb : c.code = code) (hml : c.maxLocals = 6) (hts : ∀ w ∈ WG, w.before #[Value.ref b] s = true) (hown : s.vm.findClass "BallothallLaw" = some m.cls) (hlocks : meth.locks = false) (hA : ∀ q, s.heap.size ≤ q → A q) (hG : KG z s) (hZ : FZ z A s) {b L : Nat} {xs : Nat → Int32} (hX : va_X b L xs s s.heap) (hbl : b < s.heap.size) (hbA : ¬ A b) (mc ms c0 s0 c1 s1 : Nat) (hc : c0 + 0 ≤ c1) (hs : s0 + 0 ≤ s1) (hm : c1 ≤ mc ∧ mc = 600130) (hm2 : s1 ≤ ms ∧ ms = 7301080) (hag0 : ∀ i, i < nE E0 → ad i = ad0 i) (hE0 : nE E0 ≤ nE E) (h : La_law_78b L xs E M q1 q3 x4 = some (t, w4, F, N)) (k0 : ∀ (ad1 : Nat → Nat), (∀ i, i < nE E0 → ad1 i = ad0 i) → nE E0 ≤ nE F → t = 0 → ∀ (H : Heap) (locs : List Loc) (ls : Array Slot), va_P z.1 classes (wv z ad1 F N) H → va_D A (wv z ad1 F N) → va_S A s.heap H locs → lv_has ls 6 [(1, .ref (ad1 q1)), (2, .ref (ad1 1)), (3, .ref (ad1 q3)), (4, .int (oI w4))] → W p l e room_1 s m #[Value.ref b] below meth c H locs c1 s1 Q (F0 m 78 ls [])) (k1 : ∀ (ad1 : Nat → Nat), (∀ i, i < nE E0 → ad1 i = ad0 i) → nE E0 ≤ nE F → t = 1 → ∀ (H : Heap) (locs : List Loc) (ls : Array Slot), va_P z.1 classes (wv z ad1 F N) H → va_D A (wv z ad1 F N) → va_S A s.heap H locs → lv_has ls 6 [(1, .ref (ad1 q1)), (2, .ref (ad1 1)), (3, .ref (ad1 q3))] → W p l e room_1 s m #[Value.ref b] below meth c H locs c1 s1 Q (F0 m 99 ls [])) : ∀ (H : Heap) (locs : List Loc) (ls : Array Slot), va_P z.1 classes (wv z ad E M) H → va_D A (wv z ad E M) → va_S A s.heap H locs → lv_has ls 6 [(1, .ref (ad q1)), (2, .ref (ad 1)), (3, .ref (ad q3)), (4, .int (oI x4))] → W p l e room_1 s m #[Value.ref b] below meth c H locs c0 s0 Q (F0 m 78 ls []) := by
  intro H locs ls hP hD hS hl
  unfold La_law_78b at h
  obtain ⟨hL, h⟩ := ck_e h
  obtain ⟨h_q1, h⟩ := ck_e h
  obtain ⟨h_q3, h⟩ := ck_e h
  refine lv_iload hx hb d_law_78 (lv_at hl 3 rfl) ?_
  refine lv_aload_n hx hb d_law_80 rfl (lv_at hl 2 rfl) ?_
  refine m_giN (C := "BallothallLaw$Box") (T := TX12) (N := 4) (ci := 12) (k := 0) hx hb hts iX12 hown hG hP h_q3.1 h_q3.2 rfl (by decide) n_775 rfl (fun _ h9 => h9) rfl rfl d_law_81 ?_
  obtain ⟨ok14, h⟩ := ck_e h
  obtain ⟨ok15, h⟩ := ck_e h
  refine lv_icmp_ge (tgt := 99) hx hb d_law_84 (by decide) (fun c9 => ?_) (fun c9 => ?_)
  · have h := ite_t ((oI_le (a := (M q3 0)) (b := x4) ok15 ok14).mp c9) h
    obtain ⟨rfl, rfl, rfl, rfl⟩ := in4 h
    exact W.wide (by omega) (by omega) (k1 ad hag0 hE0 rfl H locs ls hP hD hS (lv_sub hl [0, 1, 2] rfl))
  · have h := ite_f (fun q => c9 ((oI_le (a := (M q3 0)) (b := x4) ok15 ok14).mpr q)) h
    refine lv_aload_n hx hb d_law_87 rfl (lv_at hl 1 rfl) ?_
    obtain ⟨⟨r16, M16⟩, g16, h⟩ := bd_e h
    refine kV (As := []) (rest := []) (s_B_candidate l z ad E M r16 M16 hL g16) hx hb hml hown hts w_443 w_440 w_441 w_442 w_1 md_895fca ⟨Nat.le_of_ble_eq_true rfl, Nat.le_of_ble_eq_true rfl⟩ hG hZ hP hD hS hA 1 (wv_o (ci := 11) (yi_1 hL) (yt_1 hL)) rfl rfl rfl hl.1 rfl (Nat.le_of_ble_eq_true rfl) d_law_88 ⟨(show _ ≤ 600130 by omega), (show _ ≤ 7301080 by omega)⟩ (fun _ H locs hP hD hS => ?_)
    have hP : va_P z.1 classes (wv z ad E M16) H := hP
    have hD : va_D A (wv z ad E M16) := hD
    refine W.eq (g2 := F0 m 91 ls [.int (oI r16)]) rfl ?_
    refine lv_istore (lv' := [(5, .int (oI r16)), (1, .ref (ad q1)), (2, .ref (ad 1)), (3, .ref (ad q3)), (4, .int (oI x4))]) hx hb d_law_91 hl (by decide) rfl (fun ls hl => ?_)
    refine lv_iinc (v := oI (x4 + 1)) (lv' := [(4, .int (oI (x4 + 1))), (5, .int (oI r16)), (1, .ref (ad q1)), (2, .ref (ad 1)), (3, .ref (ad q3))]) hx hb d_law_93 hl (k := 4) rfl (oI_add x4 1) (by decide) rfl (fun ls hl => ?_)
    refine lv_goto (tgt := 78) hx hb d_law_96 (by decide) ?_
    obtain ⟨rfl, rfl, rfl, rfl⟩ := in4 h
    exact W.wide (by omega) (by omega) (k0 ad hag0 hE0 rfl H locs ls hP hD hS (lv_sub hl [2, 3, 4, 0] rfl))
set_option maxRecDepth 100000 in
set_option maxHeartbeats 4000000 in
theorem s_La_law_78 (l : Launch) (z : Zz) (E0 : Ev) (ad0 : Nat → Nat) (q1 : Nat) (q3 : Nat) {Q : State → Prop} {p : Program} {e : Env} {s : State} {m : MethodId} {below : List Frame} {meth : Method} {c : Code} {A : Nat → Prop} (hx : p.tables.exec = Jvm.exec) (hb : c.code = code) (hml : c.maxLocals = 6) (hts : ∀ w ∈ WG, w.before #[Value.ref b] s = true) (hown : s.vm.findClass "BallothallLaw" = some m.cls) (hlocks : meth.locks = false) (hA : ∀ q, s.heap.size ≤ q → A q) (hG : KG z s) (hZ : FZ z A s) {b L : Nat} {xs : Nat → Int32} (hX : va_X b L xs s s.heap) (hbl : b < s.heap.size) (hbA : ¬ A b) (mc ms c1 s1 : Nat) (hm : c1 ≤ mc ∧ mc = 600130) (hm2 : s1 ≤ ms ∧ ms = 7301080) : ∀ (fu c0 s0 : Nat) (ad : Nat → Nat) (E : Ev) (M : Mm) (x4 : Int) (t : Nat) (w4 : Int) (F : Ev) (N : Mm), c0 + fu * 0 ≤ c1 → s0 + fu * 0 ≤ s1 → (∀ i, i < nE E0 → ad i = ad0 i) → nE E0 ≤ nE E → l_La_law_78 L xs q1 q3 fu E M x4 = some (t, w4, F, N) → (∀ (ad1 : Nat → Nat), (∀ i, i < nE E0 → ad1 i = ad0 i) → nE E0 ≤ nE F → t = 1 → ∀ (H : Heap) (locs : List Loc) (ls : Array Slot), va_P z.1 classes (wv z ad1 F N) H → va_D A (wv z ad1 F N) → va_S A s.heap H locs → lv_has ls 6 [(1, .ref (ad1 q1)), (2, .ref (ad1 1)), (3, .ref (ad1 q3))] → W p l e room_1 s m #[Value.ref b] below meth c H locs c1 s1 Q (F0 m 99 ls [])) → ∀ (H : Heap) (locs : List Loc) (ls : Array Slot), va_P z.1 classes (wv z ad E M) H → va_D A (wv z ad E M) → va_S A s.heap H locs → lv_has ls 6 [(1, .ref (ad q1)), (2, .ref (ad 1)), (3, .ref (ad q3)), (4, .int (oI x4))] → W p l e room_1 s m #[Value.ref b] below meth c H locs c0 s0 Q (F0 m 78 ls []) := by
  intro fu
  induction fu with
  | zero =>
    intro c0 s0 ad E M x4 t w4 F N hc hs hag0 hE0 h
    have h : (none : Option (Nat × Int × Ev × Mm)) = some _ := h
    cases h
  | succ fu ih =>
    intro c0 s0 ad E M x4 t w4 F N hc hs hag0 hE0 h k1 H locs ls hP hD hS hl
    obtain ⟨⟨t0, w40, F9, N9⟩, g0, h⟩ := bd_e h
    refine W.wide (Nat.le_refl _) (Nat.le_refl _) (b_La_law_78b l z E0 ad0 ad E M q1 q3 x4 t0 w40 F9 N9 hx hb hml hts hown hlocks hA hG hZ hX hbl hbA mc ms c0 s0 (c0 + 0) (s0 + 0) (Nat.le_refl _) (Nat.le_refl _) (by omega) (by omega) hag0 hE0 g0 (fun ad1 ha he e0 => ?_) (fun ad1 ha he e0 => ?_) H locs ls hP hD hS hl)
    · subst e0
      have h := ite_t rfl h
      exact ih (c0 + 0) (s0 + 0) ad1 F9 N9 w40 t w4 F N (by omega) (by omega) ha he h k1
    · subst e0
      have h := ite_f (by decide) h
      obtain ⟨rfl, rfl, rfl, rfl⟩ := in4 h
      exact fun H locs ls hP hD hS hl => W.wide (by omega) (by omega) (k1 ad1 ha he rfl H locs ls hP hD hS hl)
set_option maxRecDepth 100000 in
set_option maxHeartbeats 4000000 in
theorem b_La_law_112b (l : Launch) (z : Zz) (E0 : Ev) (ad0 : Nat → Nat) (ad : Nat → Nat) (E : Ev) (M : Mm) (q1 : Nat) (q3 : Nat) (x4 : Int) (x5 : Int) (t : Nat) (w4 : Int) (w5 : Int) (F : Ev) (N : Mm) {Q : State → Prop} {p : Program} {e : Env} {s : State} {m : MethodId} {below : List Frame} {meth : Method} {c : Code} {A : Nat → Prop} (hx : p.tables.exec = Jvm.exec) (hb : c.code = code) (hml : c.maxLocals = 6) (hts : ∀ w ∈ WG, w.before #[Value.ref b] s = true) (hown : s.vm.findClass "BallothallLaw" = some m.cls) (hlocks : meth.locks = false) (hA : ∀ q, s.heap.size ≤ q → A q) (hG : KG z s) (hZ : FZ z A s) {b L : Nat} {xs : Nat → Int32} (hX : va_X b L xs s s.heap) (hbl : b < s.heap.size) (hbA : ¬ A b) (mc ms c0 s0 c1 s1 : Nat) (hc : c0 + 6 ≤ c1) (hs : s0 + 264 ≤ s1) (hm : c1 ≤ mc ∧ mc = 600130) (hm2 : s1 ≤ ms ∧ ms = 7301080) (hag0 : ∀ i, i < nE E0 → ad i = ad0 i) (hE0 : nE E0 ≤ nE E) (h : La_law_112b L xs E M q1 q3 x4 x5 = some (t, w4, w5, F, N)) (k0 : ∀ (ad1 : Nat → Nat), (∀ i, i < nE E0 → ad1 i = ad0 i) → nE E0 ≤ nE F → t = 0 → ∀ (H : Heap) (locs : List Loc) (ls : Array Slot), va_P z.1 classes (wv z ad1 F N) H → va_D A (wv z ad1 F N) → va_S A s.heap H locs → lv_has ls 6 [(1, .ref (ad1 q1)), (2, .ref (ad1 1)), (3, .ref (ad1 q3)), (4, .int (oI w4)), (5, .int (oI w5))] → W p l e room_1 s m #[Value.ref b] below meth c H locs c1 s1 Q (F0 m 112 ls [])) (k1 : ∀ (ad1 : Nat → Nat), (∀ i, i < nE E0 → ad1 i = ad0 i) → nE E0 ≤ nE F → t = 1 → ∀ (H : Heap) (locs : List Loc) (ls : Array Slot), va_P z.1 classes (wv z ad1 F N) H → va_D A (wv z ad1 F N) → va_S A s.heap H locs → lv_has ls 6 [(1, .ref (ad1 q1)), (2, .ref (ad1 1)), (3, .ref (ad1 q3)), (4, .int (oI w4))] → W p l e room_1 s m #[Value.ref b] below meth c H locs c1 s1 Q (F0 m 136 ls [])) : ∀ (H : Heap) (locs : List Loc) (ls : Array Slot), va_P z.1 classes (wv z ad E M) H → va_D A (wv z ad E M) → va_S A s.heap H locs → lv_has ls 6 [(1, .ref (ad q1)), (2, .ref (ad 1)), (3, .ref (ad q3)), (4, .int (oI x4)), (5, .int (oI x5))] → W p l e room_1 s m #[Value.ref b] below meth c H locs c0 s0 Q (F0 m 112 ls []) := by
  intro H locs ls hP hD hS hl
  unfold La_law_112b at h
  obtain ⟨hL, h⟩ := ck_e h
  obtain ⟨h_q1, h⟩ := ck_e h
  obtain ⟨h_q3, h⟩ := ck_e h
  refine lv_iload hx hb d_law_112 (lv_at hl 4 rfl) ?_
  obtain ⟨ok19, h⟩ := ck_e h
  refine lv_if_le (tgt := 136) hx hb d_law_114 (by decide) (fun c9 => ?_) (fun c9 => ?_)
  · have h := ite_t ((oI_le0 ok19).mp c9) h
    obtain ⟨rfl, rfl, rfl, rfl, rfl⟩ := in5 h
    exact W.wide (by omega) (by omega) (k1 ad hag0 hE0 rfl H locs ls hP hD hS (lv_sub hl [0, 1, 2, 3] rfl))
  · have h := ite_f (fun q => c9 ((oI_le0 ok19).mpr q)) h
    refine lv_iload hx hb d_law_117 (lv_at hl 3 rfl) ?_
    obtain ⟨ok20, h⟩ := ck_e h
    refine lv_if_eq (tgt := 136) hx hb d_law_119 (by decide) (fun c9 => ?_) (fun c9 => ?_)
    · have h := ite_t ((oI_eq0 ok20).mp c9) h
      obtain ⟨rfl, rfl, rfl, rfl, rfl⟩ := in5 h
      exact W.wide (by omega) (by omega) (k1 ad hag0 hE0 rfl H locs ls hP hD hS (lv_sub hl [0, 1, 2, 3] rfl))
    · have h := ite_f (fun q => c9 ((oI_eq0 ok20).mpr q)) h
      refine lv_aload_n hx hb d_law_122 rfl (lv_at hl 1 rfl) ?_
      refine lv_aload_n hx hb d_law_123 rfl (lv_at hl 2 rfl) ?_
      refine lv_aload_n hx hb d_law_124 rfl (lv_at hl 0 rfl) ?_
      obtain ⟨⟨r21, E21, M21⟩, g21, h⟩ := bd_e h
      obtain ⟨hgw21, h⟩ := ck_e h
      refine kS (As := [.ref (ad 1), .ref (ad q3), .ref (ad q1)]) (rest := []) (s_La_ballots l z ad E M q3 q1 r21 E21 M21 g21) hx hb hml hown hts w_801 w_799 w_800 w_0 md_6f4f77 ⟨Nat.le_of_ble_eq_true rfl, Nat.le_of_ble_eq_true rfl⟩ hG hZ hP hD hS hA rfl hl.1 rfl (Nat.le_of_ble_eq_true rfl) d_law_125 ⟨(show _ ≤ 600130 by omega), (show _ ≤ 7301080 by omega)⟩ (fun u21 H locs hP hD hS => ?_)
      obtain ⟨ad21, had21⟩ : ∃ q, q = adj E ad u21 := ⟨_, rfl⟩
      have hP : va_P z.1 classes (wv z ad21 E21 M21) H := by rw [had21]; exact hP
      have hD : va_D A (wv z ad21 E21 M21) := by rw [had21]; exact hD
      have hag21 : ∀ i, i < nE E → ad21 i = ad i := fun i hi => by rw [had21]; exact adj_lt hi
      have hl : lv_has ls 6 [(1, .ref (ad21 q1)), (2, .ref (ad21 1)), (3, .ref (ad21 q3)), (4, .int (oI x4)), (5, .int (oI x5))] := by rw [hag21 q1 h_q1.1, hag21 1 (yi_1 hL), hag21 q3 h_q3.1]; exact hl
      refine W.eq (g2 := F0 m 128 ls (.int (oI r21) :: [])) (by rfl) ?_
      have hag0 : ∀ i, i < nE E0 → ad21 i = ad0 i := fun i hi => (hag21 i (Nat.lt_of_lt_of_le hi hE0)).trans (hag0 i hi)
      have hE0 : nE E0 ≤ nE E21 := Nat.le_trans hE0 hgw21.1
      obtain ⟨hL, h⟩ := ck_e h
      have h_q1 : isIA E21 q1 := isA_up hgw21 h_q1
      have h_q3 : isO 12 E21 q3 := isO_up hgw21 h_q3
      refine lv_istore (lv' := [(4, .int (oI r21)), (1, .ref (ad21 q1)), (2, .ref (ad21 1)), (3, .ref (ad21 q3)), (5, .int (oI x5))]) hx hb d_law_128 hl (by decide) rfl (fun ls hl => ?_)
      refine lv_iinc (v := oI (x5 + (-1))) (lv' := [(5, .int (oI (x5 + (-1)))), (4, .int (oI r21)), (1, .ref (ad21 q1)), (2, .ref (ad21 1)), (3, .ref (ad21 q3))]) hx hb d_law_130 hl (k := 4) rfl (oI_add x5 (-1)) (by decide) rfl (fun ls hl => ?_)
      refine lv_goto (tgt := 112) hx hb d_law_133 (by decide) ?_
      obtain ⟨rfl, rfl, rfl, rfl, rfl⟩ := in5 h
      exact W.wide (by omega) (by omega) (k0 ad21 hag0 hE0 rfl H locs ls hP hD hS (lv_sub hl [2, 3, 4, 1, 0] rfl))
set_option maxRecDepth 100000 in
set_option maxHeartbeats 4000000 in
theorem s_La_law_112 (l : Launch) (z : Zz) (E0 : Ev) (ad0 : Nat → Nat) (q1 : Nat) (q3 : Nat) {Q : State → Prop} {p : Program} {e : Env} {s : State} {m : MethodId} {below : List Frame} {meth : Method} {c : Code} {A : Nat → Prop} (hx : p.tables.exec = Jvm.exec) (hb : c.code = code) (hml : c.maxLocals = 6) (hts : ∀ w ∈ WG, w.before #[Value.ref b] s = true) (hown : s.vm.findClass "BallothallLaw" = some m.cls) (hlocks : meth.locks = false) (hA : ∀ q, s.heap.size ≤ q → A q) (hG : KG z s) (hZ : FZ z A s) {b L : Nat} {xs : Nat → Int32} (hX : va_X b L xs s s.heap) (hbl : b < s.heap.size) (hbA : ¬ A b) (mc ms c1 s1 : Nat) (hm : c1 ≤ mc ∧ mc = 600130) (hm2 : s1 ≤ ms ∧ ms = 7301080) : ∀ (fu c0 s0 : Nat) (ad : Nat → Nat) (E : Ev) (M : Mm) (x4 : Int) (x5 : Int) (t : Nat) (w4 : Int) (w5 : Int) (F : Ev) (N : Mm), c0 + fu * 6 ≤ c1 → s0 + fu * 264 ≤ s1 → (∀ i, i < nE E0 → ad i = ad0 i) → nE E0 ≤ nE E → l_La_law_112 L xs q1 q3 fu E M x4 x5 = some (t, w4, w5, F, N) → (∀ (ad1 : Nat → Nat), (∀ i, i < nE E0 → ad1 i = ad0 i) → nE E0 ≤ nE F → t = 1 → ∀ (H : Heap) (locs : List Loc) (ls : Array Slot), va_P z.1 classes (wv z ad1 F N) H → va_D A (wv z ad1 F N) → va_S A s.heap H locs → lv_has ls 6 [(1, .ref (ad1 q1)), (2, .ref (ad1 1)), (3, .ref (ad1 q3)), (4, .int (oI w4))] → W p l e room_1 s m #[Value.ref b] below meth c H locs c1 s1 Q (F0 m 136 ls [])) → ∀ (H : Heap) (locs : List Loc) (ls : Array Slot), va_P z.1 classes (wv z ad E M) H → va_D A (wv z ad E M) → va_S A s.heap H locs → lv_has ls 6 [(1, .ref (ad q1)), (2, .ref (ad 1)), (3, .ref (ad q3)), (4, .int (oI x4)), (5, .int (oI x5))] → W p l e room_1 s m #[Value.ref b] below meth c H locs c0 s0 Q (F0 m 112 ls []) := by
  intro fu
  induction fu with
  | zero =>
    intro c0 s0 ad E M x4 x5 t w4 w5 F N hc hs hag0 hE0 h
    have h : (none : Option (Nat × Int × Int × Ev × Mm)) = some _ := h
    cases h
  | succ fu ih =>
    intro c0 s0 ad E M x4 x5 t w4 w5 F N hc hs hag0 hE0 h k1 H locs ls hP hD hS hl
    obtain ⟨⟨t0, w40, w50, F9, N9⟩, g0, h⟩ := bd_e h
    refine W.wide (Nat.le_refl _) (Nat.le_refl _) (b_La_law_112b l z E0 ad0 ad E M q1 q3 x4 x5 t0 w40 w50 F9 N9 hx hb hml hts hown hlocks hA hG hZ hX hbl hbA mc ms c0 s0 (c0 + 6) (s0 + 264) (Nat.le_refl _) (Nat.le_refl _) (by omega) (by omega) hag0 hE0 g0 (fun ad1 ha he e0 => ?_) (fun ad1 ha he e0 => ?_) H locs ls hP hD hS hl)
    · subst e0
      have h := ite_t rfl h
      exact ih (c0 + 6) (s0 + 264) ad1 F9 N9 w40 w50 t w4 w5 F N (by omega) (by omega) ha he h k1
    · subst e0
      have h := ite_f (by decide) h
      obtain ⟨rfl, rfl, rfl, rfl, rfl⟩ := in5 h
      exact fun H locs ls hP hD hS hl => W.wide (by omega) (by omega) (k1 ad1 ha he rfl H locs ls hP hD hS hl)
set_option maxRecDepth 100000 in
set_option maxHeartbeats 4000000 in
theorem b_La_law_j211 (l : Launch) (z : Zz) (E0 : Ev) (ad0 : Nat → Nat) (ad : Nat → Nat) (E : Ev) (M : Mm) (q1 : Nat) (y0 : Int) (r : Int) (hr1 : r = 1)  {p : Program} {e : Env} {s : State} {m : MethodId} {below : List Frame} {meth : Method} {c : Code} {A : Nat → Prop} (hx : p.tables.exec = Jvm.exec) (hb : c.code = code) (hml : c.maxLocals = 6) (hts : ∀ w ∈ WG, w.before #[Value.ref b] s = true) (hown : s.vm.findClass "BallothallLaw" = some m.cls) (hlocks : meth.locks = false) (hA : ∀ q, s.heap.size ≤ q → A q) (hG : KG z s) (hZ : FZ z A s) {b L : Nat} {xs : Nat → Int32} (hX : va_X b L xs s s.heap) (hbl : b < s.heap.size) (hbA : ¬ A b) (hr : meth.sig.returnType = ret) (mc ms c0 s0 c1 s1 : Nat) (hc : c0 + 1187 ≤ c1) (hs : s0 + 31381 ≤ s1) (hm : c1 ≤ mc ∧ mc = 600130) (hm2 : s1 ≤ ms ∧ ms = 7301080) (hag0 : ∀ i, i < nE E0 → ad i = ad0 i) (hE0 : nE E0 ≤ nE E) (h : La_law_j211 L xs E M q1 y0 = some r) : ∀ (H : Heap) (locs : List Loc) (ls : Array Slot), va_P z.1 classes (wv z ad E M) H → va_D A (wv z ad E M) → va_S A s.heap H locs → lv_has ls 6 [(1, .ref (ad q1))] → W p l e room_1 s m #[Value.ref b] below meth c H locs c0 s0 (lw_Z below #[Value.ref b] s) (F0 m 211 ls [.int (oI y0)]) := by
  intro H locs ls hP hD hS hl
  unfold La_law_j211 at h
  obtain ⟨hL, h⟩ := ck_e h
  obtain ⟨h_q1, h⟩ := ck_e h
  refine lv_istore (lv' := [(4, .int (oI y0)), (1, .ref (ad q1))]) hx hb d_law_211 hl (by decide) rfl (fun ls hl => ?_)
  refine lv_iload hx hb d_law_213 (lv_at hl 0 rfl) ?_
  obtain ⟨ok27, h⟩ := ck_e h
  refine lv_if_eq (tgt := 243) hx hb d_law_215 (by decide) (fun c9 => ?_) (fun c9 => ?_)
  · have h := ite_t ((oI_eq0 ok27).mp c9) h
    refine lv_iconst (v := oI 0) hx hb d_law_243 (by decide +kernel) ?_
    have h := Option.some.inj h
    exact absurd (h.trans hr1) (by decide)
  · have h := ite_f (fun q => c9 ((oI_eq0 ok27).mpr q)) h
    refine lv_aload_n hx hb d_law_218 rfl (lv_at hl 1 rfl) ?_
    obtain ⟨ok29, h⟩ := ck_e h
    have hT9 : tE E 0 = (0, 1) := Prod.ext (by have := h_q1.2; rw [ok29.1] at this; exact this) ok29.2
    have hi9 : 0 < nE E := by have := h_q1.1; rw [ok29.1] at this; exact this
    have hP : va_P z.1 classes (wv z ad eOne M) H := wv_cutP hi9 hT9 hP
    have hD : va_D A (wv z ad eOne M) := wv_cutD hi9 hT9 hD
    have h_q1 : isIA eOne q1 := by rw [ok29.1]; exact ⟨Nat.zero_lt_one, rfl⟩
    have hl : lv_has ls 6 [(4, .int (oI y0)), (1, .ref (ad q1))] := lv_sub hl [0, 1] rfl
    obtain ⟨⟨r28, E28, M28⟩, g28, h⟩ := bd_e h
    obtain ⟨hgw28, h⟩ := ck_e h
    refine kS (As := [.ref (ad q1)]) (rest := []) (s_La_seats l z ad eOne M q1 r28 E28 M28 g28) hx hb hml hown hts w_1506 w_1504 w_1505 w_0 md_3dc001 ⟨Nat.le_of_ble_eq_true rfl, Nat.le_of_ble_eq_true rfl⟩ hG hZ hP hD hS hA rfl hl.1 rfl (Nat.le_of_ble_eq_true rfl) d_law_219 ⟨(show _ ≤ 600130 by omega), (show _ ≤ 7301080 by omega)⟩ (fun u28 H locs hP hD hS => ?_)
    obtain ⟨ad28, had28⟩ : ∃ q, q = adj eOne ad u28 := ⟨_, rfl⟩
    have hP : va_P z.1 classes (wv z ad28 E28 M28) H := by rw [had28]; exact hP
    have hD : va_D A (wv z ad28 E28 M28) := by rw [had28]; exact hD
    have hag28 : ∀ i, i < nE eOne → ad28 i = ad i := fun i hi => by rw [had28]; exact adj_lt hi
    have hl : lv_has ls 6 [(4, .int (oI y0)), (1, .ref (ad28 q1))] := by rw [hag28 q1 h_q1.1]; exact hl
    refine W.eq (g2 := F0 m 222 ls (.int (oI r28) :: [])) (by rfl) ?_
    have h_q1 : isIA E28 q1 := isA_up hgw28 h_q1
    obtain ⟨ok30, h⟩ := ck_e h
    refine lv_if_eq (tgt := 243) hx hb d_law_222 (by decide) (fun c9 => ?_) (fun c9 => ?_)
    · have h := ite_t ((oI_eq0 ok30).mp c9) h
      refine lv_iconst (v := oI 0) hx hb d_law_243 (by decide +kernel) ?_
      have h := Option.some.inj h
      exact absurd (h.trans hr1) (by decide)
    · have h := ite_f (fun q => c9 ((oI_eq0 ok30).mpr q)) h
      refine lv_aload_n hx hb d_law_225 rfl (lv_at hl 1 rfl) ?_
      obtain ⟨ok32, h⟩ := ck_e h
      have hT9 : tE E28 0 = (0, 1) := Prod.ext (by have := h_q1.2; rw [ok32.1] at this; exact this) ok32.2
      have hi9 : 0 < nE E28 := by have := h_q1.1; rw [ok32.1] at this; exact this
      have hP : va_P z.1 classes (wv z ad28 eOne M28) H := wv_cutP hi9 hT9 hP
      have hD : va_D A (wv z ad28 eOne M28) := wv_cutD hi9 hT9 hD
      have h_q1 : isIA eOne q1 := by rw [ok32.1]; exact ⟨Nat.zero_lt_one, rfl⟩
      have hl : lv_has ls 6 [(4, .int (oI y0)), (1, .ref (ad28 q1))] := lv_sub hl [0, 1] rfl
      obtain ⟨⟨r31, E31, M31⟩, g31, h⟩ := bd_e h
      obtain ⟨hgw31, h⟩ := ck_e h
      refine kS (As := [.ref (ad28 q1)]) (rest := []) (s_La_districts l z ad28 eOne M28 q1 r31 E31 M31 g31) hx hb hml hown hts w_1605 w_1603 w_1604 w_0 md_66c04b ⟨Nat.le_of_ble_eq_true rfl, Nat.le_of_ble_eq_true rfl⟩ hG hZ hP hD hS hA rfl hl.1 rfl (Nat.le_of_ble_eq_true rfl) d_law_226 ⟨(show _ ≤ 600130 by omega), (show _ ≤ 7301080 by omega)⟩ (fun u31 H locs hP hD hS => ?_)
      obtain ⟨ad31, had31⟩ : ∃ q, q = adj eOne ad28 u31 := ⟨_, rfl⟩
      have hP : va_P z.1 classes (wv z ad31 E31 M31) H := by rw [had31]; exact hP
      have hD : va_D A (wv z ad31 E31 M31) := by rw [had31]; exact hD
      have hag31 : ∀ i, i < nE eOne → ad31 i = ad28 i := fun i hi => by rw [had31]; exact adj_lt hi
      have hl : lv_has ls 6 [(4, .int (oI y0)), (1, .ref (ad31 q1))] := by rw [hag31 q1 h_q1.1]; exact hl
      refine W.eq (g2 := F0 m 229 ls (.int (oI r31) :: [])) (by rfl) ?_
      have h_q1 : isIA E31 q1 := isA_up hgw31 h_q1
      obtain ⟨ok33, h⟩ := ck_e h
      refine lv_if_eq (tgt := 243) hx hb d_law_229 (by decide) (fun c9 => ?_) (fun c9 => ?_)
      · have h := ite_t ((oI_eq0 ok33).mp c9) h
        refine lv_iconst (v := oI 0) hx hb d_law_243 (by decide +kernel) ?_
        have h := Option.some.inj h
        exact absurd (h.trans hr1) (by decide)
      · have h := ite_f (fun q => c9 ((oI_eq0 ok33).mpr q)) h
        refine lv_aload_n hx hb d_law_232 rfl (lv_at hl 1 rfl) ?_
        obtain ⟨ok35, h⟩ := ck_e h
        have hT9 : tE E31 0 = (0, 1) := Prod.ext (by have := h_q1.2; rw [ok35.1] at this; exact this) ok35.2
        have hi9 : 0 < nE E31 := by have := h_q1.1; rw [ok35.1] at this; exact this
        have hP : va_P z.1 classes (wv z ad31 eOne M31) H := wv_cutP hi9 hT9 hP
        have hD : va_D A (wv z ad31 eOne M31) := wv_cutD hi9 hT9 hD
        have h_q1 : isIA eOne q1 := by rw [ok35.1]; exact ⟨Nat.zero_lt_one, rfl⟩
        have hl : lv_has ls 6 [(4, .int (oI y0)), (1, .ref (ad31 q1))] := lv_sub hl [0, 1] rfl
        obtain ⟨⟨r34, E34, M34⟩, g34, h⟩ := bd_e h
        obtain ⟨hgw34, h⟩ := ck_e h
        refine kS (As := [.ref (ad31 q1)]) (rest := []) (s_La_council l z ad31 eOne M31 q1 r34 E34 M34 g34) hx hb hml hown hts w_1655 w_1653 w_1654 w_0 md_21fd83 ⟨Nat.le_of_ble_eq_true rfl, Nat.le_of_ble_eq_true rfl⟩ hG hZ hP hD hS hA rfl hl.1 rfl (Nat.le_of_ble_eq_true rfl) d_law_233 ⟨(show _ ≤ 600130 by omega), (show _ ≤ 7301080 by omega)⟩ (fun u34 H locs hP hD hS => ?_)
        obtain ⟨ad34, had34⟩ : ∃ q, q = adj eOne ad31 u34 := ⟨_, rfl⟩
        have hP : va_P z.1 classes (wv z ad34 E34 M34) H := by rw [had34]; exact hP
        have hD : va_D A (wv z ad34 E34 M34) := by rw [had34]; exact hD
        have hag34 : ∀ i, i < nE eOne → ad34 i = ad31 i := fun i hi => by rw [had34]; exact adj_lt hi
        have hl : lv_has ls 6 [(4, .int (oI y0)), (1, .ref (ad34 q1))] := by rw [hag34 q1 h_q1.1]; exact hl
        refine W.eq (g2 := F0 m 236 ls (.int (oI r34) :: [])) (by rfl) ?_
        have h_q1 : isIA E34 q1 := isA_up hgw34 h_q1
        obtain ⟨ok36, h⟩ := ck_e h
        refine lv_if_eq (tgt := 243) hx hb d_law_236 (by decide) (fun c9 => ?_) (fun c9 => ?_)
        · have h := ite_t ((oI_eq0 ok36).mp c9) h
          refine lv_iconst (v := oI 0) hx hb d_law_243 (by decide +kernel) ?_
          have h := Option.some.inj h
          exact absurd (h.trans hr1) (by decide)
        · have h := ite_f (fun q => c9 ((oI_eq0 ok36).mpr q)) h
          refine lv_iconst (v := oI 1) hx hb d_law_239 (by decide +kernel) ?_
          refine lv_goto (tgt := 244) hx hb d_law_240 (by decide) ?_
          refine va_forget (fun q hq => hS.2.2 q hq) ?_
          refine W.widen (k := 600130) (n := 7301080) (by omega) (by omega) ?_
          exact lw_ret hx hb hr hlocks d_law_244
set_option maxRecDepth 100000 in
set_option maxHeartbeats 4000000 in
theorem b_La_law_j136 (l : Launch) (z : Zz) (E0 : Ev) (ad0 : Nat → Nat) (ad : Nat → Nat) (E : Ev) (M : Mm) (q1 : Nat) (q3 : Nat) (x4 : Int) (r : Int) (hr1 : r = 1)  {p : Program} {e : Env} {s : State} {m : MethodId} {below : List Frame} {meth : Method} {c : Code} {A : Nat → Prop} (hx : p.tables.exec = Jvm.exec) (hb : c.code = code) (hml : c.maxLocals = 6) (hts : ∀ w ∈ WG, w.before #[Value.ref b] s = true) (hown : s.vm.findClass "BallothallLaw" = some m.cls) (hlocks : meth.locks = false) (hA : ∀ q, s.heap.size ≤ q → A q) (hG : KG z s) (hZ : FZ z A s) {b L : Nat} {xs : Nat → Int32} (hX : va_X b L xs s s.heap) (hbl : b < s.heap.size) (hbA : ¬ A b) (hr : meth.sig.returnType = ret) (mc ms c0 s0 c1 s1 : Nat) (hc : c0 + 3253 ≤ c1) (hs : s0 + 48170 ≤ s1) (hm : c1 ≤ mc ∧ mc = 600130) (hm2 : s1 ≤ ms ∧ ms = 7301080) (hag0 : ∀ i, i < nE E0 → ad i = ad0 i) (hE0 : nE E0 ≤ nE E) (h : La_law_j136 L xs E M q1 q3 x4 = some r) : ∀ (H : Heap) (locs : List Loc) (ls : Array Slot), va_P z.1 classes (wv z ad E M) H → va_D A (wv z ad E M) → va_S A s.heap H locs → lv_has ls 6 [(1, .ref (ad q1)), (2, .ref (ad 1)), (3, .ref (ad q3)), (4, .int (oI x4))] → W p l e room_1 s m #[Value.ref b] below meth c H locs c0 s0 (lw_Z below #[Value.ref b] s) (F0 m 136 ls []) := by
  intro H locs ls hP hD hS hl
  unfold La_law_j136 at h
  obtain ⟨hL, h⟩ := ck_e h
  obtain ⟨h_q1, h⟩ := ck_e h
  obtain ⟨h_q3, h⟩ := ck_e h
  refine lv_aload_n hx hb d_law_136 rfl (lv_at hl 1 rfl) ?_
  refine lv_iconst (v := oI 0) hx hb d_law_137 (by decide +kernel) ?_
  refine lv_aload_n hx hb d_law_138 rfl (lv_at hl 0 rfl) ?_
  refine lv_aload_n hx hb d_law_139 rfl (lv_at hl 2 rfl) ?_
  refine m_giN (C := "BallothallLaw$Box") (T := TX12) (N := 4) (ci := 12) (k := 0) hx hb hts iX12 hown hG hP h_q3.1 h_q3.2 rfl (by decide) n_775 rfl (fun _ h9 => h9) rfl rfl d_law_140 ?_
  obtain ⟨⟨r23, M23⟩, g23, h⟩ := bd_e h
  refine kS (As := [.ref (ad q1), .int (oI (M q3 0))]) (rest := [.int (oI 0), .ref (ad 1)]) (s_La_next l z ad E M q1 (M q3 0) r23 M23 hL g23) hx hb hml hown hts w_797 w_795 w_796 w_0 md_199d8f ⟨Nat.le_of_ble_eq_true rfl, Nat.le_of_ble_eq_true rfl⟩ hG hZ hP hD hS hA rfl hl.1 rfl (Nat.le_of_ble_eq_true rfl) d_law_143 ⟨(show _ ≤ 600130 by omega), (show _ ≤ 7301080 by omega)⟩ (fun _ H locs hP hD hS => ?_)
  have hP : va_P z.1 classes (wv z ad E M23) H := hP
  have hD : va_D A (wv z ad E M23) := hD
  refine W.eq (g2 := F0 m 146 ls [.int (oI r23), .int (oI 0), .ref (ad 1)]) rfl ?_
  refine lv_aload_n hx hb d_law_146 rfl (lv_at hl 0 rfl) ?_
  refine lv_bipush (v := oI 100) hx hb d_law_147 (by decide +kernel) ?_
  obtain ⟨⟨r24, M24⟩, g24, h⟩ := bd_e h
  refine kS (As := [.ref (ad q1), .int (oI 100)]) (rest := [.int (oI r23), .int (oI 0), .ref (ad 1)]) (s_La_next l z ad E M23 q1 100 r24 M24 hL g24) hx hb hml hown hts w_797 w_795 w_796 w_0 md_199d8f ⟨Nat.le_of_ble_eq_true rfl, Nat.le_of_ble_eq_true rfl⟩ hG hZ hP hD hS hA rfl hl.1 rfl (Nat.le_of_ble_eq_true rfl) d_law_149 ⟨(show _ ≤ 600130 by omega), (show _ ≤ 7301080 by omega)⟩ (fun _ H locs hP hD hS => ?_)
  have hP : va_P z.1 classes (wv z ad E M24) H := hP
  have hD : va_D A (wv z ad E M24) := hD
  refine W.eq (g2 := F0 m 152 ls [.int (oI r24), .int (oI r23), .int (oI 0), .ref (ad 1)]) rfl ?_
  obtain ⟨⟨r25, M25⟩, g25, h⟩ := bd_e h
  refine kV (As := [.int (oI 0), .int (oI r23), .int (oI r24)]) (rest := []) (s_B_setLot l z ad E M24 0 r23 r24 r25 M25 hL g25) hx hb hml hown hts w_526 w_523 w_524 w_525 w_1 md_7e6362 ⟨Nat.le_of_ble_eq_true rfl, Nat.le_of_ble_eq_true rfl⟩ hG hZ hP hD hS hA 1 (wv_o (ci := 11) (yi_1 hL) (yt_1 hL)) rfl rfl rfl hl.1 rfl (Nat.le_of_ble_eq_true rfl) d_law_152 ⟨(show _ ≤ 600130 by omega), (show _ ≤ 7301080 by omega)⟩ (fun _ H locs hP hD hS => ?_)
  have hP : va_P z.1 classes (wv z ad E M25) H := hP
  have hD : va_D A (wv z ad E M25) := hD
  refine W.eq (g2 := F0 m 155 ls [.int (oI r25)]) rfl ?_
  refine lv_istore (lv' := [(5, .int (oI r25)), (1, .ref (ad q1)), (2, .ref (ad 1)), (3, .ref (ad q3)), (4, .int (oI x4))]) hx hb d_law_155 hl (by decide) rfl (fun ls hl => ?_)
  refine lv_iload hx hb d_law_157 (lv_at hl 4 rfl) ?_
  obtain ⟨ok26, h⟩ := ck_e h
  refine lv_if_eq (tgt := 210) hx hb d_law_159 (by decide) (fun c9 => ?_) (fun c9 => ?_)
  · have h := ite_t ((oI_eq0 ok26).mp c9) h
    refine lv_iconst (v := oI 0) hx hb d_law_210 (by decide +kernel) ?_
    exact b_La_law_j211 l z E ad ad E M25 q1 0 r hr1 hx hb hml hts hown hlocks hA hG hZ hX hbl hbA hr mc ms _ _ c1 s1 (by omega) (by omega) hm hm2 (fun _ _ => rfl) (Nat.le_refl _) h H locs ls hP hD hS (lv_sub hl [1] rfl)
  · have h := ite_f (fun q => c9 ((oI_eq0 ok26).mpr q)) h
    refine lv_aload_n hx hb d_law_162 rfl (lv_at hl 2 rfl) ?_
    obtain ⟨r37, g37, h⟩ := bd_e h
    refine kV (As := []) (rest := []) (s_B_allBallots l z ad E M25 r37 hL g37) hx hb hml hown hts w_568 w_565 w_566 w_567 w_1 md_5369b4 ⟨Nat.le_of_ble_eq_true rfl, Nat.le_of_ble_eq_true rfl⟩ hG hZ hP hD hS hA 1 (wv_o (ci := 11) (yi_1 hL) (yt_1 hL)) rfl rfl rfl hl.1 rfl (Nat.le_of_ble_eq_true rfl) d_law_163 ⟨(show _ ≤ 600130 by omega), (show _ ≤ 7301080 by omega)⟩ (fun _ H locs hP hD hS => ?_)
    have hP : va_P z.1 classes (wv z ad E M25) H := hP
    have hD : va_D A (wv z ad E M25) := hD
    refine W.eq (g2 := F0 m 166 ls [.int (oI r37)]) rfl ?_
    refine lv_aload_n hx hb d_law_166 rfl (lv_at hl 3 rfl) ?_
    obtain ⟨r38, g38, h⟩ := bd_e h
    refine kV (As := []) (rest := [.int (oI r37)]) (s_Lb_all l z ad E M25 q3 r38 hL g38) hx hb hml hown hts w_794 w_791 w_792 w_793 w_12 md_dbe0d3 ⟨Nat.le_of_ble_eq_true rfl, Nat.le_of_ble_eq_true rfl⟩ hG hZ hP hD hS hA q3 (wv_o (ci := 12) h_q3.1 h_q3.2) rfl rfl rfl hl.1 rfl (Nat.le_of_ble_eq_true rfl) d_law_167 ⟨(show _ ≤ 600130 by omega), (show _ ≤ 7301080 by omega)⟩ (fun _ H locs hP hD hS => ?_)
    have hP : va_P z.1 classes (wv z ad E M25) H := hP
    have hD : va_D A (wv z ad E M25) := hD
    refine W.eq (g2 := F0 m 170 ls [.int (oI r38), .int (oI r37)]) rfl ?_
    obtain ⟨ok39, h⟩ := ck_e h
    obtain ⟨ok40, h⟩ := ck_e h
    refine lv_icmp_ne (tgt := 210) hx hb d_law_170 (by decide) (fun c9 => ?_) (fun c9 => ?_)
    · have h := ite_f (fun q => c9 ((oI_eq (a := r37) (b := r38) ok39 ok40).mpr q)) h
      refine lv_iconst (v := oI 0) hx hb d_law_210 (by decide +kernel) ?_
      exact b_La_law_j211 l z E ad ad E M25 q1 0 r hr1 hx hb hml hts hown hlocks hA hG hZ hX hbl hbA hr mc ms _ _ c1 s1 (by omega) (by omega) hm hm2 (fun _ _ => rfl) (Nat.le_refl _) h H locs ls hP hD hS (lv_sub hl [1] rfl)
    · have h := ite_t ((oI_eq (a := r37) (b := r38) ok39 ok40).mp c9) h
      refine lv_aload_n hx hb d_law_173 rfl (lv_at hl 2 rfl) ?_
      refine lv_aload_n hx hb d_law_174 rfl (lv_at hl 3 rfl) ?_
      refine lv_aload_n hx hb d_law_175 rfl (lv_at hl 1 rfl) ?_
      obtain ⟨⟨r41, E41, M41⟩, g41, h⟩ := bd_e h
      obtain ⟨hgw41, h⟩ := ck_e h
      refine kS (As := [.ref (ad 1), .ref (ad q3), .ref (ad q1)]) (rest := []) (s_La_transferable l z ad E M25 q3 q1 r41 E41 M41 g41) hx hb hml hown hts w_1065 w_1063 w_1064 w_0 md_552285 ⟨Nat.le_of_ble_eq_true rfl, Nat.le_of_ble_eq_true rfl⟩ hG hZ hP hD hS hA rfl hl.1 rfl (Nat.le_of_ble_eq_true rfl) d_law_176 ⟨(show _ ≤ 600130 by omega), (show _ ≤ 7301080 by omega)⟩ (fun u41 H locs hP hD hS => ?_)
      obtain ⟨ad41, had41⟩ : ∃ q, q = adj E ad u41 := ⟨_, rfl⟩
      have hP : va_P z.1 classes (wv z ad41 E41 M41) H := by rw [had41]; exact hP
      have hD : va_D A (wv z ad41 E41 M41) := by rw [had41]; exact hD
      have hag41 : ∀ i, i < nE E → ad41 i = ad i := fun i hi => by rw [had41]; exact adj_lt hi
      have hl : lv_has ls 6 [(5, .int (oI r25)), (1, .ref (ad41 q1)), (2, .ref (ad41 1)), (3, .ref (ad41 q3)), (4, .int (oI x4))] := by rw [hag41 q1 h_q1.1, hag41 1 (yi_1 hL), hag41 q3 h_q3.1]; exact hl
      refine W.eq (g2 := F0 m 179 ls (.int (oI r41) :: [])) (by rfl) ?_
      have hag0 : ∀ i, i < nE E0 → ad41 i = ad0 i := fun i hi => (hag41 i (Nat.lt_of_lt_of_le hi hE0)).trans (hag0 i hi)
      have hE0 : nE E0 ≤ nE E41 := Nat.le_trans hE0 hgw41.1
      obtain ⟨hL, h⟩ := ck_e h
      have h_q1 : isIA E41 q1 := isA_up hgw41 h_q1
      have h_q3 : isO 12 E41 q3 := isO_up hgw41 h_q3
      obtain ⟨ok42, h⟩ := ck_e h
      refine lv_if_eq (tgt := 210) hx hb d_law_179 (by decide) (fun c9 => ?_) (fun c9 => ?_)
      · have h := ite_t ((oI_eq0 ok42).mp c9) h
        refine lv_iconst (v := oI 0) hx hb d_law_210 (by decide +kernel) ?_
        exact b_La_law_j211 l z E41 ad41 ad41 E41 M41 q1 0 r hr1 hx hb hml hts hown hlocks hA hG hZ hX hbl hbA hr mc ms _ _ c1 s1 (by omega) (by omega) hm hm2 (fun _ _ => rfl) (Nat.le_refl _) h H locs ls hP hD hS (lv_sub hl [1] rfl)
      · have h := ite_f (fun q => c9 ((oI_eq0 ok42).mpr q)) h
        refine lv_aload_n hx hb d_law_182 rfl (lv_at hl 2 rfl) ?_
        refine lv_aload_n hx hb d_law_183 rfl (lv_at hl 3 rfl) ?_
        obtain ⟨⟨r43, E43, M43⟩, g43, h⟩ := bd_e h
        obtain ⟨hgw43, h⟩ := ck_e h
        refine kS (As := [.ref (ad41 1), .ref (ad41 q3)]) (rest := []) (s_La_pairs l z ad41 E41 M41 q3 r43 E43 M43 g43) hx hb hml hown hts w_1299 w_1297 w_1298 w_0 md_02852a ⟨Nat.le_of_ble_eq_true rfl, Nat.le_of_ble_eq_true rfl⟩ hG hZ hP hD hS hA rfl hl.1 rfl (Nat.le_of_ble_eq_true rfl) d_law_184 ⟨(show _ ≤ 600130 by omega), (show _ ≤ 7301080 by omega)⟩ (fun u43 H locs hP hD hS => ?_)
        obtain ⟨ad43, had43⟩ : ∃ q, q = adj E41 ad41 u43 := ⟨_, rfl⟩
        have hP : va_P z.1 classes (wv z ad43 E43 M43) H := by rw [had43]; exact hP
        have hD : va_D A (wv z ad43 E43 M43) := by rw [had43]; exact hD
        have hag43 : ∀ i, i < nE E41 → ad43 i = ad41 i := fun i hi => by rw [had43]; exact adj_lt hi
        have hl : lv_has ls 6 [(5, .int (oI r25)), (1, .ref (ad43 q1)), (2, .ref (ad43 1)), (3, .ref (ad43 q3)), (4, .int (oI x4))] := by rw [hag43 q1 h_q1.1, hag43 1 (yi_1 hL), hag43 q3 h_q3.1]; exact hl
        refine W.eq (g2 := F0 m 187 ls (.int (oI r43) :: [])) (by rfl) ?_
        have hag0 : ∀ i, i < nE E0 → ad43 i = ad0 i := fun i hi => (hag43 i (Nat.lt_of_lt_of_le hi hE0)).trans (hag0 i hi)
        have hE0 : nE E0 ≤ nE E43 := Nat.le_trans hE0 hgw43.1
        obtain ⟨hL, h⟩ := ck_e h
        have h_q1 : isIA E43 q1 := isA_up hgw43 h_q1
        have h_q3 : isO 12 E43 q3 := isO_up hgw43 h_q3
        obtain ⟨ok44, h⟩ := ck_e h
        refine lv_if_eq (tgt := 210) hx hb d_law_187 (by decide) (fun c9 => ?_) (fun c9 => ?_)
        · have h := ite_t ((oI_eq0 ok44).mp c9) h
          refine lv_iconst (v := oI 0) hx hb d_law_210 (by decide +kernel) ?_
          exact b_La_law_j211 l z E43 ad43 ad43 E43 M43 q1 0 r hr1 hx hb hml hts hown hlocks hA hG hZ hX hbl hbA hr mc ms _ _ c1 s1 (by omega) (by omega) hm hm2 (fun _ _ => rfl) (Nat.le_refl _) h H locs ls hP hD hS (lv_sub hl [1] rfl)
        · have h := ite_f (fun q => c9 ((oI_eq0 ok44).mpr q)) h
          refine lv_aload_n hx hb d_law_190 rfl (lv_at hl 2 rfl) ?_
          refine lv_aload_n hx hb d_law_191 rfl (lv_at hl 3 rfl) ?_
          refine lv_aload_n hx hb d_law_192 rfl (lv_at hl 1 rfl) ?_
          obtain ⟨⟨r45, E45, M45⟩, g45, h⟩ := bd_e h
          obtain ⟨hgw45, h⟩ := ck_e h
          refine kS (As := [.ref (ad43 1), .ref (ad43 q3), .ref (ad43 q1)]) (rest := []) (s_La_gains l z ad43 E43 M43 q3 q1 r45 E45 M45 g45) hx hb hml hown hts w_1355 w_1353 w_1354 w_0 md_f3ef4d ⟨Nat.le_of_ble_eq_true rfl, Nat.le_of_ble_eq_true rfl⟩ hG hZ hP hD hS hA rfl hl.1 rfl (Nat.le_of_ble_eq_true rfl) d_law_193 ⟨(show _ ≤ 600130 by omega), (show _ ≤ 7301080 by omega)⟩ (fun u45 H locs hP hD hS => ?_)
          obtain ⟨ad45, had45⟩ : ∃ q, q = adj E43 ad43 u45 := ⟨_, rfl⟩
          have hP : va_P z.1 classes (wv z ad45 E45 M45) H := by rw [had45]; exact hP
          have hD : va_D A (wv z ad45 E45 M45) := by rw [had45]; exact hD
          have hag45 : ∀ i, i < nE E43 → ad45 i = ad43 i := fun i hi => by rw [had45]; exact adj_lt hi
          have hl : lv_has ls 6 [(5, .int (oI r25)), (1, .ref (ad45 q1)), (2, .ref (ad45 1)), (3, .ref (ad45 q3)), (4, .int (oI x4))] := by rw [hag45 q1 h_q1.1, hag45 1 (yi_1 hL), hag45 q3 h_q3.1]; exact hl
          refine W.eq (g2 := F0 m 196 ls (.int (oI r45) :: [])) (by rfl) ?_
          have hag0 : ∀ i, i < nE E0 → ad45 i = ad0 i := fun i hi => (hag45 i (Nat.lt_of_lt_of_le hi hE0)).trans (hag0 i hi)
          have hE0 : nE E0 ≤ nE E45 := Nat.le_trans hE0 hgw45.1
          obtain ⟨hL, h⟩ := ck_e h
          have h_q1 : isIA E45 q1 := isA_up hgw45 h_q1
          have h_q3 : isO 12 E45 q3 := isO_up hgw45 h_q3
          obtain ⟨ok46, h⟩ := ck_e h
          refine lv_if_eq (tgt := 210) hx hb d_law_196 (by decide) (fun c9 => ?_) (fun c9 => ?_)
          · have h := ite_t ((oI_eq0 ok46).mp c9) h
            refine lv_iconst (v := oI 0) hx hb d_law_210 (by decide +kernel) ?_
            exact b_La_law_j211 l z E45 ad45 ad45 E45 M45 q1 0 r hr1 hx hb hml hts hown hlocks hA hG hZ hX hbl hbA hr mc ms _ _ c1 s1 (by omega) (by omega) hm hm2 (fun _ _ => rfl) (Nat.le_refl _) h H locs ls hP hD hS (lv_sub hl [1] rfl)
          · have h := ite_f (fun q => c9 ((oI_eq0 ok46).mpr q)) h
            refine lv_aload_n hx hb d_law_199 rfl (lv_at hl 2 rfl) ?_
            obtain ⟨⟨r47, M47⟩, g47, h⟩ := bd_e h
            refine kV (As := []) (rest := []) (s_B_errors l z ad45 E45 M45 r47 M47 hL g47) hx hb hml hown hts w_576 w_573 w_574 w_575 w_1 md_d65014 ⟨Nat.le_of_ble_eq_true rfl, Nat.le_of_ble_eq_true rfl⟩ hG hZ hP hD hS hA 1 (wv_o (ci := 11) (yi_1 hL) (yt_1 hL)) rfl rfl rfl hl.1 rfl (Nat.le_of_ble_eq_true rfl) d_law_200 ⟨(show _ ≤ 600130 by omega), (show _ ≤ 7301080 by omega)⟩ (fun _ H locs hP hD hS => ?_)
            have hP : va_P z.1 classes (wv z ad45 E45 M47) H := hP
            have hD : va_D A (wv z ad45 E45 M47) := hD
            refine W.eq (g2 := F0 m 203 ls [.int (oI r47)]) rfl ?_
            obtain ⟨ok48, h⟩ := ck_e h
            refine lv_if_ne (tgt := 210) hx hb d_law_203 (by decide) (fun c9 => ?_) (fun c9 => ?_)
            · have h := ite_f (fun q => c9 ((oI_eq0 ok48).mpr q)) h
              refine lv_iconst (v := oI 0) hx hb d_law_210 (by decide +kernel) ?_
              exact b_La_law_j211 l z E45 ad45 ad45 E45 M47 q1 0 r hr1 hx hb hml hts hown hlocks hA hG hZ hX hbl hbA hr mc ms _ _ c1 s1 (by omega) (by omega) hm hm2 (fun _ _ => rfl) (Nat.le_refl _) h H locs ls hP hD hS (lv_sub hl [1] rfl)
            · have h := ite_t ((oI_eq0 ok48).mp c9) h
              refine lv_iconst (v := oI 1) hx hb d_law_206 (by decide +kernel) ?_
              refine lv_goto (tgt := 211) hx hb d_law_207 (by decide) ?_
              exact b_La_law_j211 l z E45 ad45 ad45 E45 M47 q1 1 r hr1 hx hb hml hts hown hlocks hA hG hZ hX hbl hbA hr mc ms _ _ c1 s1 (by omega) (by omega) hm hm2 (fun _ _ => rfl) (Nat.le_refl _) h H locs ls hP hD hS (lv_sub hl [1] rfl)
set_option maxRecDepth 100000 in
set_option maxHeartbeats 4000000 in
theorem s_La_law (l : Launch) (z : Zz) (E0 : Ev) (ad0 : Nat → Nat) (ad : Nat → Nat) (E : Ev) (M : Mm) (r : Int) (hr1 : r = 1) {p : Program} {e : Env} {s : State} {m : MethodId} {below : List Frame} {meth : Method} {c : Code} {A : Nat → Prop} (hx : p.tables.exec = Jvm.exec) (hb : c.code = code) (hml : c.maxLocals = 6) (hts : ∀ w ∈ WG, w.before #[Value.ref b] s = true) (hown : s.vm.findClass "BallothallLaw" = some m.cls) (hlocks : meth.locks = false) (hA : ∀ q, s.heap.size ≤ q → A q) (hG : KG z s) (hZ : FZ z A s) {b L : Nat} {xs : Nat → Int32} (hX : va_X b L xs s s.heap) (hbl : b < s.heap.size) (hbA : ¬ A b) (hr : meth.sig.returnType = ret) (mc ms c0 s0 c1 s1 : Nat) (hc : c0 + 3799 ≤ c1) (hs : s0 + 66686 ≤ s1) (hm : c1 ≤ mc ∧ mc = 600130) (hm2 : s1 ≤ ms ∧ ms = 7301080) (hag0 : ∀ i, i < nE E0 → ad i = ad0 i) (hE0 : nE E0 ≤ nE E) (h : f_La_law L xs E M = some r) : ∀ (H : Heap) (locs : List Loc) (ls : Array Slot), va_P z.1 classes (wv z ad E M) H → va_D A (wv z ad E M) → va_S A s.heap H locs → lv_has ls 6 [(0, .ref b)] → W p l e room_1 s m #[Value.ref b] below meth c H locs c0 s0 (lw_Z below #[Value.ref b] s) (F0 m 0 ls []) := by
  intro H locs ls hP hD hS hl
  unfold f_La_law at h
  refine lv_iconst (v := oI 1) hx hb d_law_0 (by decide +kernel) ?_
  obtain ⟨p0, ep0, h⟩ := nb_e h
  obtain ⟨E0, eE0, h⟩ := nb_e h
  obtain ⟨M0, eM0, h⟩ := nb_e h
  refine m_newI (x := (1 : Int)) (N := 1) hx hb (by decide) (by decide) (by decide) (hts _ w_100) hG hP hD hS hA (show _ ≤ 600130 by omega) (show _ ≤ 7301080 by omega) d_law_1 (fun ad0 H hag0 hP hD hS => ?_)
  have hP : va_P z.1 classes (wv z ad0 E0 M0) H := by rw [eE0, eM0]; exact hP
  have hD : va_D A (wv z ad0 E0 M0) := by rw [eE0, eM0]; exact hD
  refine W.eq (g2 := F0 m 3 ls (.ref (ad0 p0) :: [])) (by rw [ep0] <;> rfl) ?_
  have hgw0 : Gw E E0 := by rw [eE0]; exact gw_new _ _
  have hag0 : ∀ i, i < nE E0 → ad0 i = ad0 i := fun i hi => (hag0 i (Nat.lt_of_lt_of_le hi hE0)).trans (hag0 i hi)
  have hE0 : nE E0 ≤ nE E0 := Nat.le_trans hE0 hgw0.1
  have h_p0 : isIA E0 p0 := by rw [ep0, eE0]; exact ⟨new_i _ _, by rw [new_T]⟩
  refine lv_dup hx hb d_law_3 rfl ?_
  refine lv_iconst (v := oI 0) hx hb d_law_4 (by decide +kernel) ?_
  refine lv_bipush (v := oI 13) hx hb d_law_5 (by decide +kernel) ?_
  obtain ⟨ok1, h⟩ := ck_e h
  refine m_is hx hb hG hP hD hS h_p0.1 (isIA_T h_p0) ok1 d_law_7 (fun H locs hP hD hS => ?_)
  have hP : va_P z.1 classes (wv z ad0 E0 (u2 M0 p0 0 13)) H := hP
  have hD : va_D A (wv z ad0 E0 (u2 M0 p0 0 13)) := hD
  refine lv_astore_n (lv' := [(1, .ref (ad0 p0)), (0, .ref b)]) hx hb d_law_8 rfl hl (by decide) rfl (fun ls hl => ?_)
  refine lv_iconst (v := oI 0) hx hb d_law_9 (by decide +kernel) ?_
  refine lv_istore_n (lv' := [(2, .int (oI 0)), (1, .ref (ad0 p0)), (0, .ref b)]) hx hb d_law_10 rfl hl (by decide) rfl (fun ls hl => ?_)
  obtain ⟨⟨t8, v8_2, E8, M8⟩, g8, h⟩ := bd_e h
  obtain ⟨hgw8, h⟩ := ck_e h
  obtain ⟨ok8, h⟩ := ck_e h
  refine s_La_law_11 l z E0 ad0 p0 hx hb hml hts hown hlocks hA hG hZ hX hbl hbA mc ms (c0 + 1) (s0 + 1) (by omega) (by omega) 5000 _ _ ad0 E0 (u2 M0 p0 0 13) 0 t8 v8_2 E8 M8 (by omega) (by omega) (fun _ _ => rfl) (Nat.le_refl _) g8 (fun ad8 hag8 hEE8 e8 H locs ls hP hD hS hl => ?_) H locs ls hP hD hS (lv_sub hl [2, 1, 0] rfl)
  have hag0 : ∀ i, i < nE E0 → ad8 i = ad0 i := fun i hi => (hag8 i (Nat.lt_of_lt_of_le hi hE0)).trans (hag0 i hi)
  have hE0 : nE E0 ≤ nE E8 := Nat.le_trans hE0 hgw8.1
  have h_p0 : isIA E8 p0 := isA_up hgw8 h_p0
  obtain ⟨p9, ep9, h⟩ := nb_e h
  obtain ⟨E9, eE9, h⟩ := nb_e h
  obtain ⟨M9, eM9, h⟩ := nb_e h
  refine m_newO (ci := 11) (C := "Ballothall") (T := TX11) (n := 14) hx hb hts iX11 tyX11_ok hown w_32 w_33 w_1 rfl (fun _ => fsX11) hG hP hD hS hA (show _ ≤ 600130 by omega) (show _ ≤ 7301080 by omega) d_law_52 (fun ad9 H hag9 hP hD hS => ?_)
  have hP : va_P z.1 classes (wv z ad9 E9 M9) H := by rw [eE9, eM9]; exact hP
  have hD : va_D A (wv z ad9 E9 M9) := by rw [eE9, eM9]; exact hD
  refine W.eq (g2 := F0 m 55 ls (.ref (ad9 p9) :: [])) (by rw [ep9] <;> rfl) ?_
  have hl : lv_has ls 6 [(1, .ref (ad9 p0))] := by rw [hag9 p0 h_p0.1]; exact hl
  have hgw9 : Gw E8 E9 := by rw [eE9]; exact gw_new _ _
  have hag0 : ∀ i, i < nE E0 → ad9 i = ad0 i := fun i hi => (hag9 i (Nat.lt_of_lt_of_le hi hE0)).trans (hag0 i hi)
  have hE0 : nE E0 ≤ nE E9 := Nat.le_trans hE0 hgw9.1
  have h_p0 : isIA E9 p0 := isA_up hgw9 h_p0
  have h_p9 : isO 11 E9 p9 := by rw [ep9, eE9]; exact ⟨new_i _ _, new_T _ _⟩
  refine lv_dup hx hb d_law_55 rfl ?_
  obtain ⟨⟨E10, M10⟩, g10, h⟩ := bd_e h
  obtain ⟨hgw10, h⟩ := ck_e h
  refine kI (As := []) (rest := [.ref (ad9 p9)]) (s_B_init l z ad9 E9 M9 p9 E10 M10 g10) hx hb hml hown hts w_36 w_34 w_35 rfl w_1 md_22f6df ⟨Nat.le_of_ble_eq_true rfl, Nat.le_of_ble_eq_true rfl⟩ hG hZ hP hD hS hA rfl hl.1 rfl (Nat.le_of_ble_eq_true rfl) d_law_56 ⟨(show _ ≤ 600130 by omega), (show _ ≤ 7301080 by omega)⟩ (fun u10 H locs hP hD hS => ?_)
  obtain ⟨ad10, had10⟩ : ∃ q, q = adj E9 ad9 u10 := ⟨_, rfl⟩
  have hP : va_P z.1 classes (wv z ad10 E10 M10) H := by rw [had10]; exact hP
  have hD : va_D A (wv z ad10 E10 M10) := by rw [had10]; exact hD
  have hag10 : ∀ i, i < nE E9 → ad10 i = ad9 i := fun i hi => by rw [had10]; exact adj_lt hi
  have hl : lv_has ls 6 [(1, .ref (ad10 p0))] := by rw [hag10 p0 h_p0.1]; exact hl
  refine W.eq (g2 := F0 m 59 ls [.ref (ad10 p9)]) (by rw [hag10 p9 h_p9.1] <;> rfl) ?_
  have hag0 : ∀ i, i < nE E0 → ad10 i = ad0 i := fun i hi => (hag10 i (Nat.lt_of_lt_of_le hi hE0)).trans (hag0 i hi)
  have hE0 : nE E0 ≤ nE E10 := Nat.le_trans hE0 hgw10.1
  have h_p0 : isIA E10 p0 := isA_up hgw10 h_p0
  have h_p9 : isO 11 E10 p9 := isO_up hgw10 h_p9
  obtain ⟨⟨hL, ep1⟩, h⟩ := ck_e h
  subst ep1
  refine lv_astore_n (lv' := [(2, .ref (ad10 1)), (1, .ref (ad10 p0))]) hx hb d_law_59 rfl hl (by decide) rfl (fun ls hl => ?_)
  obtain ⟨p11, ep11, h⟩ := nb_e h
  obtain ⟨E11, eE11, h⟩ := nb_e h
  obtain ⟨M11, eM11, h⟩ := nb_e h
  refine m_newO (ci := 12) (C := "BallothallLaw$Box") (T := TX12) (n := 4) hx hb hts iX12 tyX12_ok hown w_767 w_768 w_12 rfl (fun _ => fsX12) hG hP hD hS hA (show _ ≤ 600130 by omega) (show _ ≤ 7301080 by omega) d_law_60 (fun ad11 H hag11 hP hD hS => ?_)
  have hP : va_P z.1 classes (wv z ad11 E11 M11) H := by rw [eE11, eM11]; exact hP
  have hD : va_D A (wv z ad11 E11 M11) := by rw [eE11, eM11]; exact hD
  refine W.eq (g2 := F0 m 63 ls (.ref (ad11 p11) :: [])) (by rw [ep11] <;> rfl) ?_
  have hl : lv_has ls 6 [(2, .ref (ad11 1)), (1, .ref (ad11 p0))] := by rw [hag11 1 (yi_1 hL), hag11 p0 h_p0.1]; exact hl
  have hgw11 : Gw E10 E11 := by rw [eE11]; exact gw_new _ _
  have hL11 : Lay E11 := by rw [eE11]; exact lay_new hL
  have hag0 : ∀ i, i < nE E0 → ad11 i = ad0 i := fun i hi => (hag11 i (Nat.lt_of_lt_of_le hi hE0)).trans (hag0 i hi)
  have hE0 : nE E0 ≤ nE E11 := Nat.le_trans hE0 hgw11.1
  have hL : Lay E11 := hL11
  have h_p0 : isIA E11 p0 := isA_up hgw11 h_p0
  have h_p11 : isO 12 E11 p11 := by rw [ep11, eE11]; exact ⟨new_i _ _, new_T _ _⟩
  refine lv_dup hx hb d_law_63 rfl ?_
  refine lv_iconst (v := oI 2) hx hb d_law_64 (by decide +kernel) ?_
  refine lv_aload_n hx hb d_law_65 rfl (lv_at hl 1 rfl) ?_
  refine lv_iconst (v := oI 4) hx hb d_law_66 (by decide +kernel) ?_
  obtain ⟨⟨r12, M12⟩, g12, h⟩ := bd_e h
  refine kS (As := [.ref (ad11 p0), .int (oI 4)]) (rest := [.int (oI 2), .ref (ad11 p11), .ref (ad11 p11)]) (s_La_next l z ad11 E11 M11 p0 4 r12 M12 hL g12) hx hb hml hown hts w_797 w_795 w_796 w_0 md_199d8f ⟨Nat.le_of_ble_eq_true rfl, Nat.le_of_ble_eq_true rfl⟩ hG hZ hP hD hS hA rfl hl.1 rfl (Nat.le_of_ble_eq_true rfl) d_law_67 ⟨(show _ ≤ 600130 by omega), (show _ ≤ 7301080 by omega)⟩ (fun _ H locs hP hD hS => ?_)
  have hP : va_P z.1 classes (wv z ad11 E11 M12) H := hP
  have hD : va_D A (wv z ad11 E11 M12) := hD
  refine W.eq (g2 := F0 m 70 ls [.int (oI r12), .int (oI 2), .ref (ad11 p11), .ref (ad11 p11)]) rfl ?_
  refine lv_iadd hx hb d_law_70 ?_
  refine nrm (oI_add _ _) ?_
  obtain ⟨⟨E13, M13⟩, g13, h⟩ := bd_e h
  obtain ⟨hgw13, h⟩ := ck_e h
  refine kI (As := [.int (oI (2 + r12))]) (rest := [.ref (ad11 p11)]) (s_Lb_init l z ad11 E11 M12 p11 (2 + r12) E13 M13 g13) hx hb hml hown hts w_771 w_769 w_770 rfl w_12 md_1e44e2 ⟨Nat.le_of_ble_eq_true rfl, Nat.le_of_ble_eq_true rfl⟩ hG hZ hP hD hS hA rfl hl.1 rfl (Nat.le_of_ble_eq_true rfl) d_law_71 ⟨(show _ ≤ 600130 by omega), (show _ ≤ 7301080 by omega)⟩ (fun u13 H locs hP hD hS => ?_)
  obtain ⟨ad13, had13⟩ : ∃ q, q = adj E11 ad11 u13 := ⟨_, rfl⟩
  have hP : va_P z.1 classes (wv z ad13 E13 M13) H := by rw [had13]; exact hP
  have hD : va_D A (wv z ad13 E13 M13) := by rw [had13]; exact hD
  have hag13 : ∀ i, i < nE E11 → ad13 i = ad11 i := fun i hi => by rw [had13]; exact adj_lt hi
  have hl : lv_has ls 6 [(2, .ref (ad13 1)), (1, .ref (ad13 p0))] := by rw [hag13 1 (yi_1 hL), hag13 p0 h_p0.1]; exact hl
  refine W.eq (g2 := F0 m 74 ls [.ref (ad13 p11)]) (by rw [hag13 p11 h_p11.1] <;> rfl) ?_
  have hag0 : ∀ i, i < nE E0 → ad13 i = ad0 i := fun i hi => (hag13 i (Nat.lt_of_lt_of_le hi hE0)).trans (hag0 i hi)
  have hE0 : nE E0 ≤ nE E13 := Nat.le_trans hE0 hgw13.1
  obtain ⟨hL, h⟩ := ck_e h
  have h_p0 : isIA E13 p0 := isA_up hgw13 h_p0
  have h_p11 : isO 12 E13 p11 := isO_up hgw13 h_p11
  refine lv_astore_n (lv' := [(3, .ref (ad13 p11)), (2, .ref (ad13 1)), (1, .ref (ad13 p0))]) hx hb d_law_74 rfl hl (by decide) rfl (fun ls hl => ?_)
  refine lv_iconst (v := oI 0) hx hb d_law_75 (by decide +kernel) ?_
  refine lv_istore (lv' := [(4, .int (oI 0)), (3, .ref (ad13 p11)), (2, .ref (ad13 1)), (1, .ref (ad13 p0))]) hx hb d_law_76 hl (by decide) rfl (fun ls hl => ?_)
  obtain ⟨⟨t17, v17_4, E17, M17⟩, g17, h⟩ := bd_e h
  obtain ⟨hgw17, h⟩ := ck_e h
  obtain ⟨hL17, h⟩ := ck_e h
  obtain ⟨ok17, h⟩ := ck_e h
  refine s_La_law_78 l z E13 ad13 p0 p11 hx hb hml hts hown hlocks hA hG hZ hX hbl hbA mc ms (c0 + 354) (s0 + 10068) (by omega) (by omega) 5000 _ _ ad13 E13 M13 0 t17 v17_4 E17 M17 (by omega) (by omega) (fun _ _ => rfl) (Nat.le_refl _) g17 (fun ad17 hag17 hEE17 e17 H locs ls hP hD hS hl => ?_) H locs ls hP hD hS (lv_sub hl [3, 2, 1, 0] rfl)
  have hag0 : ∀ i, i < nE E0 → ad17 i = ad0 i := fun i hi => (hag17 i (Nat.lt_of_lt_of_le hi hE0)).trans (hag0 i hi)
  have hE0 : nE E0 ≤ nE E17 := Nat.le_trans hE0 hgw17.1
  have hL : Lay E17 := hL17
  have h_p0 : isIA E17 p0 := isA_up hgw17 h_p0
  have h_p11 : isO 12 E17 p11 := isO_up hgw17 h_p11
  refine lv_iconst (v := oI 1) hx hb d_law_99 (by decide +kernel) ?_
  refine lv_istore (lv' := [(4, .int (oI 1)), (1, .ref (ad17 p0)), (2, .ref (ad17 1)), (3, .ref (ad17 p11))]) hx hb d_law_100 hl (by decide) rfl (fun ls hl => ?_)
  refine lv_iconst (v := oI 2) hx hb d_law_102 (by decide +kernel) ?_
  refine lv_aload_n hx hb d_law_103 rfl (lv_at hl 1 rfl) ?_
  refine lv_bipush (v := oI 8) hx hb d_law_104 (by decide +kernel) ?_
  obtain ⟨⟨r18, M18⟩, g18, h⟩ := bd_e h
  refine kS (As := [.ref (ad17 p0), .int (oI 8)]) (rest := [.int (oI 2)]) (s_La_next l z ad17 E17 M17 p0 8 r18 M18 hL g18) hx hb hml hown hts w_797 w_795 w_796 w_0 md_199d8f ⟨Nat.le_of_ble_eq_true rfl, Nat.le_of_ble_eq_true rfl⟩ hG hZ hP hD hS hA rfl hl.1 rfl (Nat.le_of_ble_eq_true rfl) d_law_106 ⟨(show _ ≤ 600130 by omega), (show _ ≤ 7301080 by omega)⟩ (fun _ H locs hP hD hS => ?_)
  have hP : va_P z.1 classes (wv z ad17 E17 M18) H := hP
  have hD : va_D A (wv z ad17 E17 M18) := hD
  refine W.eq (g2 := F0 m 109 ls [.int (oI r18), .int (oI 2)]) rfl ?_
  refine lv_iadd hx hb d_law_109 ?_
  refine nrm (oI_add _ _) ?_
  refine lv_istore (lv' := [(5, .int (oI (2 + r18))), (4, .int (oI 1)), (1, .ref (ad17 p0)), (2, .ref (ad17 1)), (3, .ref (ad17 p11))]) hx hb d_law_110 hl (by decide) rfl (fun ls hl => ?_)
  obtain ⟨⟨t22, v22_4, v22_5, E22, M22⟩, g22, h⟩ := bd_e h
  obtain ⟨hgw22, h⟩ := ck_e h
  obtain ⟨hL22, h⟩ := ck_e h
  obtain ⟨ok22, h⟩ := ck_e h
  refine s_La_law_112 l z E17 ad17 p0 p11 hx hb hml hts hown hlocks hA hG hZ hX hbl hbA mc ms (c0 + 546) (s0 + 18516) (by omega) (by omega) 32 _ _ ad17 E17 M18 1 (2 + r18) t22 v22_4 v22_5 E22 M22 (by omega) (by omega) (fun _ _ => rfl) (Nat.le_refl _) g22 (fun ad22 hag22 hEE22 e22 H locs ls hP hD hS hl => ?_) H locs ls hP hD hS (lv_sub hl [2, 3, 4, 1, 0] rfl)
  have hag0 : ∀ i, i < nE E0 → ad22 i = ad0 i := fun i hi => (hag22 i (Nat.lt_of_lt_of_le hi hE0)).trans (hag0 i hi)
  have hE0 : nE E0 ≤ nE E22 := Nat.le_trans hE0 hgw22.1
  have hL : Lay E22 := hL22
  have h_p0 : isIA E22 p0 := isA_up hgw22 h_p0
  have h_p11 : isO 12 E22 p11 := isO_up hgw22 h_p11
  exact b_La_law_j136 l z E22 ad22 ad22 E22 M22 p0 p11 v22_4 r hr1 hx hb hml hts hown hlocks hA hG hZ hX hbl hbA hr mc ms _ _ c1 s1 (by omega) (by omega) hm hm2 (fun _ _ => rfl) (Nat.le_refl _) h H locs ls hP hD hS (lv_sub hl [0, 1, 2, 3] rfl)
