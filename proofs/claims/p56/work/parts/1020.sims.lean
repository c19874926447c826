set_option maxRecDepth 100000 in
set_option maxHeartbeats 4000000 in
theorem b_La_seats_27b (l : Launch) (z : Zz) (E0 : Ev) (ad0 : Nat → Nat) (ad : Nat → Nat) (E : Ev) (M : Mm) (q0 : Nat) (x2 : Int) (q3 : Nat) (x4 : Int) (x6 : Int) (t : Nat) (w4 : Int) (w6 : Int) (F : Ev) (N : Mm) {Q : State → Prop} {p : Program} {e : Env} {s : State} {m : MethodId} {below : List Frame} {meth : Method} {c : Code} {A : Nat → Prop} {args : Array Value} (hx : p.tables.exec = Jvm.exec) (hb : c.code = method_11_code) (hml : c.maxLocals = 20) (hts : ∀ w ∈ WG, w.before args s = true) (hown : s.vm.findClass "BallothallLaw" = some m.cls) (hlocks : meth.locks = false) (hA : ∀ q, s.heap.size ≤ q → A q) (hG : KG z s) (hZ : FZ z A s) (mc ms c0 s0 c1 s1 : Nat) (hc : c0 + 0 ≤ c1) (hs : s0 + 0 ≤ s1) (hm : c1 ≤ mc) (hm2 : s1 ≤ ms) (hag0 : ∀ i, i < nE E0 → ad i = ad0 i) (hE0 : nE E0 ≤ nE E) (h : La_seats_27b E M q0 x2 q3 x4 x6 = some (t, w4, w6, F, N)) (k0 : ∀ (ad1 : Nat → Nat), (∀ i, i < nE E0 → ad1 i = ad0 i) → nE E0 ≤ nE F → t = 0 → ∀ (H : Heap) (locs : List Loc) (ls : Array Slot), va_P z.1 classes (wv z ad1 F N) H → va_D A (wv z ad1 F N) → va_S A s.heap H locs → lv_has ls 20 [(0, .ref (ad1 q0)), (1, .ref (ad1 1)), (2, .int (oI x2)), (3, .ref (ad1 q3)), (4, .long (oJ w4)), (6, .int (oI w6))] → W p l e (rmK 7 190 mc ms) s m args below meth c H locs c1 s1 Q (F0 m 27 ls [])) (k1 : ∀ (ad1 : Nat → Nat), (∀ i, i < nE E0 → ad1 i = ad0 i) → nE E0 ≤ nE F → t = 1 → ∀ (H : Heap) (locs : List Loc) (ls : Array Slot), va_P z.1 classes (wv z ad1 F N) H → va_D A (wv z ad1 F N) → va_S A s.heap H locs → lv_has ls 20 [(0, .ref (ad1 q0)), (1, .ref (ad1 1)), (2, .int (oI x2)), (3, .ref (ad1 q3)), (4, .long (oJ w4))] → W p l e (rmK 7 190 mc ms) s m args below meth c H locs c1 s1 Q (F0 m 113 ls [])) : ∀ (H : Heap) (locs : List Loc) (ls : Array Slot), va_P z.1 classes (wv z ad E M) H → va_D A (wv z ad E M) → va_S A s.heap H locs → lv_has ls 20 [(0, .ref (ad q0)), (1, .ref (ad 1)), (2, .int (oI x2)), (3, .ref (ad q3)), (4, .long (oJ x4)), (6, .int (oI x6))] → W p l e (rmK 7 190 mc ms) s m args below meth c H locs c0 s0 Q (F0 m 27 ls []) := by
  intro H locs ls hP hD hS hl
  unfold La_seats_27b at h
  obtain ⟨hL, h⟩ := ck_e h
  obtain ⟨h_q0, h⟩ := ck_e h
  obtain ⟨h_q3, h⟩ := ck_e h
  refine lv_iload hx hb d_L11_27 (lv_at hl 5 rfl) ?_
  refine lv_iload_n hx hb d_L11_29 rfl (lv_at hl 2 rfl) ?_
  obtain ⟨ok105, h⟩ := ck_e h
  obtain ⟨ok106, h⟩ := ck_e h
  refine lv_icmp_ge (tgt := 113) hx hb d_L11_30 (by decide) (fun c9 => ?_) (fun c9 => ?_)
  · have h := ite_t ((oI_le (a := x2) (b := x6) ok106 ok105).mp c9) h
    obtain ⟨rfl, rfl, rfl, rfl, rfl⟩ := in5 h
    exact W.wide (by omega) (by omega) (k1 ad hag0 hE0 rfl H locs ls hP hD hS (lv_sub hl [0, 1, 2, 3, 4] rfl))
  · have h := ite_f (fun q => c9 ((oI_le (a := x2) (b := x6) ok106 ok105).mpr q)) h
    refine lv_aload_n hx hb d_L11_33 rfl (lv_at hl 3 rfl) ?_
    refine lv_iload hx hb d_L11_34 (lv_at hl 5 rfl) ?_
    refine lv_aload_n hx hb d_L11_36 rfl (lv_at hl 0 rfl) ?_
    refine lv_iconst (v := oI 3) hx hb d_L11_37 (by decide +kernel) ?_
    obtain ⟨⟨r107, M107⟩, g107, h⟩ := bd_e h
    refine kS (As := [.ref (ad q0), .int (oI 3)]) (rest := [.int (oI x6), .ref (ad q3)]) (s_La_next l z ad E M q0 3 r107 M107 hL g107) hx hb hml hown hts w_797 w_795 w_796 w_0 md_199d8f ⟨Nat.le_of_ble_eq_true rfl, Nat.le_of_ble_eq_true rfl⟩ hG hZ hP hD hS hA rfl hl.1 rfl (Nat.le_of_ble_eq_true rfl) d_L11_38 ⟨(show _ ≤ mc by omega), (show _ ≤ ms by omega)⟩ (fun _ H locs hP hD hS => ?_)
    have hP : va_P z.1 classes (wv z ad E M107) H := hP
    have hD : va_D A (wv z ad E M107) := hD
    refine W.eq (g2 := F0 m 41 ls [.int (oI r107), .int (oI x6), .ref (ad q3)]) rfl ?_
    obtain ⟨ok108, h⟩ := ck_e h
    refine lv_if_ne (tgt := 53) hx hb d_L11_41 (by decide) (fun c9 => ?_) (fun c9 => ?_)
    · have h := ite_f (fun q => c9 ((oI_eq0 ok108).mpr q)) h
      refine lv_aload_n hx hb d_L11_53 rfl (lv_at hl 0 rfl) ?_
      refine lv_ldc hx hb hown (hts _ w_1507) d_L11_54 ?_
      refine nrm (x1 := oI 100000) (by decide +kernel) ?_
      obtain ⟨⟨r109, M109⟩, g109, h⟩ := bd_e h
      refine kS (As := [.ref (ad q0), .int (oI 100000)]) (rest := [.int (oI x6), .ref (ad q3)]) (s_La_next l z ad E M107 q0 100000 r109 M109 hL g109) hx hb hml hown hts w_797 w_795 w_796 w_0 md_199d8f ⟨Nat.le_of_ble_eq_true rfl, Nat.le_of_ble_eq_true rfl⟩ hG hZ hP hD hS hA rfl hl.1 rfl (Nat.le_of_ble_eq_true rfl) d_L11_56 ⟨(show _ ≤ mc by omega), (show _ ≤ ms by omega)⟩ (fun _ H locs hP hD hS => ?_)
      have hP : va_P z.1 classes (wv z ad E M109) H := hP
      have hD : va_D A (wv z ad E M109) := hD
      refine W.eq (g2 := F0 m 59 ls [.int (oI r109), .int (oI x6), .ref (ad q3)]) rfl ?_
      exact b_La_seats_j59 l z E0 ad0 ad E M109 q0 x2 q3 x4 x6 r109 x6 q3 t w4 w6 F N hx hb hml hts hown hlocks hA hG hZ mc ms _ _ c1 s1 (by omega) (by omega) hm hm2 hag0 hE0 h k0 k1 H locs ls hP hD hS (lv_sub hl [0, 1, 2, 3, 4, 5] rfl)
    · have h := ite_t ((oI_eq0 ok108).mp c9) h
      refine lv_aload_n hx hb d_L11_44 rfl (lv_at hl 0 rfl) ?_
      refine lv_bipush (v := oI 20) hx hb d_L11_45 (by decide +kernel) ?_
      obtain ⟨⟨r119, M119⟩, g119, h⟩ := bd_e h
      refine kS (As := [.ref (ad q0), .int (oI 20)]) (rest := [.int (oI x6), .ref (ad q3)]) (s_La_next l z ad E M107 q0 20 r119 M119 hL g119) hx hb hml hown hts w_797 w_795 w_796 w_0 md_199d8f ⟨Nat.le_of_ble_eq_true rfl, Nat.le_of_ble_eq_true rfl⟩ hG hZ hP hD hS hA rfl hl.1 rfl (Nat.le_of_ble_eq_true rfl) d_L11_47 ⟨(show _ ≤ mc by omega), (show _ ≤ ms by omega)⟩ (fun _ H locs hP hD hS => ?_)
      have hP : va_P z.1 classes (wv z ad E M119) H := hP
      have hD : va_D A (wv z ad E M119) := hD
      refine W.eq (g2 := F0 m 50 ls [.int (oI r119), .int (oI x6), .ref (ad q3)]) rfl ?_
      refine lv_goto (tgt := 59) hx hb d_L11_50 (by decide) ?_
      exact b_La_seats_j59 l z E0 ad0 ad E M119 q0 x2 q3 x4 x6 r119 x6 q3 t w4 w6 F N hx hb hml hts hown hlocks hA hG hZ mc ms _ _ c1 s1 (by omega) (by omega) hm hm2 hag0 hE0 h k0 k1 H locs ls hP hD hS (lv_sub hl [0, 1, 2, 3, 4, 5] rfl)
set_option maxRecDepth 100000 in
set_option maxHeartbeats 4000000 in
theorem s_La_seats_27 (l : Launch) (z : Zz) (E0 : Ev) (ad0 : Nat → Nat) (q0 : Nat) (x2 : Int) (q3 : Nat) {Q : State → Prop} {p : Program} {e : Env} {s : State} {m : MethodId} {below : List Frame} {meth : Method} {c : Code} {A : Nat → Prop} {args : Array Value} (hx : p.tables.exec = Jvm.exec) (hb : c.code = method_11_code) (hml : c.maxLocals = 20) (hts : ∀ w ∈ WG, w.before args s = true) (hown : s.vm.findClass "BallothallLaw" = some m.cls) (hlocks : meth.locks = false) (hA : ∀ q, s.heap.size ≤ q → A q) (hG : KG z s) (hZ : FZ z A s) (mc ms c1 s1 : Nat) (hm : c1 ≤ mc) (hm2 : s1 ≤ ms) : ∀ (fu c0 s0 : Nat) (ad : Nat → Nat) (E : Ev) (M : Mm) (x4 : Int) (x6 : Int) (t : Nat) (w4 : Int) (w6 : Int) (F : Ev) (N : Mm), c0 + fu * 0 ≤ c1 → s0 + fu * 0 ≤ s1 → (∀ i, i < nE E0 → ad i = ad0 i) → nE E0 ≤ nE E → l_La_seats_27 q0 x2 q3 fu E M x4 x6 = some (t, w4, w6, F, N) → (∀ (ad1 : Nat → Nat), (∀ i, i < nE E0 → ad1 i = ad0 i) → nE E0 ≤ nE F → t = 1 → ∀ (H : Heap) (locs : List Loc) (ls : Array Slot), va_P z.1 classes (wv z ad1 F N) H → va_D A (wv z ad1 F N) → va_S A s.heap H locs → lv_has ls 20 [(0, .ref (ad1 q0)), (1, .ref (ad1 1)), (2, .int (oI x2)), (3, .ref (ad1 q3)), (4, .long (oJ w4))] → W p l e (rmK 7 190 mc ms) s m args below meth c H locs c1 s1 Q (F0 m 113 ls [])) → ∀ (H : Heap) (locs : List Loc) (ls : Array Slot), va_P z.1 classes (wv z ad E M) H → va_D A (wv z ad E M) → va_S A s.heap H locs → lv_has ls 20 [(0, .ref (ad q0)), (1, .ref (ad 1)), (2, .int (oI x2)), (3, .ref (ad q3)), (4, .long (oJ x4)), (6, .int (oI x6))] → W p l e (rmK 7 190 mc ms) s m args below meth c H locs c0 s0 Q (F0 m 27 ls []) := by
  intro fu
  induction fu with
  | zero =>
    intro c0 s0 ad E M x4 x6 t w4 w6 F N hc hs hag0 hE0 h
    have h : (none : Option (Nat × Int × Int × Ev × Mm)) = some _ := h
    cases h
  | succ fu ih =>
    intro c0 s0 ad E M x4 x6 t w4 w6 F N hc hs hag0 hE0 h k1 H locs ls hP hD hS hl
    obtain ⟨⟨t0, w40, w60, F9, N9⟩, g0, h⟩ := bd_e h
    refine W.wide (Nat.le_refl _) (Nat.le_refl _) (b_La_seats_27b l z E0 ad0 ad E M q0 x2 q3 x4 x6 t0 w40 w60 F9 N9 hx hb hml hts hown hlocks hA hG hZ mc ms c0 s0 (c0 + 0) (s0 + 0) (Nat.le_refl _) (Nat.le_refl _) (by omega) (by omega) hag0 hE0 g0 (fun ad1 ha he e0 => ?_) (fun ad1 ha he e0 => ?_) H locs ls hP hD hS hl)
    · subst e0
      have h := ite_t rfl h
      exact ih (c0 + 0) (s0 + 0) ad1 F9 N9 w40 w60 t w4 w6 F N (by omega) (by omega) ha he h k1
    · subst e0
      have h := ite_f (by decide) h
      obtain ⟨rfl, rfl, rfl, rfl, rfl⟩ := in5 h
      exact fun H locs ls hP hD hS hl => W.wide (by omega) (by omega) (k1 ad1 ha he rfl H locs ls hP hD hS hl)
set_option maxRecDepth 100000 in
set_option maxHeartbeats 4000000 in
theorem b_La_seats_j238 (l : Launch) (z : Zz) (E0 : Ev) (ad0 : Nat → Nat) (ad : Nat → Nat) (E : Ev) (M : Mm) (q0 : Nat) (x2 : Int) (q3 : Nat) (x4 : Int) (x6 : Int) (x7 : Int) (x8 : Int) (x9 : Int) (x12 : Int) (x13 : Int) (x14 : Int) (y0 : Int) (t : Nat) (w11 : Int) (w14 : Int) (F : Ev) (N : Mm) {Q : State → Prop} {p : Program} {e : Env} {s : State} {m : MethodId} {below : List Frame} {meth : Method} {c : Code} {A : Nat → Prop} {args : Array Value} (hx : p.tables.exec = Jvm.exec) (hb : c.code = method_11_code) (hml : c.maxLocals = 20) (hts : ∀ w ∈ WG, w.before args s = true) (hown : s.vm.findClass "BallothallLaw" = some m.cls) (hlocks : meth.locks = false) (hA : ∀ q, s.heap.size ≤ q → A q) (hG : KG z s) (hZ : FZ z A s) (mc ms c0 s0 c1 s1 : Nat) (hc : c0 + 0 ≤ c1) (hs : s0 + 0 ≤ s1) (hm : c1 ≤ mc) (hm2 : s1 ≤ ms) (hag0 : ∀ i, i < nE E0 → ad i = ad0 i) (hE0 : nE E0 ≤ nE E) (h : La_seats_j238 E M q0 x2 q3 x4 x6 x7 x8 x9 x12 x13 x14 y0 = some (t, w11, w14, F, N)) (k0 : ∀ (ad1 : Nat → Nat), (∀ i, i < nE E0 → ad1 i = ad0 i) → nE E0 ≤ nE F → t = 0 → ∀ (H : Heap) (locs : List Loc) (ls : Array Slot), va_P z.1 classes (wv z ad1 F N) H → va_D A (wv z ad1 F N) → va_S A s.heap H locs → lv_has ls 20 [(0, .ref (ad1 q0)), (1, .ref (ad1 1)), (2, .int (oI x2)), (3, .ref (ad1 q3)), (4, .long (oJ x4)), (6, .int (oI x6)), (7, .int (oI x7)), (8, .int (oI x8)), (9, .long (oJ x9)), (11, .int (oI w11)), (12, .int (oI x12)), (13, .int (oI x13)), (14, .int (oI w14))] → W p l e (rmK 7 190 mc ms) s m args below meth c H locs c1 s1 Q (F0 m 200 ls [])) (k1 : ∀ (ad1 : Nat → Nat), (∀ i, i < nE E0 → ad1 i = ad0 i) → nE E0 ≤ nE F → t = 1 → ∀ (H : Heap) (locs : List Loc) (ls : Array Slot), va_P z.1 classes (wv z ad1 F N) H → va_D A (wv z ad1 F N) → va_S A s.heap H locs → lv_has ls 20 [(0, .ref (ad1 q0)), (1, .ref (ad1 1)), (2, .int (oI x2)), (3, .ref (ad1 q3)), (4, .long (oJ x4)), (6, .int (oI x6)), (7, .int (oI x7)), (8, .int (oI x8)), (9, .long (oJ x9)), (11, .int (oI w11)), (12, .int (oI x12)), (13, .int (oI x13))] → W p l e (rmK 7 190 mc ms) s m args below meth c H locs c1 s1 Q (F0 m 307 ls [])) : ∀ (H : Heap) (locs : List Loc) (ls : Array Slot), va_P z.1 classes (wv z ad E M) H → va_D A (wv z ad E M) → va_S A s.heap H locs → lv_has ls 20 [(0, .ref (ad q0)), (1, .ref (ad 1)), (2, .int (oI x2)), (3, .ref (ad q3)), (4, .long (oJ x4)), (6, .int (oI x6)), (7, .int (oI x7)), (8, .int (oI x8)), (9, .long (oJ x9)), (12, .int (oI x12)), (13, .int (oI x13)), (14, .int (oI x14))] → W p l e (rmK 7 190 mc ms) s m args below meth c H locs c0 s0 Q (F0 m 238 ls [.int (oI y0)]) := by
  intro H locs ls hP hD hS hl
  unfold La_seats_j238 at h
  obtain ⟨hL, h⟩ := ck_e h
  obtain ⟨h_q0, h⟩ := ck_e h
  obtain ⟨h_q3, h⟩ := ck_e h
  refine lv_istore (lv' := [(11, .int (oI y0)), (0, .ref (ad q0)), (1, .ref (ad 1)), (2, .int (oI x2)), (3, .ref (ad q3)), (4, .long (oJ x4)), (6, .int (oI x6)), (7, .int (oI x7)), (8, .int (oI x8)), (9, .long (oJ x9)), (12, .int (oI x12)), (13, .int (oI x13)), (14, .int (oI x14))]) hx hb d_L11_238 hl (by decide) rfl (fun ls hl => ?_)
  refine lv_iload hx hb d_L11_240 (lv_at hl 0 rfl) ?_
  obtain ⟨ok132, h⟩ := ck_e h
  refine lv_if_eq (tgt := 298) hx hb d_L11_242 (by decide) (fun c9 => ?_) (fun c9 => ?_)
  · have h := ite_t ((oI_eq0 ok132).mp c9) h
    refine lv_iconst (v := oI 0) hx hb d_L11_298 (by decide +kernel) ?_
    refine lv_istore (lv' := [(11, .int (oI 0)), (0, .ref (ad q0)), (1, .ref (ad 1)), (2, .int (oI x2)), (3, .ref (ad q3)), (4, .long (oJ x4)), (6, .int (oI x6)), (7, .int (oI x7)), (8, .int (oI x8)), (9, .long (oJ x9)), (12, .int (oI x12)), (13, .int (oI x13)), (14, .int (oI x14))]) hx hb d_L11_299 hl (by decide) rfl (fun ls hl => ?_)
    refine lv_iinc (v := oI (x14 + 1)) (lv' := [(14, .int (oI (x14 + 1))), (11, .int (oI 0)), (0, .ref (ad q0)), (1, .ref (ad 1)), (2, .int (oI x2)), (3, .ref (ad q3)), (4, .long (oJ x4)), (6, .int (oI x6)), (7, .int (oI x7)), (8, .int (oI x8)), (9, .long (oJ x9)), (12, .int (oI x12)), (13, .int (oI x13))]) hx hb d_L11_301 hl (k := 12) rfl (oI_add x14 1) (by decide) rfl (fun ls hl => ?_)
    refine lv_goto (tgt := 200) hx hb d_L11_304 (by decide) ?_
    obtain ⟨rfl, rfl, rfl, rfl, rfl⟩ := in5 h
    exact W.wide (by omega) (by omega) (k0 ad hag0 hE0 rfl H locs ls hP hD hS (lv_sub hl [2, 3, 4, 5, 6, 7, 8, 9, 10, 1, 11, 12, 0] rfl))
  · have h := ite_f (fun q => c9 ((oI_eq0 ok132).mpr q)) h
    refine lv_iload hx hb d_L11_245 (lv_at hl 6 rfl) ?_
    refine lv_iconst (v := oI 5) hx hb d_L11_247 (by decide +kernel) ?_
    obtain ⟨ok133, h⟩ := ck_e h
    refine lv_icmp_eq (tgt := 294) hx hb d_L11_248 (by decide) (fun c9 => ?_) (fun c9 => ?_)
    · have h := ite_t ((oI_eq (a := x6) (b := (5 : Int)) ok133 (by decide)).mp c9) h
      refine lv_iconst (v := oI 1) hx hb d_L11_294 (by decide +kernel) ?_
      refine lv_goto (tgt := 299) hx hb d_L11_295 (by decide) ?_
      refine lv_istore (lv' := [(11, .int (oI 1)), (0, .ref (ad q0)), (1, .ref (ad 1)), (2, .int (oI x2)), (3, .ref (ad q3)), (4, .long (oJ x4)), (6, .int (oI x6)), (7, .int (oI x7)), (8, .int (oI x8)), (9, .long (oJ x9)), (12, .int (oI x12)), (13, .int (oI x13)), (14, .int (oI x14))]) hx hb d_L11_299 hl (by decide) rfl (fun ls hl => ?_)
      refine lv_iinc (v := oI (x14 + 1)) (lv' := [(14, .int (oI (x14 + 1))), (11, .int (oI 1)), (0, .ref (ad q0)), (1, .ref (ad 1)), (2, .int (oI x2)), (3, .ref (ad q3)), (4, .long (oJ x4)), (6, .int (oI x6)), (7, .int (oI x7)), (8, .int (oI x8)), (9, .long (oJ x9)), (12, .int (oI x12)), (13, .int (oI x13))]) hx hb d_L11_301 hl (k := 12) rfl (oI_add x14 1) (by decide) rfl (fun ls hl => ?_)
      refine lv_goto (tgt := 200) hx hb d_L11_304 (by decide) ?_
      obtain ⟨rfl, rfl, rfl, rfl, rfl⟩ := in5 h
      exact W.wide (by omega) (by omega) (k0 ad hag0 hE0 rfl H locs ls hP hD hS (lv_sub hl [2, 3, 4, 5, 6, 7, 8, 9, 10, 1, 11, 12, 0] rfl))
    · have h := ite_f (fun q => c9 ((oI_eq (a := x6) (b := (5 : Int)) ok133 (by decide)).mpr q)) h
      refine lv_iload hx hb d_L11_251 (lv_at hl 11 rfl) ?_
      obtain ⟨ok134, h⟩ := ck_e h
      refine lv_if_eq (tgt := 294) hx hb d_L11_253 (by decide) (fun c9 => ?_) (fun c9 => ?_)
      · have h := ite_t ((oI_eq0 ok134).mp c9) h
        refine lv_iconst (v := oI 1) hx hb d_L11_294 (by decide +kernel) ?_
        refine lv_goto (tgt := 299) hx hb d_L11_295 (by decide) ?_
        refine lv_istore (lv' := [(11, .int (oI 1)), (0, .ref (ad q0)), (1, .ref (ad 1)), (2, .int (oI x2)), (3, .ref (ad q3)), (4, .long (oJ x4)), (6, .int (oI x6)), (7, .int (oI x7)), (8, .int (oI x8)), (9, .long (oJ x9)), (12, .int (oI x12)), (13, .int (oI x13)), (14, .int (oI x14))]) hx hb d_L11_299 hl (by decide) rfl (fun ls hl => ?_)
        refine lv_iinc (v := oI (x14 + 1)) (lv' := [(14, .int (oI (x14 + 1))), (11, .int (oI 1)), (0, .ref (ad q0)), (1, .ref (ad 1)), (2, .int (oI x2)), (3, .ref (ad q3)), (4, .long (oJ x4)), (6, .int (oI x6)), (7, .int (oI x7)), (8, .int (oI x8)), (9, .long (oJ x9)), (12, .int (oI x12)), (13, .int (oI x13))]) hx hb d_L11_301 hl (k := 12) rfl (oI_add x14 1) (by decide) rfl (fun ls hl => ?_)
        refine lv_goto (tgt := 200) hx hb d_L11_304 (by decide) ?_
        obtain ⟨rfl, rfl, rfl, rfl, rfl⟩ := in5 h
        exact W.wide (by omega) (by omega) (k0 ad hag0 hE0 rfl H locs ls hP hD hS (lv_sub hl [2, 3, 4, 5, 6, 7, 8, 9, 10, 1, 11, 12, 0] rfl))
      · have h := ite_f (fun q => c9 ((oI_eq0 ok134).mpr q)) h
        refine lv_aload_n hx hb d_L11_256 rfl (lv_at hl 4 rfl) ?_
        refine lv_iload hx hb d_L11_257 (lv_at hl 10 rfl) ?_
        obtain ⟨ok135, h⟩ := ck_e h
        refine m_ia hx hb hG hP h_q3.1 (isIA_T h_q3) ok135 d_L11_259 ?_
        obtain ⟨ok136, h⟩ := ck_e h
        refine lv_i2l (v := oJ (M q3 x12.toNat)) hx hb d_L11_260 (oI_l ok136) ?_
        refine lv_iload hx hb d_L11_261 (lv_at hl 6 rfl) ?_
        refine lv_aload_n hx hb d_L11_263 rfl (lv_at hl 2 rfl) ?_
        refine lv_iload hx hb d_L11_264 (lv_at hl 12 rfl) ?_
        obtain ⟨r137, g137, h⟩ := bd_e h
        refine kV (As := [.int (oI x14)]) (rest := [.int (oI x6), .long (oJ (M q3 x12.toNat))]) (s_B_seatsOf l z ad E M x14 r137 hL g137) hx hb hml hown hts w_1590 w_1587 w_1588 w_1589 w_1 md_6fdd17 ⟨Nat.le_of_ble_eq_true rfl, Nat.le_of_ble_eq_true rfl⟩ hG hZ hP hD hS hA 1 (wv_o (ci := 11) (yi_1 hL) (yt_1 hL)) rfl rfl rfl hl.1 rfl (Nat.le_of_ble_eq_true rfl) d_L11_266 ⟨(show _ ≤ mc by omega), (show _ ≤ ms by omega)⟩ (fun _ H locs hP hD hS => ?_)
        have hP : va_P z.1 classes (wv z ad E M) H := hP
        have hD : va_D A (wv z ad E M) := hD
        refine W.eq (g2 := F0 m 269 ls [.int (oI r137), .int (oI x6), .long (oJ (M q3 x12.toNat))]) rfl ?_
        obtain ⟨r138, g138, h⟩ := bd_e h
        refine kS (As := [.int (oI x6), .int (oI r137)]) (rest := [.long (oJ (M q3 x12.toNat))]) (s_La_divisor l z ad E M x6 r137 r138 hL g138) hx hb hml hown hts w_1594 w_1592 w_1593 w_0 md_fd11b7 ⟨Nat.le_of_ble_eq_true rfl, Nat.le_of_ble_eq_true rfl⟩ hG hZ hP hD hS hA rfl hl.1 rfl (Nat.le_of_ble_eq_true rfl) d_L11_269 ⟨(show _ ≤ mc by omega), (show _ ≤ ms by omega)⟩ (fun _ H locs hP hD hS => ?_)
        have hP : va_P z.1 classes (wv z ad E M) H := hP
        have hD : va_D A (wv z ad E M) := hD
        refine W.eq (g2 := F0 m 272 ls [.int (oI r138), .long (oJ (M q3 x12.toNat))]) rfl ?_
        obtain ⟨ok139, h⟩ := ck_e h
        refine lv_i2l (v := oJ r138) hx hb d_L11_272 (oI_l ok139) ?_
        refine lv_lmul hx hb d_L11_273 ?_
        refine nrmL (oJ_mul _ _) ?_
        refine lv_aload_n hx hb d_L11_274 rfl (lv_at hl 4 rfl) ?_
        refine lv_iload hx hb d_L11_275 (lv_at hl 12 rfl) ?_
        obtain ⟨ok140, h⟩ := ck_e h
        refine m_ia hx hb hG hP h_q3.1 (isIA_T h_q3) ok140 d_L11_277 ?_
        obtain ⟨ok141, h⟩ := ck_e h
        refine lv_i2l (v := oJ (M q3 x14.toNat)) hx hb d_L11_278 (oI_l ok141) ?_
        refine lv_iload hx hb d_L11_279 (lv_at hl 6 rfl) ?_
        refine lv_iload hx hb d_L11_281 (lv_at hl 11 rfl) ?_
        refine lv_iconst (v := oI 1) hx hb d_L11_283 (by decide +kernel) ?_
        refine lv_isub hx hb d_L11_284 ?_
        refine nrm (oI_sub _ _) ?_
        obtain ⟨r142, g142, h⟩ := bd_e h
        refine kS (As := [.int (oI x6), .int (oI (x13 - 1))]) (rest := [.long (oJ (M q3 x14.toNat)), .long (oJ ((M q3 x12.toNat) * r138))]) (s_La_divisor l z ad E M x6 (x13 - 1) r142 hL g142) hx hb hml hown hts w_1594 w_1592 w_1593 w_0 md_fd11b7 ⟨Nat.le_of_ble_eq_true rfl, Nat.le_of_ble_eq_true rfl⟩ hG hZ hP hD hS hA rfl hl.1 rfl (Nat.le_of_ble_eq_true rfl) d_L11_285 ⟨(show _ ≤ mc by omega), (show _ ≤ ms by omega)⟩ (fun _ H locs hP hD hS => ?_)
        have hP : va_P z.1 classes (wv z ad E M) H := hP
        have hD : va_D A (wv z ad E M) := hD
        refine W.eq (g2 := F0 m 288 ls [.int (oI r142), .long (oJ (M q3 x14.toNat)), .long (oJ ((M q3 x12.toNat) * r138))]) rfl ?_
        obtain ⟨ok143, h⟩ := ck_e h
        refine lv_i2l (v := oJ r142) hx hb d_L11_288 (oI_l ok143) ?_
        refine lv_lmul hx hb d_L11_289 ?_
        refine nrmL (oJ_mul _ _) ?_
        obtain ⟨ok144, h⟩ := ck_e h
        obtain ⟨ok145, h⟩ := ck_e h
        refine W.lcmp hx hb d_L11_290 ?_
        refine nrm (cmp_val (a := ((M q3 x12.toNat) * r138)) (b := ((M q3 x14.toNat) * r142)) ok144 ok145) ?_
        refine lv_if_lt (tgt := 298) hx hb d_L11_291 (by decide) (fun c9 => ?_) (fun c9 => ?_)
        · have h := ite_t ((cmp_lt ((M q3 x12.toNat) * r138) ((M q3 x14.toNat) * r142)).mp c9) h
          refine lv_iconst (v := oI 0) hx hb d_L11_298 (by decide +kernel) ?_
          refine lv_istore (lv' := [(11, .int (oI 0)), (0, .ref (ad q0)), (1, .ref (ad 1)), (2, .int (oI x2)), (3, .ref (ad q3)), (4, .long (oJ x4)), (6, .int (oI x6)), (7, .int (oI x7)), (8, .int (oI x8)), (9, .long (oJ x9)), (12, .int (oI x12)), (13, .int (oI x13)), (14, .int (oI x14))]) hx hb d_L11_299 hl (by decide) rfl (fun ls hl => ?_)
          refine lv_iinc (v := oI (x14 + 1)) (lv' := [(14, .int (oI (x14 + 1))), (11, .int (oI 0)), (0, .ref (ad q0)), (1, .ref (ad 1)), (2, .int (oI x2)), (3, .ref (ad q3)), (4, .long (oJ x4)), (6, .int (oI x6)), (7, .int (oI x7)), (8, .int (oI x8)), (9, .long (oJ x9)), (12, .int (oI x12)), (13, .int (oI x13))]) hx hb d_L11_301 hl (k := 12) rfl (oI_add x14 1) (by decide) rfl (fun ls hl => ?_)
          refine lv_goto (tgt := 200) hx hb d_L11_304 (by decide) ?_
          obtain ⟨rfl, rfl, rfl, rfl, rfl⟩ := in5 h
          exact W.wide (by omega) (by omega) (k0 ad hag0 hE0 rfl H locs ls hP hD hS (lv_sub hl [2, 3, 4, 5, 6, 7, 8, 9, 10, 1, 11, 12, 0] rfl))
        · have h := ite_f (fun q => c9 ((cmp_lt ((M q3 x12.toNat) * r138) ((M q3 x14.toNat) * r142)).mpr q)) h
          refine lv_iconst (v := oI 1) hx hb d_L11_294 (by decide +kernel) ?_
          refine lv_goto (tgt := 299) hx hb d_L11_295 (by decide) ?_
          refine lv_istore (lv' := [(11, .int (oI 1)), (0, .ref (ad q0)), (1, .ref (ad 1)), (2, .int (oI x2)), (3, .ref (ad q3)), (4, .long (oJ x4)), (6, .int (oI x6)), (7, .int (oI x7)), (8, .int (oI x8)), (9, .long (oJ x9)), (12, .int (oI x12)), (13, .int (oI x13)), (14, .int (oI x14))]) hx hb d_L11_299 hl (by decide) rfl (fun ls hl => ?_)
          refine lv_iinc (v := oI (x14 + 1)) (lv' := [(14, .int (oI (x14 + 1))), (11, .int (oI 1)), (0, .ref (ad q0)), (1, .ref (ad 1)), (2, .int (oI x2)), (3, .ref (ad q3)), (4, .long (oJ x4)), (6, .int (oI x6)), (7, .int (oI x7)), (8, .int (oI x8)), (9, .long (oJ x9)), (12, .int (oI x12)), (13, .int (oI x13))]) hx hb d_L11_301 hl (k := 12) rfl (oI_add x14 1) (by decide) rfl (fun ls hl => ?_)
          refine lv_goto (tgt := 200) hx hb d_L11_304 (by decide) ?_
          obtain ⟨rfl, rfl, rfl, rfl, rfl⟩ := in5 h
          exact W.wide (by omega) (by omega) (k0 ad hag0 hE0 rfl H locs ls hP hD hS (lv_sub hl [2, 3, 4, 5, 6, 7, 8, 9, 10, 1, 11, 12, 0] rfl))
set_option maxRecDepth 100000 in
set_option maxHeartbeats 4000000 in
theorem b_La_seats_200b (l : Launch) (z : Zz) (E0 : Ev) (ad0 : Nat → Nat) (ad : Nat → Nat) (E : Ev) (M : Mm) (q0 : Nat) (x2 : Int) (q3 : Nat) (x4 : Int) (x6 : Int) (x7 : Int) (x8 : Int) (x9 : Int) (x12 : Int) (x13 : Int) (x11 : Int) (x14 : Int) (t : Nat) (w11 : Int) (w14 : Int) (F : Ev) (N : Mm) {Q : State → Prop} {p : Program} {e : Env} {s : State} {m : MethodId} {below : List Frame} {meth : Method} {c : Code} {A : Nat → Prop} {args : Array Value} (hx : p.tables.exec = Jvm.exec) (hb : c.code = method_11_code) (hml : c.maxLocals = 20) (hts : ∀ w ∈ WG, w.before args s = true) (hown : s.vm.findClass "BallothallLaw" = some m.cls) (hlocks : meth.locks = false) (hA : ∀ q, s.heap.size ≤ q → A q) (hG : KG z s) (hZ : FZ z A s) (mc ms c0 s0 c1 s1 : Nat) (hc : c0 + 0 ≤ c1) (hs : s0 + 0 ≤ s1) (hm : c1 ≤ mc) (hm2 : s1 ≤ ms) (hag0 : ∀ i, i < nE E0 → ad i = ad0 i) (hE0 : nE E0 ≤ nE E) (h : La_seats_200b E M q0 x2 q3 x4 x6 x7 x8 x9 x12 x13 x11 x14 = some (t, w11, w14, F, N)) (k0 : ∀ (ad1 : Nat → Nat), (∀ i, i < nE E0 → ad1 i = ad0 i) → nE E0 ≤ nE F → t = 0 → ∀ (H : Heap) (locs : List Loc) (ls : Array Slot), va_P z.1 classes (wv z ad1 F N) H → va_D A (wv z ad1 F N) → va_S A s.heap H locs → lv_has ls 20 [(0, .ref (ad1 q0)), (1, .ref (ad1 1)), (2, .int (oI x2)), (3, .ref (ad1 q3)), (4, .long (oJ x4)), (6, .int (oI x6)), (7, .int (oI x7)), (8, .int (oI x8)), (9, .long (oJ x9)), (11, .int (oI w11)), (12, .int (oI x12)), (13, .int (oI x13)), (14, .int (oI w14))] → W p l e (rmK 7 190 mc ms) s m args below meth c H locs c1 s1 Q (F0 m 200 ls [])) (k1 : ∀ (ad1 : Nat → Nat), (∀ i, i < nE E0 → ad1 i = ad0 i) → nE E0 ≤ nE F → t = 1 → ∀ (H : Heap) (locs : List Loc) (ls : Array Slot), va_P z.1 classes (wv z ad1 F N) H → va_D A (wv z ad1 F N) → va_S A s.heap H locs → lv_has ls 20 [(0, .ref (ad1 q0)), (1, .ref (ad1 1)), (2, .int (oI x2)), (3, .ref (ad1 q3)), (4, .long (oJ x4)), (6, .int (oI x6)), (7, .int (oI x7)), (8, .int (oI x8)), (9, .long (oJ x9)), (11, .int (oI w11)), (12, .int (oI x12)), (13, .int (oI x13))] → W p l e (rmK 7 190 mc ms) s m args below meth c H locs c1 s1 Q (F0 m 307 ls [])) : ∀ (H : Heap) (locs : List Loc) (ls : Array Slot), va_P z.1 classes (wv z ad E M) H → va_D A (wv z ad E M) → va_S A s.heap H locs → lv_has ls 20 [(0, .ref (ad q0)), (1, .ref (ad 1)), (2, .int (oI x2)), (3, .ref (ad q3)), (4, .long (oJ x4)), (6, .int (oI x6)), (7, .int (oI x7)), (8, .int (oI x8)), (9, .long (oJ x9)), (11, .int (oI x11)), (12, .int (oI x12)), (13, .int (oI x13)), (14, .int (oI x14))] → W p l e (rmK 7 190 mc ms) s m args below meth c H locs c0 s0 Q (F0 m 200 ls []) := by
  intro H locs ls hP hD hS hl
  unfold La_seats_200b at h
  obtain ⟨hL, h⟩ := ck_e h
  obtain ⟨h_q0, h⟩ := ck_e h
  obtain ⟨h_q3, h⟩ := ck_e h
  refine lv_iload hx hb d_L11_200 (lv_at hl 12 rfl) ?_
  refine lv_iload_n hx hb d_L11_202 rfl (lv_at hl 2 rfl) ?_
  obtain ⟨ok129, h⟩ := ck_e h
  obtain ⟨ok130, h⟩ := ck_e h
  refine lv_icmp_ge (tgt := 307) hx hb d_L11_203 (by decide) (fun c9 => ?_) (fun c9 => ?_)
  · have h := ite_t ((oI_le (a := x2) (b := x14) ok130 ok129).mp c9) h
    obtain ⟨rfl, rfl, rfl, rfl, rfl⟩ := in5 h
    exact W.wide (by omega) (by omega) (k1 ad hag0 hE0 rfl H locs ls hP hD hS (lv_sub hl [0, 1, 2, 3, 4, 5, 6, 7, 8, 9, 10, 11] rfl))
  · have h := ite_f (fun q => c9 ((oI_le (a := x2) (b := x14) ok130 ok129).mpr q)) h
    refine lv_iload hx hb d_L11_206 (lv_at hl 9 rfl) ?_
    obtain ⟨ok131, h⟩ := ck_e h
    refine lv_if_eq (tgt := 237) hx hb d_L11_208 (by decide) (fun c9 => ?_) (fun c9 => ?_)
    · have h := ite_t ((oI_eq0 ok131).mp c9) h
      refine lv_iconst (v := oI 0) hx hb d_L11_237 (by decide +kernel) ?_
      exact b_La_seats_j238 l z E0 ad0 ad E M q0 x2 q3 x4 x6 x7 x8 x9 x12 x13 x14 0 t w11 w14 F N hx hb hml hts hown hlocks hA hG hZ mc ms _ _ c1 s1 (by omega) (by omega) hm hm2 hag0 hE0 h k0 k1 H locs ls hP hD hS (lv_sub hl [0, 1, 2, 3, 4, 5, 6, 7, 8, 10, 11, 12] rfl)
    · have h := ite_f (fun q => c9 ((oI_eq0 ok131).mpr q)) h
      refine lv_aload_n hx hb d_L11_211 rfl (lv_at hl 3 rfl) ?_
      refine lv_iload hx hb d_L11_212 (lv_at hl 10 rfl) ?_
      obtain ⟨ok146, h⟩ := ck_e h
      refine m_ia hx hb hG hP h_q3.1 (isIA_T h_q3) ok146 d_L11_214 ?_
      refine lv_aload_n hx hb d_L11_215 rfl (lv_at hl 3 rfl) ?_
      refine lv_iload hx hb d_L11_216 (lv_at hl 12 rfl) ?_
      obtain ⟨ok147, h⟩ := ck_e h
      refine m_ia hx hb hG hP h_q3.1 (isIA_T h_q3) ok147 d_L11_218 ?_
      obtain ⟨ok148, h⟩ := ck_e h
      obtain ⟨ok149, h⟩ := ck_e h
      refine lv_icmp_le (tgt := 233) hx hb d_L11_219 (by decide) (fun c9 => ?_) (fun c9 => ?_)
      · have h := ite_t ((oI_le (a := (M q3 x12.toNat)) (b := (M q3 x14.toNat)) ok148 ok149).mp c9) h
        refine lv_iconst (v := oI 1) hx hb d_L11_233 (by decide +kernel) ?_
        refine lv_goto (tgt := 238) hx hb d_L11_234 (by decide) ?_
        exact b_La_seats_j238 l z E0 ad0 ad E M q0 x2 q3 x4 x6 x7 x8 x9 x12 x13 x14 1 t w11 w14 F N hx hb hml hts hown hlocks hA hG hZ mc ms _ _ c1 s1 (by omega) (by omega) hm hm2 hag0 hE0 h k0 k1 H locs ls hP hD hS (lv_sub hl [0, 1, 2, 3, 4, 5, 6, 7, 8, 10, 11, 12] rfl)
      · have h := ite_f (fun q => c9 ((oI_le (a := (M q3 x12.toNat)) (b := (M q3 x14.toNat)) ok148 ok149).mpr q)) h
        refine lv_iload hx hb d_L11_222 (lv_at hl 11 rfl) ?_
        refine lv_aload_n hx hb d_L11_224 rfl (lv_at hl 1 rfl) ?_
        refine lv_iload hx hb d_L11_225 (lv_at hl 12 rfl) ?_
        obtain ⟨r150, g150, h⟩ := bd_e h
        refine kV (As := [.int (oI x14)]) (rest := [.int (oI x13)]) (s_B_seatsOf l z ad E M x14 r150 hL g150) hx hb hml hown hts w_1590 w_1587 w_1588 w_1589 w_1 md_6fdd17 ⟨Nat.le_of_ble_eq_true rfl, Nat.le_of_ble_eq_true rfl⟩ hG hZ hP hD hS hA 1 (wv_o (ci := 11) (yi_1 hL) (yt_1 hL)) rfl rfl rfl hl.1 rfl (Nat.le_of_ble_eq_true rfl) d_L11_227 ⟨(show _ ≤ mc by omega), (show _ ≤ ms by omega)⟩ (fun _ H locs hP hD hS => ?_)
        have hP : va_P z.1 classes (wv z ad E M) H := hP
        have hD : va_D A (wv z ad E M) := hD
        refine W.eq (g2 := F0 m 230 ls [.int (oI r150), .int (oI x13)]) rfl ?_
        obtain ⟨ok151, h⟩ := ck_e h
        obtain ⟨ok152, h⟩ := ck_e h
        refine lv_icmp_lt (tgt := 237) hx hb d_L11_230 (by decide) (fun c9 => ?_) (fun c9 => ?_)
        · have h := ite_t ((oI_lt (a := x13) (b := r150) ok151 ok152).mp c9) h
          refine lv_iconst (v := oI 0) hx hb d_L11_237 (by decide +kernel) ?_
          exact b_La_seats_j238 l z E0 ad0 ad E M q0 x2 q3 x4 x6 x7 x8 x9 x12 x13 x14 0 t w11 w14 F N hx hb hml hts hown hlocks hA hG hZ mc ms _ _ c1 s1 (by omega) (by omega) hm hm2 hag0 hE0 h k0 k1 H locs ls hP hD hS (lv_sub hl [0, 1, 2, 3, 4, 5, 6, 7, 8, 10, 11, 12] rfl)
        · have h := ite_f (fun q => c9 ((oI_lt (a := x13) (b := r150) ok151 ok152).mpr q)) h
          refine lv_iconst (v := oI 1) hx hb d_L11_233 (by decide +kernel) ?_
          refine lv_goto (tgt := 238) hx hb d_L11_234 (by decide) ?_
          exact b_La_seats_j238 l z E0 ad0 ad E M q0 x2 q3 x4 x6 x7 x8 x9 x12 x13 x14 1 t w11 w14 F N hx hb hml hts hown hlocks hA hG hZ mc ms _ _ c1 s1 (by omega) (by omega) hm hm2 hag0 hE0 h k0 k1 H locs ls hP hD hS (lv_sub hl [0, 1, 2, 3, 4, 5, 6, 7, 8, 10, 11, 12] rfl)
set_option maxRecDepth 100000 in
set_option maxHeartbeats 4000000 in
theorem s_La_seats_200 (l : Launch) (z : Zz) (E0 : Ev) (ad0 : Nat → Nat) (q0 : Nat) (x2 : Int) (q3 : Nat) (x4 : Int) (x6 : Int) (x7 : Int) (x8 : Int) (x9 : Int) (x12 : Int) (x13 : Int) {Q : State → Prop} {p : Program} {e : Env} {s : State} {m : MethodId} {below : List Frame} {meth : Method} {c : Code} {A : Nat → Prop} {args : Array Value} (hx : p.tables.exec = Jvm.exec) (hb : c.code = method_11_code) (hml : c.maxLocals = 20) (hts : ∀ w ∈ WG, w.before args s = true) (hown : s.vm.findClass "BallothallLaw" = some m.cls) (hlocks : meth.locks = false) (hA : ∀ q, s.heap.size ≤ q → A q) (hG : KG z s) (hZ : FZ z A s) (mc ms c1 s1 : Nat) (hm : c1 ≤ mc) (hm2 : s1 ≤ ms) : ∀ (fu c0 s0 : Nat) (ad : Nat → Nat) (E : Ev) (M : Mm) (x11 : Int) (x14 : Int) (t : Nat) (w11 : Int) (w14 : Int) (F : Ev) (N : Mm), c0 + fu * 0 ≤ c1 → s0 + fu * 0 ≤ s1 → (∀ i, i < nE E0 → ad i = ad0 i) → nE E0 ≤ nE E → l_La_seats_200 q0 x2 q3 x4 x6 x7 x8 x9 x12 x13 fu E M x11 x14 = some (t, w11, w14, F, N) → (∀ (ad1 : Nat → Nat), (∀ i, i < nE E0 → ad1 i = ad0 i) → nE E0 ≤ nE F → t = 1 → ∀ (H : Heap) (locs : List Loc) (ls : Array Slot), va_P z.1 classes (wv z ad1 F N) H → va_D A (wv z ad1 F N) → va_S A s.heap H locs → lv_has ls 20 [(0, .ref (ad1 q0)), (1, .ref (ad1 1)), (2, .int (oI x2)), (3, .ref (ad1 q3)), (4, .long (oJ x4)), (6, .int (oI x6)), (7, .int (oI x7)), (8, .int (oI x8)), (9, .long (oJ x9)), (11, .int (oI w11)), (12, .int (oI x12)), (13, .int (oI x13))] → W p l e (rmK 7 190 mc ms) s m args below meth c H locs c1 s1 Q (F0 m 307 ls [])) → ∀ (H : Heap) (locs : List Loc) (ls : Array Slot), va_P z.1 classes (wv z ad E M) H → va_D A (wv z ad E M) → va_S A s.heap H locs → lv_has ls 20 [(0, .ref (ad q0)), (1, .ref (ad 1)), (2, .int (oI x2)), (3, .ref (ad q3)), (4, .long (oJ x4)), (6, .int (oI x6)), (7, .int (oI x7)), (8, .int (oI x8)), (9, .long (oJ x9)), (11, .int (oI x11)), (12, .int (oI x12)), (13, .int (oI x13)), (14, .int (oI x14))] → W p l e (rmK 7 190 mc ms) s m args below meth c H locs c0 s0 Q (F0 m 200 ls []) := by
  intro fu
  induction fu with
  | zero =>
    intro c0 s0 ad E M x11 x14 t w11 w14 F N hc hs hag0 hE0 h
    have h : (none : Option (Nat × Int × Int × Ev × Mm)) = some _ := h
    cases h
  | succ fu ih =>
    intro c0 s0 ad E M x11 x14 t w11 w14 F N hc hs hag0 hE0 h k1 H locs ls hP hD hS hl
    obtain ⟨⟨t0, w110, w140, F9, N9⟩, g0, h⟩ := bd_e h
    refine W.wide (Nat.le_refl _) (Nat.le_refl _) (b_La_seats_200b l z E0 ad0 ad E M q0 x2 q3 x4 x6 x7 x8 x9 x12 x13 x11 x14 t0 w110 w140 F9 N9 hx hb hml hts hown hlocks hA hG hZ mc ms c0 s0 (c0 + 0) (s0 + 0) (Nat.le_refl _) (Nat.le_refl _) (by omega) (by omega) hag0 hE0 g0 (fun ad1 ha he e0 => ?_) (fun ad1 ha he e0 => ?_) H locs ls hP hD hS hl)
    · subst e0
      have h := ite_t rfl h
      exact ih (c0 + 0) (s0 + 0) ad1 F9 N9 w110 w140 t w11 w14 F N (by omega) (by omega) ha he h k1
    · subst e0
      have h := ite_f (by decide) h
      obtain ⟨rfl, rfl, rfl, rfl, rfl⟩ := in5 h
      exact fun H locs ls hP hD hS hl => W.wide (by omega) (by omega) (k1 ad1 ha he rfl H locs ls hP hD hS hl)
set_option maxRecDepth 100000 in
set_option maxHeartbeats 4000000 in
theorem b_La_seats_151b (l : Launch) (z : Zz) (E0 : Ev) (ad0 : Nat → Nat) (ad : Nat → Nat) (E : Ev) (M : Mm) (q0 : Nat) (x2 : Int) (q3 : Nat) (x4 : Int) (x6 : Int) (x7 : Int) (x8 : Int) (x9 : Int) (x11 : Int) (x12 : Int) (t : Nat) (w9 : Int) (w11 : Int) (w12 : Int) (F : Ev) (N : Mm) {Q : State → Prop} {p : Program} {e : Env} {s : State} {m : MethodId} {below : List Frame} {meth : Method} {c : Code} {A : Nat → Prop} {args : Array Value} (hx : p.tables.exec = Jvm.exec) (hb : c.code = method_11_code) (hml : c.maxLocals = 20) (hts : ∀ w ∈ WG, w.before args s = true) (hown : s.vm.findClass "BallothallLaw" = some m.cls) (hlocks : meth.locks = false) (hA : ∀ q, s.heap.size ≤ q → A q) (hG : KG z s) (hZ : FZ z A s) (mc ms c0 s0 c1 s1 : Nat) (hc : c0 + 0 ≤ c1) (hs : s0 + 0 ≤ s1) (hm : c1 ≤ mc) (hm2 : s1 ≤ ms) (hag0 : ∀ i, i < nE E0 → ad i = ad0 i) (hE0 : nE E0 ≤ nE E) (h : La_seats_151b E M q0 x2 q3 x4 x6 x7 x8 x9 x11 x12 = some (t, w9, w11, w12, F, N)) (k0 : ∀ (ad1 : Nat → Nat), (∀ i, i < nE E0 → ad1 i = ad0 i) → nE E0 ≤ nE F → t = 0 → ∀ (H : Heap) (locs : List Loc) (ls : Array Slot), va_P z.1 classes (wv z ad1 F N) H → va_D A (wv z ad1 F N) → va_S A s.heap H locs → lv_has ls 20 [(0, .ref (ad1 q0)), (1, .ref (ad1 1)), (2, .int (oI x2)), (3, .ref (ad1 q3)), (4, .long (oJ x4)), (6, .int (oI x6)), (7, .int (oI x7)), (8, .int (oI x8)), (9, .long (oJ w9)), (11, .int (oI w11)), (12, .int (oI w12))] → W p l e (rmK 7 190 mc ms) s m args below meth c H locs c1 s1 Q (F0 m 151 ls [])) (k1 : ∀ (ad1 : Nat → Nat), (∀ i, i < nE E0 → ad1 i = ad0 i) → nE E0 ≤ nE F → t = 1 → ∀ (H : Heap) (locs : List Loc) (ls : Array Slot), va_P z.1 classes (wv z ad1 F N) H → va_D A (wv z ad1 F N) → va_S A s.heap H locs → lv_has ls 20 [(0, .ref (ad1 q0)), (1, .ref (ad1 1)), (2, .int (oI x2)), (6, .int (oI x6)), (7, .int (oI x7)), (8, .int (oI x8)), (9, .long (oJ w9)), (11, .int (oI w11))] → W p l e (rmK 7 190 mc ms) s m args below meth c H locs c1 s1 Q (F0 m 372 ls [])) : ∀ (H : Heap) (locs : List Loc) (ls : Array Slot), va_P z.1 classes (wv z ad E M) H → va_D A (wv z ad E M) → va_S A s.heap H locs → lv_has ls 20 [(0, .ref (ad q0)), (1, .ref (ad 1)), (2, .int (oI x2)), (3, .ref (ad q3)), (4, .long (oJ x4)), (6, .int (oI x6)), (7, .int (oI x7)), (8, .int (oI x8)), (9, .long (oJ x9)), (11, .int (oI x11)), (12, .int (oI x12))] → W p l e (rmK 7 190 mc ms) s m args below meth c H locs c0 s0 Q (F0 m 151 ls []) := by
  intro H locs ls hP hD hS hl
  unfold La_seats_151b at h
  obtain ⟨hL, h⟩ := ck_e h
  obtain ⟨h_q0, h⟩ := ck_e h
  obtain ⟨h_q3, h⟩ := ck_e h
  refine lv_iload hx hb d_L11_151 (lv_at hl 10 rfl) ?_
  refine lv_iload_n hx hb d_L11_153 rfl (lv_at hl 2 rfl) ?_
  obtain ⟨ok124, h⟩ := ck_e h
  obtain ⟨ok125, h⟩ := ck_e h
  refine lv_icmp_ge (tgt := 372) hx hb d_L11_154 (by decide) (fun c9 => ?_) (fun c9 => ?_)
  · have h := ite_t ((oI_le (a := x2) (b := x12) ok125 ok124).mp c9) h
    obtain ⟨rfl, rfl, rfl, rfl, rfl, rfl⟩ := in6 h
    exact W.wide (by omega) (by omega) (k1 ad hag0 hE0 rfl H locs ls hP hD hS (lv_sub hl [0, 1, 2, 5, 6, 7, 8, 9] rfl))
  · have h := ite_f (fun q => c9 ((oI_le (a := x2) (b := x12) ok125 ok124).mpr q)) h
    refine lv_aload_n hx hb d_L11_157 rfl (lv_at hl 1 rfl) ?_
    refine lv_iload hx hb d_L11_158 (lv_at hl 10 rfl) ?_
    obtain ⟨r126, g126, h⟩ := bd_e h
    refine kV (As := [.int (oI x12)]) (rest := []) (s_B_seatsOf l z ad E M x12 r126 hL g126) hx hb hml hown hts w_1590 w_1587 w_1588 w_1589 w_1 md_6fdd17 ⟨Nat.le_of_ble_eq_true rfl, Nat.le_of_ble_eq_true rfl⟩ hG hZ hP hD hS hA 1 (wv_o (ci := 11) (yi_1 hL) (yt_1 hL)) rfl rfl rfl hl.1 rfl (Nat.le_of_ble_eq_true rfl) d_L11_160 ⟨(show _ ≤ mc by omega), (show _ ≤ ms by omega)⟩ (fun _ H locs hP hD hS => ?_)
    have hP : va_P z.1 classes (wv z ad E M) H := hP
    have hD : va_D A (wv z ad E M) := hD
    refine W.eq (g2 := F0 m 163 ls [.int (oI r126)]) rfl ?_
    refine lv_istore (lv' := [(13, .int (oI r126)), (0, .ref (ad q0)), (1, .ref (ad 1)), (2, .int (oI x2)), (3, .ref (ad q3)), (4, .long (oJ x4)), (6, .int (oI x6)), (7, .int (oI x7)), (8, .int (oI x8)), (9, .long (oJ x9)), (11, .int (oI x11)), (12, .int (oI x12))]) hx hb d_L11_163 hl (by decide) rfl (fun ls hl => ?_)
    refine lv_lload hx hb d_L11_165 (lv_at hl 9 rfl) ?_
    refine lv_iload hx hb d_L11_167 (lv_at hl 0 rfl) ?_
    obtain ⟨ok127, h⟩ := ck_e h
    refine lv_i2l (v := oJ r126) hx hb d_L11_169 (oI_l ok127) ?_
    refine lv_ladd hx hb d_L11_170 ?_
    refine nrmL (oJ_add _ _) ?_
    refine lv_lstore (lv' := [(9, .long (oJ (x9 + r126))), (13, .int (oI r126)), (0, .ref (ad q0)), (1, .ref (ad 1)), (2, .int (oI x2)), (3, .ref (ad q3)), (4, .long (oJ x4)), (6, .int (oI x6)), (7, .int (oI x7)), (8, .int (oI x8)), (11, .int (oI x11)), (12, .int (oI x12))]) hx hb d_L11_171 hl (by decide) rfl (fun ls hl => ?_)
    refine lv_iload hx hb d_L11_173 (lv_at hl 10 rfl) ?_
    obtain ⟨ok128, h⟩ := ck_e h
    refine lv_if_eq (tgt := 194) hx hb d_L11_175 (by decide) (fun c9 => ?_) (fun c9 => ?_)
    · have h := ite_t ((oI_eq0 ok128).mp c9) h
      refine lv_iconst (v := oI 0) hx hb d_L11_194 (by decide +kernel) ?_
      refine lv_istore (lv' := [(11, .int (oI 0)), (9, .long (oJ (x9 + r126))), (13, .int (oI r126)), (0, .ref (ad q0)), (1, .ref (ad 1)), (2, .int (oI x2)), (3, .ref (ad q3)), (4, .long (oJ x4)), (6, .int (oI x6)), (7, .int (oI x7)), (8, .int (oI x8)), (12, .int (oI x12))]) hx hb d_L11_195 hl (by decide) rfl (fun ls hl => ?_)
      refine lv_iconst (v := oI 0) hx hb d_L11_197 (by decide +kernel) ?_
      refine lv_istore (lv' := [(14, .int (oI 0)), (11, .int (oI 0)), (9, .long (oJ (x9 + r126))), (13, .int (oI r126)), (0, .ref (ad q0)), (1, .ref (ad 1)), (2, .int (oI x2)), (3, .ref (ad q3)), (4, .long (oJ x4)), (6, .int (oI x6)), (7, .int (oI x7)), (8, .int (oI x8)), (12, .int (oI x12))]) hx hb d_L11_198 hl (by decide) rfl (fun ls hl => ?_)
      obtain ⟨⟨t153, v153_11, v153_14, E153, M153⟩, g153, h⟩ := bd_e h
      obtain ⟨hgw153, h⟩ := ck_e h
      obtain ⟨hL153, h⟩ := ck_e h
      obtain ⟨ok153, h⟩ := ck_e h
      refine s_La_seats_200 l z E ad q0 x2 q3 x4 x6 x7 x8 (x9 + r126) x12 r126 hx hb hml hts hown hlocks hA hG hZ mc ms (c0 + 0) (s0 + 0) (by omega) (by omega) 5000 _ _ ad E M 0 0 t153 v153_11 v153_14 E153 M153 (by omega) (by omega) (fun _ _ => rfl) (Nat.le_refl _) g153 (fun ad153 hag153 hEE153 e153 H locs ls hP hD hS hl => ?_) H locs ls hP hD hS (lv_sub hl [4, 5, 6, 7, 8, 9, 10, 11, 2, 1, 12, 3, 0] rfl)
      have hag0 : ∀ i, i < nE E0 → ad153 i = ad0 i := fun i hi => (hag153 i (Nat.lt_of_lt_of_le hi hE0)).trans (hag0 i hi)
      have hE0 : nE E0 ≤ nE E153 := Nat.le_trans hE0 hgw153.1
      have hL : Lay E153 := hL153
      have h_q0 : isIA E153 q0 := isA_up hgw153 h_q0
      have h_q3 : isIA E153 q3 := isA_up hgw153 h_q3
      refine lv_iload hx hb d_L11_307 (lv_at hl 5 rfl) ?_
      refine lv_iconst (v := oI 5) hx hb d_L11_309 (by decide +kernel) ?_
      obtain ⟨ok154, h⟩ := ck_e h
      refine lv_icmp_ne (tgt := 366) hx hb d_L11_310 (by decide) (fun c9 => ?_) (fun c9 => ?_)
      · have h := ite_f (fun q => c9 ((oI_eq (a := x6) (b := (5 : Int)) ok154 (by decide)).mpr q)) h
        refine lv_iinc (v := oI (x12 + 1)) (lv' := [(12, .int (oI (x12 + 1))), (0, .ref (ad153 q0)), (1, .ref (ad153 1)), (2, .int (oI x2)), (3, .ref (ad153 q3)), (4, .long (oJ x4)), (6, .int (oI x6)), (7, .int (oI x7)), (8, .int (oI x8)), (9, .long (oJ (x9 + r126))), (11, .int (oI v153_11)), (13, .int (oI r126))]) hx hb d_L11_366 hl (k := 10) rfl (oI_add x12 1) (by decide) rfl (fun ls hl => ?_)
        refine lv_goto (tgt := 151) hx hb d_L11_369 (by decide) ?_
        obtain ⟨rfl, rfl, rfl, rfl, rfl, rfl⟩ := in6 h
        exact W.wide (by omega) (by omega) (k0 ad153 hag0 hE0 rfl H locs ls hP hD hS (lv_sub hl [1, 2, 3, 4, 5, 6, 7, 8, 9, 10, 0] rfl))
      · have h := ite_t ((oI_eq (a := x6) (b := (5 : Int)) ok154 (by decide)).mp c9) h
        refine lv_lload hx hb d_L11_313 (lv_at hl 4 rfl) ?_
        refine lv_lconst (v := oJ 0) hx hb d_L11_315 (by decide +kernel) ?_
        obtain ⟨ok155, h⟩ := ck_e h
        refine W.lcmp hx hb d_L11_316 ?_
        refine nrm (cmp_val (a := x4) (b := (0 : Int)) ok155 (by decide)) ?_
        refine lv_if_le (tgt := 366) hx hb d_L11_317 (by decide) (fun c9 => ?_) (fun c9 => ?_)
        · have h := ite_t ((cmp_le x4 (0 : Int)).mp c9) h
          refine lv_iinc (v := oI (x12 + 1)) (lv' := [(12, .int (oI (x12 + 1))), (0, .ref (ad153 q0)), (1, .ref (ad153 1)), (2, .int (oI x2)), (3, .ref (ad153 q3)), (4, .long (oJ x4)), (6, .int (oI x6)), (7, .int (oI x7)), (8, .int (oI x8)), (9, .long (oJ (x9 + r126))), (11, .int (oI v153_11)), (13, .int (oI r126))]) hx hb d_L11_366 hl (k := 10) rfl (oI_add x12 1) (by decide) rfl (fun ls hl => ?_)
          refine lv_goto (tgt := 151) hx hb d_L11_369 (by decide) ?_
          obtain ⟨rfl, rfl, rfl, rfl, rfl, rfl⟩ := in6 h
          exact W.wide (by omega) (by omega) (k0 ad153 hag0 hE0 rfl H locs ls hP hD hS (lv_sub hl [1, 2, 3, 4, 5, 6, 7, 8, 9, 10, 0] rfl))
        · have h := ite_f (fun q => c9 ((cmp_le x4 (0 : Int)).mpr q)) h
          refine lv_aload_n hx hb d_L11_320 rfl (lv_at hl 3 rfl) ?_
          refine lv_iload hx hb d_L11_321 (lv_at hl 10 rfl) ?_
          obtain ⟨ok156, h⟩ := ck_e h
          refine m_ia hx hb hG hP h_q3.1 (isIA_T h_q3) ok156 d_L11_323 ?_
          obtain ⟨ok157, h⟩ := ck_e h
          refine lv_i2l (v := oJ (M153 q3 x12.toNat)) hx hb d_L11_324 (oI_l ok157) ?_
          refine lv_iload hx hb d_L11_325 (lv_at hl 6 rfl) ?_
          obtain ⟨ok158, h⟩ := ck_e h
          refine lv_i2l (v := oJ x7) hx hb d_L11_327 (oI_l ok158) ?_
          refine lv_lmul hx hb d_L11_328 ?_
          refine nrmL (oJ_mul _ _) ?_
          refine lv_lload hx hb d_L11_329 (lv_at hl 4 rfl) ?_
          obtain ⟨ok159, h⟩ := ck_e h
          obtain ⟨ok160, h⟩ := ck_e h
          refine lv_ldiv hx hb d_L11_331 (oJ_nz ok160.1 ok160.2) ?_
          refine nrmL (oJ_div (a := ((M153 q3 x12.toNat) * x7)) (b := x4) ok159.1 ok159.2 ok160.1 ok160.2) ?_
          obtain ⟨v161, e161, h⟩ := nb_e h
          refine nrmL (congrArg oJ e161.symm) ?_
          refine lv_lstore (lv' := [(14, .long (oJ v161)), (0, .ref (ad153 q0)), (1, .ref (ad153 1)), (2, .int (oI x2)), (3, .ref (ad153 q3)), (4, .long (oJ x4)), (6, .int (oI x6)), (7, .int (oI x7)), (8, .int (oI x8)), (9, .long (oJ (x9 + r126))), (11, .int (oI v153_11)), (12, .int (oI x12)), (13, .int (oI r126))]) hx hb d_L11_332 hl (by decide) rfl (fun ls hl => ?_)
          refine lv_iload hx hb d_L11_334 (lv_at hl 10 rfl) ?_
          obtain ⟨ok162, h⟩ := ck_e h
          refine lv_if_eq (tgt := 363) hx hb d_L11_336 (by decide) (fun c9 => ?_) (fun c9 => ?_)
          · have h := ite_t ((oI_eq0 ok162).mp c9) h
            refine lv_iconst (v := oI 0) hx hb d_L11_363 (by decide +kernel) ?_
            refine lv_istore (lv' := [(11, .int (oI 0)), (14, .long (oJ v161)), (0, .ref (ad153 q0)), (1, .ref (ad153 1)), (2, .int (oI x2)), (3, .ref (ad153 q3)), (4, .long (oJ x4)), (6, .int (oI x6)), (7, .int (oI x7)), (8, .int (oI x8)), (9, .long (oJ (x9 + r126))), (12, .int (oI x12)), (13, .int (oI r126))]) hx hb d_L11_364 hl (by decide) rfl (fun ls hl => ?_)
            refine lv_iinc (v := oI (x12 + 1)) (lv' := [(12, .int (oI (x12 + 1))), (11, .int (oI 0)), (14, .long (oJ v161)), (0, .ref (ad153 q0)), (1, .ref (ad153 1)), (2, .int (oI x2)), (3, .ref (ad153 q3)), (4, .long (oJ x4)), (6, .int (oI x6)), (7, .int (oI x7)), (8, .int (oI x8)), (9, .long (oJ (x9 + r126))), (13, .int (oI r126))]) hx hb d_L11_366 hl (k := 11) rfl (oI_add x12 1) (by decide) rfl (fun ls hl => ?_)
            refine lv_goto (tgt := 151) hx hb d_L11_369 (by decide) ?_
            obtain ⟨rfl, rfl, rfl, rfl, rfl, rfl⟩ := in6 h
            exact W.wide (by omega) (by omega) (k0 ad153 hag0 hE0 rfl H locs ls hP hD hS (lv_sub hl [3, 4, 5, 6, 7, 8, 9, 10, 11, 1, 0] rfl))
          · have h := ite_f (fun q => c9 ((oI_eq0 ok162).mpr q)) h
            refine lv_iload hx hb d_L11_339 (lv_at hl 12 rfl) ?_
            refine lv_i2l (v := oJ r126) hx hb d_L11_341 (oI_l ok127) ?_
            refine lv_lload hx hb d_L11_342 (lv_at hl 0 rfl) ?_
            obtain ⟨ok163, h⟩ := ck_e h
            refine W.lcmp hx hb d_L11_344 ?_
            refine nrm (cmp_val (a := r126) (b := v161) (rg_ij ok127) ok163) ?_
            refine lv_if_eq (tgt := 359) hx hb d_L11_345 (by decide) (fun c9 => ?_) (fun c9 => ?_)
            · have h := ite_t ((cmp_eq r126 v161).mp c9) h
              refine lv_iconst (v := oI 1) hx hb d_L11_359 (by decide +kernel) ?_
              refine lv_goto (tgt := 364) hx hb d_L11_360 (by decide) ?_
              refine lv_istore (lv' := [(11, .int (oI 1)), (14, .long (oJ v161)), (0, .ref (ad153 q0)), (1, .ref (ad153 1)), (2, .int (oI x2)), (3, .ref (ad153 q3)), (4, .long (oJ x4)), (6, .int (oI x6)), (7, .int (oI x7)), (8, .int (oI x8)), (9, .long (oJ (x9 + r126))), (12, .int (oI x12)), (13, .int (oI r126))]) hx hb d_L11_364 hl (by decide) rfl (fun ls hl => ?_)
              refine lv_iinc (v := oI (x12 + 1)) (lv' := [(12, .int (oI (x12 + 1))), (11, .int (oI 1)), (14, .long (oJ v161)), (0, .ref (ad153 q0)), (1, .ref (ad153 1)), (2, .int (oI x2)), (3, .ref (ad153 q3)), (4, .long (oJ x4)), (6, .int (oI x6)), (7, .int (oI x7)), (8, .int (oI x8)), (9, .long (oJ (x9 + r126))), (13, .int (oI r126))]) hx hb d_L11_366 hl (k := 11) rfl (oI_add x12 1) (by decide) rfl (fun ls hl => ?_)
              refine lv_goto (tgt := 151) hx hb d_L11_369 (by decide) ?_
              obtain ⟨rfl, rfl, rfl, rfl, rfl, rfl⟩ := in6 h
              exact W.wide (by omega) (by omega) (k0 ad153 hag0 hE0 rfl H locs ls hP hD hS (lv_sub hl [3, 4, 5, 6, 7, 8, 9, 10, 11, 1, 0] rfl))
            · have h := ite_f (fun q => c9 ((cmp_eq r126 v161).mpr q)) h
              refine lv_iload hx hb d_L11_348 (lv_at hl 12 rfl) ?_
              refine lv_i2l (v := oJ r126) hx hb d_L11_350 (oI_l ok127) ?_
              refine lv_lload hx hb d_L11_351 (lv_at hl 0 rfl) ?_
              refine lv_lconst (v := oJ 1) hx hb d_L11_353 (by decide +kernel) ?_
              refine lv_ladd hx hb d_L11_354 ?_
              refine nrmL (oJ_add _ _) ?_
              obtain ⟨ok164, h⟩ := ck_e h
              refine W.lcmp hx hb d_L11_355 ?_
              refine nrm (cmp_val (a := r126) (b := (v161 + 1)) (rg_ij ok127) ok164) ?_
              refine lv_if_ne (tgt := 363) hx hb d_L11_356 (by decide) (fun c9 => ?_) (fun c9 => ?_)
              · have h := ite_f (fun q => c9 ((cmp_eq r126 (v161 + 1)).mpr q)) h
                refine lv_iconst (v := oI 0) hx hb d_L11_363 (by decide +kernel) ?_
                refine lv_istore (lv' := [(11, .int (oI 0)), (14, .long (oJ v161)), (0, .ref (ad153 q0)), (1, .ref (ad153 1)), (2, .int (oI x2)), (3, .ref (ad153 q3)), (4, .long (oJ x4)), (6, .int (oI x6)), (7, .int (oI x7)), (8, .int (oI x8)), (9, .long (oJ (x9 + r126))), (12, .int (oI x12)), (13, .int (oI r126))]) hx hb d_L11_364 hl (by decide) rfl (fun ls hl => ?_)
                refine lv_iinc (v := oI (x12 + 1)) (lv' := [(12, .int (oI (x12 + 1))), (11, .int (oI 0)), (14, .long (oJ v161)), (0, .ref (ad153 q0)), (1, .ref (ad153 1)), (2, .int (oI x2)), (3, .ref (ad153 q3)), (4, .long (oJ x4)), (6, .int (oI x6)), (7, .int (oI x7)), (8, .int (oI x8)), (9, .long (oJ (x9 + r126))), (13, .int (oI r126))]) hx hb d_L11_366 hl (k := 11) rfl (oI_add x12 1) (by decide) rfl (fun ls hl => ?_)
                refine lv_goto (tgt := 151) hx hb d_L11_369 (by decide) ?_
                obtain ⟨rfl, rfl, rfl, rfl, rfl, rfl⟩ := in6 h
                exact W.wide (by omega) (by omega) (k0 ad153 hag0 hE0 rfl H locs ls hP hD hS (lv_sub hl [3, 4, 5, 6, 7, 8, 9, 10, 11, 1, 0] rfl))
              · have h := ite_t ((cmp_eq r126 (v161 + 1)).mp c9) h
                refine lv_iconst (v := oI 1) hx hb d_L11_359 (by decide +kernel) ?_
                refine lv_goto (tgt := 364) hx hb d_L11_360 (by decide) ?_
                refine lv_istore (lv' := [(11, .int (oI 1)), (14, .long (oJ v161)), (0, .ref (ad153 q0)), (1, .ref (ad153 1)), (2, .int (oI x2)), (3, .ref (ad153 q3)), (4, .long (oJ x4)), (6, .int (oI x6)), (7, .int (oI x7)), (8, .int (oI x8)), (9, .long (oJ (x9 + r126))), (12, .int (oI x12)), (13, .int (oI r126))]) hx hb d_L11_364 hl (by decide) rfl (fun ls hl => ?_)
                refine lv_iinc (v := oI (x12 + 1)) (lv' := [(12, .int (oI (x12 + 1))), (11, .int (oI 1)), (14, .long (oJ v161)), (0, .ref (ad153 q0)), (1, .ref (ad153 1)), (2, .int (oI x2)), (3, .ref (ad153 q3)), (4, .long (oJ x4)), (6, .int (oI x6)), (7, .int (oI x7)), (8, .int (oI x8)), (9, .long (oJ (x9 + r126))), (13, .int (oI r126))]) hx hb d_L11_366 hl (k := 11) rfl (oI_add x12 1) (by decide) rfl (fun ls hl => ?_)
                refine lv_goto (tgt := 151) hx hb d_L11_369 (by decide) ?_
                obtain ⟨rfl, rfl, rfl, rfl, rfl, rfl⟩ := in6 h
                exact W.wide (by omega) (by omega) (k0 ad153 hag0 hE0 rfl H locs ls hP hD hS (lv_sub hl [3, 4, 5, 6, 7, 8, 9, 10, 11, 1, 0] rfl))
    · have h := ite_f (fun q => c9 ((oI_eq0 ok128).mpr q)) h
      refine lv_aload_n hx hb d_L11_178 rfl (lv_at hl 5 rfl) ?_
      refine lv_iload hx hb d_L11_179 (lv_at hl 11 rfl) ?_
      obtain ⟨ok165, h⟩ := ck_e h
      refine m_ia hx hb hG hP h_q3.1 (isIA_T h_q3) ok165 d_L11_181 ?_
      obtain ⟨ok166, h⟩ := ck_e h
      refine lv_if_gt (tgt := 190) hx hb d_L11_182 (by decide) (fun c9 => ?_) (fun c9 => ?_)
      · have h := ite_t ((oI_gt0 ok166).mp c9) h
        refine lv_iconst (v := oI 1) hx hb d_L11_190 (by decide +kernel) ?_
        refine lv_goto (tgt := 195) hx hb d_L11_191 (by decide) ?_
        refine lv_istore (lv' := [(11, .int (oI 1)), (9, .long (oJ (x9 + r126))), (13, .int (oI r126)), (0, .ref (ad q0)), (1, .ref (ad 1)), (2, .int (oI x2)), (3, .ref (ad q3)), (4, .long (oJ x4)), (6, .int (oI x6)), (7, .int (oI x7)), (8, .int (oI x8)), (12, .int (oI x12))]) hx hb d_L11_195 hl (by decide) rfl (fun ls hl => ?_)
        refine lv_iconst (v := oI 0) hx hb d_L11_197 (by decide +kernel) ?_
        refine lv_istore (lv' := [(14, .int (oI 0)), (11, .int (oI 1)), (9, .long (oJ (x9 + r126))), (13, .int (oI r126)), (0, .ref (ad q0)), (1, .ref (ad 1)), (2, .int (oI x2)), (3, .ref (ad q3)), (4, .long (oJ x4)), (6, .int (oI x6)), (7, .int (oI x7)), (8, .int (oI x8)), (12, .int (oI x12))]) hx hb d_L11_198 hl (by decide) rfl (fun ls hl => ?_)
        obtain ⟨⟨t167, v167_11, v167_14, E167, M167⟩, g167, h⟩ := bd_e h
        obtain ⟨hgw167, h⟩ := ck_e h
        obtain ⟨hL167, h⟩ := ck_e h
        obtain ⟨ok167, h⟩ := ck_e h
        refine s_La_seats_200 l z E ad q0 x2 q3 x4 x6 x7 x8 (x9 + r126) x12 r126 hx hb hml hts hown hlocks hA hG hZ mc ms (c0 + 0) (s0 + 0) (by omega) (by omega) 5000 _ _ ad E M 1 0 t167 v167_11 v167_14 E167 M167 (by omega) (by omega) (fun _ _ => rfl) (Nat.le_refl _) g167 (fun ad167 hag167 hEE167 e167 H locs ls hP hD hS hl => ?_) H locs ls hP hD hS (lv_sub hl [4, 5, 6, 7, 8, 9, 10, 11, 2, 1, 12, 3, 0] rfl)
        have hag0 : ∀ i, i < nE E0 → ad167 i = ad0 i := fun i hi => (hag167 i (Nat.lt_of_lt_of_le hi hE0)).trans (hag0 i hi)
        have hE0 : nE E0 ≤ nE E167 := Nat.le_trans hE0 hgw167.1
        have hL : Lay E167 := hL167
        have h_q0 : isIA E167 q0 := isA_up hgw167 h_q0
        have h_q3 : isIA E167 q3 := isA_up hgw167 h_q3
        refine lv_iload hx hb d_L11_307 (lv_at hl 5 rfl) ?_
        refine lv_iconst (v := oI 5) hx hb d_L11_309 (by decide +kernel) ?_
        obtain ⟨ok168, h⟩ := ck_e h
        refine lv_icmp_ne (tgt := 366) hx hb d_L11_310 (by decide) (fun c9 => ?_) (fun c9 => ?_)
        · have h := ite_f (fun q => c9 ((oI_eq (a := x6) (b := (5 : Int)) ok168 (by decide)).mpr q)) h
          refine lv_iinc (v := oI (x12 + 1)) (lv' := [(12, .int (oI (x12 + 1))), (0, .ref (ad167 q0)), (1, .ref (ad167 1)), (2, .int (oI x2)), (3, .ref (ad167 q3)), (4, .long (oJ x4)), (6, .int (oI x6)), (7, .int (oI x7)), (8, .int (oI x8)), (9, .long (oJ (x9 + r126))), (11, .int (oI v167_11)), (13, .int (oI r126))]) hx hb d_L11_366 hl (k := 10) rfl (oI_add x12 1) (by decide) rfl (fun ls hl => ?_)
          refine lv_goto (tgt := 151) hx hb d_L11_369 (by decide) ?_
          obtain ⟨rfl, rfl, rfl, rfl, rfl, rfl⟩ := in6 h
          exact W.wide (by omega) (by omega) (k0 ad167 hag0 hE0 rfl H locs ls hP hD hS (lv_sub hl [1, 2, 3, 4, 5, 6, 7, 8, 9, 10, 0] rfl))
        · have h := ite_t ((oI_eq (a := x6) (b := (5 : Int)) ok168 (by decide)).mp c9) h
          refine lv_lload hx hb d_L11_313 (lv_at hl 4 rfl) ?_
          refine lv_lconst (v := oJ 0) hx hb d_L11_315 (by decide +kernel) ?_
          obtain ⟨ok169, h⟩ := ck_e h
          refine W.lcmp hx hb d_L11_316 ?_
          refine nrm (cmp_val (a := x4) (b := (0 : Int)) ok169 (by decide)) ?_
          refine lv_if_le (tgt := 366) hx hb d_L11_317 (by decide) (fun c9 => ?_) (fun c9 => ?_)
          · have h := ite_t ((cmp_le x4 (0 : Int)).mp c9) h
            refine lv_iinc (v := oI (x12 + 1)) (lv' := [(12, .int (oI (x12 + 1))), (0, .ref (ad167 q0)), (1, .ref (ad167 1)), (2, .int (oI x2)), (3, .ref (ad167 q3)), (4, .long (oJ x4)), (6, .int (oI x6)), (7, .int (oI x7)), (8, .int (oI x8)), (9, .long (oJ (x9 + r126))), (11, .int (oI v167_11)), (13, .int (oI r126))]) hx hb d_L11_366 hl (k := 10) rfl (oI_add x12 1) (by decide) rfl (fun ls hl => ?_)
            refine lv_goto (tgt := 151) hx hb d_L11_369 (by decide) ?_
            obtain ⟨rfl, rfl, rfl, rfl, rfl, rfl⟩ := in6 h
            exact W.wide (by omega) (by omega) (k0 ad167 hag0 hE0 rfl H locs ls hP hD hS (lv_sub hl [1, 2, 3, 4, 5, 6, 7, 8, 9, 10, 0] rfl))
          · have h := ite_f (fun q => c9 ((cmp_le x4 (0 : Int)).mpr q)) h
            refine lv_aload_n hx hb d_L11_320 rfl (lv_at hl 3 rfl) ?_
            refine lv_iload hx hb d_L11_321 (lv_at hl 10 rfl) ?_
            obtain ⟨ok170, h⟩ := ck_e h
            refine m_ia hx hb hG hP h_q3.1 (isIA_T h_q3) ok170 d_L11_323 ?_
            obtain ⟨ok171, h⟩ := ck_e h
            refine lv_i2l (v := oJ (M167 q3 x12.toNat)) hx hb d_L11_324 (oI_l ok171) ?_
            refine lv_iload hx hb d_L11_325 (lv_at hl 6 rfl) ?_
            obtain ⟨ok172, h⟩ := ck_e h
            refine lv_i2l (v := oJ x7) hx hb d_L11_327 (oI_l ok172) ?_
            refine lv_lmul hx hb d_L11_328 ?_
            refine nrmL (oJ_mul _ _) ?_
            refine lv_lload hx hb d_L11_329 (lv_at hl 4 rfl) ?_
            obtain ⟨ok173, h⟩ := ck_e h
            obtain ⟨ok174, h⟩ := ck_e h
            refine lv_ldiv hx hb d_L11_331 (oJ_nz ok174.1 ok174.2) ?_
            refine nrmL (oJ_div (a := ((M167 q3 x12.toNat) * x7)) (b := x4) ok173.1 ok173.2 ok174.1 ok174.2) ?_
            obtain ⟨v175, e175, h⟩ := nb_e h
            refine nrmL (congrArg oJ e175.symm) ?_
            refine lv_lstore (lv' := [(14, .long (oJ v175)), (0, .ref (ad167 q0)), (1, .ref (ad167 1)), (2, .int (oI x2)), (3, .ref (ad167 q3)), (4, .long (oJ x4)), (6, .int (oI x6)), (7, .int (oI x7)), (8, .int (oI x8)), (9, .long (oJ (x9 + r126))), (11, .int (oI v167_11)), (12, .int (oI x12)), (13, .int (oI r126))]) hx hb d_L11_332 hl (by decide) rfl (fun ls hl => ?_)
            refine lv_iload hx hb d_L11_334 (lv_at hl 10 rfl) ?_
            obtain ⟨ok176, h⟩ := ck_e h
            refine lv_if_eq (tgt := 363) hx hb d_L11_336 (by decide) (fun c9 => ?_) (fun c9 => ?_)
            · have h := ite_t ((oI_eq0 ok176).mp c9) h
              refine lv_iconst (v := oI 0) hx hb d_L11_363 (by decide +kernel) ?_
              refine lv_istore (lv' := [(11, .int (oI 0)), (14, .long (oJ v175)), (0, .ref (ad167 q0)), (1, .ref (ad167 1)), (2, .int (oI x2)), (3, .ref (ad167 q3)), (4, .long (oJ x4)), (6, .int (oI x6)), (7, .int (oI x7)), (8, .int (oI x8)), (9, .long (oJ (x9 + r126))), (12, .int (oI x12)), (13, .int (oI r126))]) hx hb d_L11_364 hl (by decide) rfl (fun ls hl => ?_)
              refine lv_iinc (v := oI (x12 + 1)) (lv' := [(12, .int (oI (x12 + 1))), (11, .int (oI 0)), (14, .long (oJ v175)), (0, .ref (ad167 q0)), (1, .ref (ad167 1)), (2, .int (oI x2)), (3, .ref (ad167 q3)), (4, .long (oJ x4)), (6, .int (oI x6)), (7, .int (oI x7)), (8, .int (oI x8)), (9, .long (oJ (x9 + r126))), (13, .int (oI r126))]) hx hb d_L11_366 hl (k := 11) rfl (oI_add x12 1) (by decide) rfl (fun ls hl => ?_)
              refine lv_goto (tgt := 151) hx hb d_L11_369 (by decide) ?_
              obtain ⟨rfl, rfl, rfl, rfl, rfl, rfl⟩ := in6 h
              exact W.wide (by omega) (by omega) (k0 ad167 hag0 hE0 rfl H locs ls hP hD hS (lv_sub hl [3, 4, 5, 6, 7, 8, 9, 10, 11, 1, 0] rfl))
            · have h := ite_f (fun q => c9 ((oI_eq0 ok176).mpr q)) h
              refine lv_iload hx hb d_L11_339 (lv_at hl 12 rfl) ?_
              refine lv_i2l (v := oJ r126) hx hb d_L11_341 (oI_l ok127) ?_
              refine lv_lload hx hb d_L11_342 (lv_at hl 0 rfl) ?_
              obtain ⟨ok177, h⟩ := ck_e h
              refine W.lcmp hx hb d_L11_344 ?_
              refine nrm (cmp_val (a := r126) (b := v175) (rg_ij ok127) ok177) ?_
              refine lv_if_eq (tgt := 359) hx hb d_L11_345 (by decide) (fun c9 => ?_) (fun c9 => ?_)
              · have h := ite_t ((cmp_eq r126 v175).mp c9) h
                refine lv_iconst (v := oI 1) hx hb d_L11_359 (by decide +kernel) ?_
                refine lv_goto (tgt := 364) hx hb d_L11_360 (by decide) ?_
                refine lv_istore (lv' := [(11, .int (oI 1)), (14, .long (oJ v175)), (0, .ref (ad167 q0)), (1, .ref (ad167 1)), (2, .int (oI x2)), (3, .ref (ad167 q3)), (4, .long (oJ x4)), (6, .int (oI x6)), (7, .int (oI x7)), (8, .int (oI x8)), (9, .long (oJ (x9 + r126))), (12, .int (oI x12)), (13, .int (oI r126))]) hx hb d_L11_364 hl (by decide) rfl (fun ls hl => ?_)
                refine lv_iinc (v := oI (x12 + 1)) (lv' := [(12, .int (oI (x12 + 1))), (11, .int (oI 1)), (14, .long (oJ v175)), (0, .ref (ad167 q0)), (1, .ref (ad167 1)), (2, .int (oI x2)), (3, .ref (ad167 q3)), (4, .long (oJ x4)), (6, .int (oI x6)), (7, .int (oI x7)), (8, .int (oI x8)), (9, .long (oJ (x9 + r126))), (13, .int (oI r126))]) hx hb d_L11_366 hl (k := 11) rfl (oI_add x12 1) (by decide) rfl (fun ls hl => ?_)
                refine lv_goto (tgt := 151) hx hb d_L11_369 (by decide) ?_
                obtain ⟨rfl, rfl, rfl, rfl, rfl, rfl⟩ := in6 h
                exact W.wide (by omega) (by omega) (k0 ad167 hag0 hE0 rfl H locs ls hP hD hS (lv_sub hl [3, 4, 5, 6, 7, 8, 9, 10, 11, 1, 0] rfl))
              · have h := ite_f (fun q => c9 ((cmp_eq r126 v175).mpr q)) h
                refine lv_iload hx hb d_L11_348 (lv_at hl 12 rfl) ?_
                refine lv_i2l (v := oJ r126) hx hb d_L11_350 (oI_l ok127) ?_
                refine lv_lload hx hb d_L11_351 (lv_at hl 0 rfl) ?_
                refine lv_lconst (v := oJ 1) hx hb d_L11_353 (by decide +kernel) ?_
                refine lv_ladd hx hb d_L11_354 ?_
                refine nrmL (oJ_add _ _) ?_
                obtain ⟨ok178, h⟩ := ck_e h
                refine W.lcmp hx hb d_L11_355 ?_
                refine nrm (cmp_val (a := r126) (b := (v175 + 1)) (rg_ij ok127) ok178) ?_
                refine lv_if_ne (tgt := 363) hx hb d_L11_356 (by decide) (fun c9 => ?_) (fun c9 => ?_)
                · have h := ite_f (fun q => c9 ((cmp_eq r126 (v175 + 1)).mpr q)) h
                  refine lv_iconst (v := oI 0) hx hb d_L11_363 (by decide +kernel) ?_
                  refine lv_istore (lv' := [(11, .int (oI 0)), (14, .long (oJ v175)), (0, .ref (ad167 q0)), (1, .ref (ad167 1)), (2, .int (oI x2)), (3, .ref (ad167 q3)), (4, .long (oJ x4)), (6, .int (oI x6)), (7, .int (oI x7)), (8, .int (oI x8)), (9, .long (oJ (x9 + r126))), (12, .int (oI x12)), (13, .int (oI r126))]) hx hb d_L11_364 hl (by decide) rfl (fun ls hl => ?_)
                  refine lv_iinc (v := oI (x12 + 1)) (lv' := [(12, .int (oI (x12 + 1))), (11, .int (oI 0)), (14, .long (oJ v175)), (0, .ref (ad167 q0)), (1, .ref (ad167 1)), (2, .int (oI x2)), (3, .ref (ad167 q3)), (4, .long (oJ x4)), (6, .int (oI x6)), (7, .int (oI x7)), (8, .int (oI x8)), (9, .long (oJ (x9 + r126))), (13, .int (oI r126))]) hx hb d_L11_366 hl (k := 11) rfl (oI_add x12 1) (by decide) rfl (fun ls hl => ?_)
                  refine lv_goto (tgt := 151) hx hb d_L11_369 (by decide) ?_
                  obtain ⟨rfl, rfl, rfl, rfl, rfl, rfl⟩ := in6 h
                  exact W.wide (by omega) (by omega) (k0 ad167 hag0 hE0 rfl H locs ls hP hD hS (lv_sub hl [3, 4, 5, 6, 7, 8, 9, 10, 11, 1, 0] rfl))
                · have h := ite_t ((cmp_eq r126 (v175 + 1)).mp c9) h
                  refine lv_iconst (v := oI 1) hx hb d_L11_359 (by decide +kernel) ?_
                  refine lv_goto (tgt := 364) hx hb d_L11_360 (by decide) ?_
                  refine lv_istore (lv' := [(11, .int (oI 1)), (14, .long (oJ v175)), (0, .ref (ad167 q0)), (1, .ref (ad167 1)), (2, .int (oI x2)), (3, .ref (ad167 q3)), (4, .long (oJ x4)), (6, .int (oI x6)), (7, .int (oI x7)), (8, .int (oI x8)), (9, .long (oJ (x9 + r126))), (12, .int (oI x12)), (13, .int (oI r126))]) hx hb d_L11_364 hl (by decide) rfl (fun ls hl => ?_)
                  refine lv_iinc (v := oI (x12 + 1)) (lv' := [(12, .int (oI (x12 + 1))), (11, .int (oI 1)), (14, .long (oJ v175)), (0, .ref (ad167 q0)), (1, .ref (ad167 1)), (2, .int (oI x2)), (3, .ref (ad167 q3)), (4, .long (oJ x4)), (6, .int (oI x6)), (7, .int (oI x7)), (8, .int (oI x8)), (9, .long (oJ (x9 + r126))), (13, .int (oI r126))]) hx hb d_L11_366 hl (k := 11) rfl (oI_add x12 1) (by decide) rfl (fun ls hl => ?_)
                  refine lv_goto (tgt := 151) hx hb d_L11_369 (by decide) ?_
                  obtain ⟨rfl, rfl, rfl, rfl, rfl, rfl⟩ := in6 h
                  exact W.wide (by omega) (by omega) (k0 ad167 hag0 hE0 rfl H locs ls hP hD hS (lv_sub hl [3, 4, 5, 6, 7, 8, 9, 10, 11, 1, 0] rfl))
      · have h := ite_f (fun q => c9 ((oI_gt0 ok166).mpr q)) h
        refine lv_iload hx hb d_L11_185 (lv_at hl 1 rfl) ?_
        refine lv_if_ne (tgt := 194) hx hb d_L11_187 (by decide) (fun c9 => ?_) (fun c9 => ?_)
        · have h := ite_f (fun q => c9 ((oI_eq0 ok127).mpr q)) h
          refine lv_iconst (v := oI 0) hx hb d_L11_194 (by decide +kernel) ?_
          refine lv_istore (lv' := [(11, .int (oI 0)), (9, .long (oJ (x9 + r126))), (13, .int (oI r126)), (0, .ref (ad q0)), (1, .ref (ad 1)), (2, .int (oI x2)), (3, .ref (ad q3)), (4, .long (oJ x4)), (6, .int (oI x6)), (7, .int (oI x7)), (8, .int (oI x8)), (12, .int (oI x12))]) hx hb d_L11_195 hl (by decide) rfl (fun ls hl => ?_)
          refine lv_iconst (v := oI 0) hx hb d_L11_197 (by decide +kernel) ?_
          refine lv_istore (lv' := [(14, .int (oI 0)), (11, .int (oI 0)), (9, .long (oJ (x9 + r126))), (13, .int (oI r126)), (0, .ref (ad q0)), (1, .ref (ad 1)), (2, .int (oI x2)), (3, .ref (ad q3)), (4, .long (oJ x4)), (6, .int (oI x6)), (7, .int (oI x7)), (8, .int (oI x8)), (12, .int (oI x12))]) hx hb d_L11_198 hl (by decide) rfl (fun ls hl => ?_)
          obtain ⟨⟨t179, v179_11, v179_14, E179, M179⟩, g179, h⟩ := bd_e h
          obtain ⟨hgw179, h⟩ := ck_e h
          obtain ⟨hL179, h⟩ := ck_e h
          obtain ⟨ok179, h⟩ := ck_e h
          refine s_La_seats_200 l z E ad q0 x2 q3 x4 x6 x7 x8 (x9 + r126) x12 r126 hx hb hml hts hown hlocks hA hG hZ mc ms (c0 + 0) (s0 + 0) (by omega) (by omega) 5000 _ _ ad E M 0 0 t179 v179_11 v179_14 E179 M179 (by omega) (by omega) (fun _ _ => rfl) (Nat.le_refl _) g179 (fun ad179 hag179 hEE179 e179 H locs ls hP hD hS hl => ?_) H locs ls hP hD hS (lv_sub hl [4, 5, 6, 7, 8, 9, 10, 11, 2, 1, 12, 3, 0] rfl)
          have hag0 : ∀ i, i < nE E0 → ad179 i = ad0 i := fun i hi => (hag179 i (Nat.lt_of_lt_of_le hi hE0)).trans (hag0 i hi)
          have hE0 : nE E0 ≤ nE E179 := Nat.le_trans hE0 hgw179.1
          have hL : Lay E179 := hL179
          have h_q0 : isIA E179 q0 := isA_up hgw179 h_q0
          have h_q3 : isIA E179 q3 := isA_up hgw179 h_q3
          refine lv_iload hx hb d_L11_307 (lv_at hl 5 rfl) ?_
          refine lv_iconst (v := oI 5) hx hb d_L11_309 (by decide +kernel) ?_
          obtain ⟨ok180, h⟩ := ck_e h
          refine lv_icmp_ne (tgt := 366) hx hb d_L11_310 (by decide) (fun c9 => ?_) (fun c9 => ?_)
          · have h := ite_f (fun q => c9 ((oI_eq (a := x6) (b := (5 : Int)) ok180 (by decide)).mpr q)) h
            refine lv_iinc (v := oI (x12 + 1)) (lv' := [(12, .int (oI (x12 + 1))), (0, .ref (ad179 q0)), (1, .ref (ad179 1)), (2, .int (oI x2)), (3, .ref (ad179 q3)), (4, .long (oJ x4)), (6, .int (oI x6)), (7, .int (oI x7)), (8, .int (oI x8)), (9, .long (oJ (x9 + r126))), (11, .int (oI v179_11)), (13, .int (oI r126))]) hx hb d_L11_366 hl (k := 10) rfl (oI_add x12 1) (by decide) rfl (fun ls hl => ?_)
            refine lv_goto (tgt := 151) hx hb d_L11_369 (by decide) ?_
            obtain ⟨rfl, rfl, rfl, rfl, rfl, rfl⟩ := in6 h
            exact W.wide (by omega) (by omega) (k0 ad179 hag0 hE0 rfl H locs ls hP hD hS (lv_sub hl [1, 2, 3, 4, 5, 6, 7, 8, 9, 10, 0] rfl))
          · have h := ite_t ((oI_eq (a := x6) (b := (5 : Int)) ok180 (by decide)).mp c9) h
            refine lv_lload hx hb d_L11_313 (lv_at hl 4 rfl) ?_
            refine lv_lconst (v := oJ 0) hx hb d_L11_315 (by decide +kernel) ?_
            obtain ⟨ok181, h⟩ := ck_e h
            refine W.lcmp hx hb d_L11_316 ?_
            refine nrm (cmp_val (a := x4) (b := (0 : Int)) ok181 (by decide)) ?_
            refine lv_if_le (tgt := 366) hx hb d_L11_317 (by decide) (fun c9 => ?_) (fun c9 => ?_)
            · have h := ite_t ((cmp_le x4 (0 : Int)).mp c9) h
              refine lv_iinc (v := oI (x12 + 1)) (lv' := [(12, .int (oI (x12 + 1))), (0, .ref (ad179 q0)), (1, .ref (ad179 1)), (2, .int (oI x2)), (3, .ref (ad179 q3)), (4, .long (oJ x4)), (6, .int (oI x6)), (7, .int (oI x7)), (8, .int (oI x8)), (9, .long (oJ (x9 + r126))), (11, .int (oI v179_11)), (13, .int (oI r126))]) hx hb d_L11_366 hl (k := 10) rfl (oI_add x12 1) (by decide) rfl (fun ls hl => ?_)
              refine lv_goto (tgt := 151) hx hb d_L11_369 (by decide) ?_
              obtain ⟨rfl, rfl, rfl, rfl, rfl, rfl⟩ := in6 h
              exact W.wide (by omega) (by omega) (k0 ad179 hag0 hE0 rfl H locs ls hP hD hS (lv_sub hl [1, 2, 3, 4, 5, 6, 7, 8, 9, 10, 0] rfl))
            · have h := ite_f (fun q => c9 ((cmp_le x4 (0 : Int)).mpr q)) h
              refine lv_aload_n hx hb d_L11_320 rfl (lv_at hl 3 rfl) ?_
              refine lv_iload hx hb d_L11_321 (lv_at hl 10 rfl) ?_
              obtain ⟨ok182, h⟩ := ck_e h
              refine m_ia hx hb hG hP h_q3.1 (isIA_T h_q3) ok182 d_L11_323 ?_
              obtain ⟨ok183, h⟩ := ck_e h
              refine lv_i2l (v := oJ (M179 q3 x12.toNat)) hx hb d_L11_324 (oI_l ok183) ?_
              refine lv_iload hx hb d_L11_325 (lv_at hl 6 rfl) ?_
              obtain ⟨ok184, h⟩ := ck_e h
              refine lv_i2l (v := oJ x7) hx hb d_L11_327 (oI_l ok184) ?_
              refine lv_lmul hx hb d_L11_328 ?_
              refine nrmL (oJ_mul _ _) ?_
              refine lv_lload hx hb d_L11_329 (lv_at hl 4 rfl) ?_
              obtain ⟨ok185, h⟩ := ck_e h
              obtain ⟨ok186, h⟩ := ck_e h
              refine lv_ldiv hx hb d_L11_331 (oJ_nz ok186.1 ok186.2) ?_
              refine nrmL (oJ_div (a := ((M179 q3 x12.toNat) * x7)) (b := x4) ok185.1 ok185.2 ok186.1 ok186.2) ?_
              obtain ⟨v187, e187, h⟩ := nb_e h
              refine nrmL (congrArg oJ e187.symm) ?_
              refine lv_lstore (lv' := [(14, .long (oJ v187)), (0, .ref (ad179 q0)), (1, .ref (ad179 1)), (2, .int (oI x2)), (3, .ref (ad179 q3)), (4, .long (oJ x4)), (6, .int (oI x6)), (7, .int (oI x7)), (8, .int (oI x8)), (9, .long (oJ (x9 + r126))), (11, .int (oI v179_11)), (12, .int (oI x12)), (13, .int (oI r126))]) hx hb d_L11_332 hl (by decide) rfl (fun ls hl => ?_)
              refine lv_iload hx hb d_L11_334 (lv_at hl 10 rfl) ?_
              obtain ⟨ok188, h⟩ := ck_e h
              refine lv_if_eq (tgt := 363) hx hb d_L11_336 (by decide) (fun c9 => ?_) (fun c9 => ?_)
              · have h := ite_t ((oI_eq0 ok188).mp c9) h
                refine lv_iconst (v := oI 0) hx hb d_L11_363 (by decide +kernel) ?_
                refine lv_istore (lv' := [(11, .int (oI 0)), (14, .long (oJ v187)), (0, .ref (ad179 q0)), (1, .ref (ad179 1)), (2, .int (oI x2)), (3, .ref (ad179 q3)), (4, .long (oJ x4)), (6, .int (oI x6)), (7, .int (oI x7)), (8, .int (oI x8)), (9, .long (oJ (x9 + r126))), (12, .int (oI x12)), (13, .int (oI r126))]) hx hb d_L11_364 hl (by decide) rfl (fun ls hl => ?_)
                refine lv_iinc (v := oI (x12 + 1)) (lv' := [(12, .int (oI (x12 + 1))), (11, .int (oI 0)), (14, .long (oJ v187)), (0, .ref (ad179 q0)), (1, .ref (ad179 1)), (2, .int (oI x2)), (3, .ref (ad179 q3)), (4, .long (oJ x4)), (6, .int (oI x6)), (7, .int (oI x7)), (8, .int (oI x8)), (9, .long (oJ (x9 + r126))), (13, .int (oI r126))]) hx hb d_L11_366 hl (k := 11) rfl (oI_add x12 1) (by decide) rfl (fun ls hl => ?_)
                refine lv_goto (tgt := 151) hx hb d_L11_369 (by decide) ?_
                obtain ⟨rfl, rfl, rfl, rfl, rfl, rfl⟩ := in6 h
                exact W.wide (by omega) (by omega) (k0 ad179 hag0 hE0 rfl H locs ls hP hD hS (lv_sub hl [3, 4, 5, 6, 7, 8, 9, 10, 11, 1, 0] rfl))
              · have h := ite_f (fun q => c9 ((oI_eq0 ok188).mpr q)) h
                refine lv_iload hx hb d_L11_339 (lv_at hl 12 rfl) ?_
                refine lv_i2l (v := oJ r126) hx hb d_L11_341 (oI_l ok127) ?_
                refine lv_lload hx hb d_L11_342 (lv_at hl 0 rfl) ?_
                obtain ⟨ok189, h⟩ := ck_e h
                refine W.lcmp hx hb d_L11_344 ?_
                refine nrm (cmp_val (a := r126) (b := v187) (rg_ij ok127) ok189) ?_
                refine lv_if_eq (tgt := 359) hx hb d_L11_345 (by decide) (fun c9 => ?_) (fun c9 => ?_)
                · have h := ite_t ((cmp_eq r126 v187).mp c9) h
                  refine lv_iconst (v := oI 1) hx hb d_L11_359 (by decide +kernel) ?_
                  refine lv_goto (tgt := 364) hx hb d_L11_360 (by decide) ?_
                  refine lv_istore (lv' := [(11, .int (oI 1)), (14, .long (oJ v187)), (0, .ref (ad179 q0)), (1, .ref (ad179 1)), (2, .int (oI x2)), (3, .ref (ad179 q3)), (4, .long (oJ x4)), (6, .int (oI x6)), (7, .int (oI x7)), (8, .int (oI x8)), (9, .long (oJ (x9 + r126))), (12, .int (oI x12)), (13, .int (oI r126))]) hx hb d_L11_364 hl (by decide) rfl (fun ls hl => ?_)
                  refine lv_iinc (v := oI (x12 + 1)) (lv' := [(12, .int (oI (x12 + 1))), (11, .int (oI 1)), (14, .long (oJ v187)), (0, .ref (ad179 q0)), (1, .ref (ad179 1)), (2, .int (oI x2)), (3, .ref (ad179 q3)), (4, .long (oJ x4)), (6, .int (oI x6)), (7, .int (oI x7)), (8, .int (oI x8)), (9, .long (oJ (x9 + r126))), (13, .int (oI r126))]) hx hb d_L11_366 hl (k := 11) rfl (oI_add x12 1) (by decide) rfl (fun ls hl => ?_)
                  refine lv_goto (tgt := 151) hx hb d_L11_369 (by decide) ?_
                  obtain ⟨rfl, rfl, rfl, rfl, rfl, rfl⟩ := in6 h
                  exact W.wide (by omega) (by omega) (k0 ad179 hag0 hE0 rfl H locs ls hP hD hS (lv_sub hl [3, 4, 5, 6, 7, 8, 9, 10, 11, 1, 0] rfl))
                · have h := ite_f (fun q => c9 ((cmp_eq r126 v187).mpr q)) h
                  refine lv_iload hx hb d_L11_348 (lv_at hl 12 rfl) ?_
                  refine lv_i2l (v := oJ r126) hx hb d_L11_350 (oI_l ok127) ?_
                  refine lv_lload hx hb d_L11_351 (lv_at hl 0 rfl) ?_
                  refine lv_lconst (v := oJ 1) hx hb d_L11_353 (by decide +kernel) ?_
                  refine lv_ladd hx hb d_L11_354 ?_
                  refine nrmL (oJ_add _ _) ?_
                  obtain ⟨ok190, h⟩ := ck_e h
                  refine W.lcmp hx hb d_L11_355 ?_
                  refine nrm (cmp_val (a := r126) (b := (v187 + 1)) (rg_ij ok127) ok190) ?_
                  refine lv_if_ne (tgt := 363) hx hb d_L11_356 (by decide) (fun c9 => ?_) (fun c9 => ?_)
                  · have h := ite_f (fun q => c9 ((cmp_eq r126 (v187 + 1)).mpr q)) h
                    refine lv_iconst (v := oI 0) hx hb d_L11_363 (by decide +kernel) ?_
                    refine lv_istore (lv' := [(11, .int (oI 0)), (14, .long (oJ v187)), (0, .ref (ad179 q0)), (1, .ref (ad179 1)), (2, .int (oI x2)), (3, .ref (ad179 q3)), (4, .long (oJ x4)), (6, .int (oI x6)), (7, .int (oI x7)), (8, .int (oI x8)), (9, .long (oJ (x9 + r126))), (12, .int (oI x12)), (13, .int (oI r126))]) hx hb d_L11_364 hl (by decide) rfl (fun ls hl => ?_)
                    refine lv_iinc (v := oI (x12 + 1)) (lv' := [(12, .int (oI (x12 + 1))), (11, .int (oI 0)), (14, .long (oJ v187)), (0, .ref (ad179 q0)), (1, .ref (ad179 1)), (2, .int (oI x2)), (3, .ref (ad179 q3)), (4, .long (oJ x4)), (6, .int (oI x6)), (7, .int (oI x7)), (8, .int (oI x8)), (9, .long (oJ (x9 + r126))), (13, .int (oI r126))]) hx hb d_L11_366 hl (k := 11) rfl (oI_add x12 1) (by decide) rfl (fun ls hl => ?_)
                    refine lv_goto (tgt := 151) hx hb d_L11_369 (by decide) ?_
                    obtain ⟨rfl, rfl, rfl, rfl, rfl, rfl⟩ := in6 h
                    exact W.wide (by omega) (by omega) (k0 ad179 hag0 hE0 rfl H locs ls hP hD hS (lv_sub hl [3, 4, 5, 6, 7, 8, 9, 10, 11, 1, 0] rfl))
                  · have h := ite_t ((cmp_eq r126 (v187 + 1)).mp c9) h
                    refine lv_iconst (v := oI 1) hx hb d_L11_359 (by decide +kernel) ?_
                    refine lv_goto (tgt := 364) hx hb d_L11_360 (by decide) ?_
                    refine lv_istore (lv' := [(11, .int (oI 1)), (14, .long (oJ v187)), (0, .ref (ad179 q0)), (1, .ref (ad179 1)), (2, .int (oI x2)), (3, .ref (ad179 q3)), (4, .long (oJ x4)), (6, .int (oI x6)), (7, .int (oI x7)), (8, .int (oI x8)), (9, .long (oJ (x9 + r126))), (12, .int (oI x12)), (13, .int (oI r126))]) hx hb d_L11_364 hl (by decide) rfl (fun ls hl => ?_)
                    refine lv_iinc (v := oI (x12 + 1)) (lv' := [(12, .int (oI (x12 + 1))), (11, .int (oI 1)), (14, .long (oJ v187)), (0, .ref (ad179 q0)), (1, .ref (ad179 1)), (2, .int (oI x2)), (3, .ref (ad179 q3)), (4, .long (oJ x4)), (6, .int (oI x6)), (7, .int (oI x7)), (8, .int (oI x8)), (9, .long (oJ (x9 + r126))), (13, .int (oI r126))]) hx hb d_L11_366 hl (k := 11) rfl (oI_add x12 1) (by decide) rfl (fun ls hl => ?_)
                    refine lv_goto (tgt := 151) hx hb d_L11_369 (by decide) ?_
                    obtain ⟨rfl, rfl, rfl, rfl, rfl, rfl⟩ := in6 h
                    exact W.wide (by omega) (by omega) (k0 ad179 hag0 hE0 rfl H locs ls hP hD hS (lv_sub hl [3, 4, 5, 6, 7, 8, 9, 10, 11, 1, 0] rfl))
        · have h := ite_t ((oI_eq0 ok127).mp c9) h
          refine lv_iconst (v := oI 1) hx hb d_L11_190 (by decide +kernel) ?_
          refine lv_goto (tgt := 195) hx hb d_L11_191 (by decide) ?_
          refine lv_istore (lv' := [(11, .int (oI 1)), (9, .long (oJ (x9 + r126))), (13, .int (oI r126)), (0, .ref (ad q0)), (1, .ref (ad 1)), (2, .int (oI x2)), (3, .ref (ad q3)), (4, .long (oJ x4)), (6, .int (oI x6)), (7, .int (oI x7)), (8, .int (oI x8)), (12, .int (oI x12))]) hx hb d_L11_195 hl (by decide) rfl (fun ls hl => ?_)
          refine lv_iconst (v := oI 0) hx hb d_L11_197 (by decide +kernel) ?_
          refine lv_istore (lv' := [(14, .int (oI 0)), (11, .int (oI 1)), (9, .long (oJ (x9 + r126))), (13, .int (oI r126)), (0, .ref (ad q0)), (1, .ref (ad 1)), (2, .int (oI x2)), (3, .ref (ad q3)), (4, .long (oJ x4)), (6, .int (oI x6)), (7, .int (oI x7)), (8, .int (oI x8)), (12, .int (oI x12))]) hx hb d_L11_198 hl (by decide) rfl (fun ls hl => ?_)
          obtain ⟨⟨t191, v191_11, v191_14, E191, M191⟩, g191, h⟩ := bd_e h
          obtain ⟨hgw191, h⟩ := ck_e h
          obtain ⟨hL191, h⟩ := ck_e h
          obtain ⟨ok191, h⟩ := ck_e h
          refine s_La_seats_200 l z E ad q0 x2 q3 x4 x6 x7 x8 (x9 + r126) x12 r126 hx hb hml hts hown hlocks hA hG hZ mc ms (c0 + 0) (s0 + 0) (by omega) (by omega) 5000 _ _ ad E M 1 0 t191 v191_11 v191_14 E191 M191 (by omega) (by omega) (fun _ _ => rfl) (Nat.le_refl _) g191 (fun ad191 hag191 hEE191 e191 H locs ls hP hD hS hl => ?_) H locs ls hP hD hS (lv_sub hl [4, 5, 6, 7, 8, 9, 10, 11, 2, 1, 12, 3, 0] rfl)
          have hag0 : ∀ i, i < nE E0 → ad191 i = ad0 i := fun i hi => (hag191 i (Nat.lt_of_lt_of_le hi hE0)).trans (hag0 i hi)
          have hE0 : nE E0 ≤ nE E191 := Nat.le_trans hE0 hgw191.1
          have hL : Lay E191 := hL191
          have h_q0 : isIA E191 q0 := isA_up hgw191 h_q0
          have h_q3 : isIA E191 q3 := isA_up hgw191 h_q3
          refine lv_iload hx hb d_L11_307 (lv_at hl 5 rfl) ?_
          refine lv_iconst (v := oI 5) hx hb d_L11_309 (by decide +kernel) ?_
          obtain ⟨ok192, h⟩ := ck_e h
          refine lv_icmp_ne (tgt := 366) hx hb d_L11_310 (by decide) (fun c9 => ?_) (fun c9 => ?_)
          · have h := ite_f (fun q => c9 ((oI_eq (a := x6) (b := (5 : Int)) ok192 (by decide)).mpr q)) h
            refine lv_iinc (v := oI (x12 + 1)) (lv' := [(12, .int (oI (x12 + 1))), (0, .ref (ad191 q0)), (1, .ref (ad191 1)), (2, .int (oI x2)), (3, .ref (ad191 q3)), (4, .long (oJ x4)), (6, .int (oI x6)), (7, .int (oI x7)), (8, .int (oI x8)), (9, .long (oJ (x9 + r126))), (11, .int (oI v191_11)), (13, .int (oI r126))]) hx hb d_L11_366 hl (k := 10) rfl (oI_add x12 1) (by decide) rfl (fun ls hl => ?_)
            refine lv_goto (tgt := 151) hx hb d_L11_369 (by decide) ?_
            obtain ⟨rfl, rfl, rfl, rfl, rfl, rfl⟩ := in6 h
            exact W.wide (by omega) (by omega) (k0 ad191 hag0 hE0 rfl H locs ls hP hD hS (lv_sub hl [1, 2, 3, 4, 5, 6, 7, 8, 9, 10, 0] rfl))
          · have h := ite_t ((oI_eq (a := x6) (b := (5 : Int)) ok192 (by decide)).mp c9) h
            refine lv_lload hx hb d_L11_313 (lv_at hl 4 rfl) ?_
            refine lv_lconst (v := oJ 0) hx hb d_L11_315 (by decide +kernel) ?_
            obtain ⟨ok193, h⟩ := ck_e h
            refine W.lcmp hx hb d_L11_316 ?_
            refine nrm (cmp_val (a := x4) (b := (0 : Int)) ok193 (by decide)) ?_
            refine lv_if_le (tgt := 366) hx hb d_L11_317 (by decide) (fun c9 => ?_) (fun c9 => ?_)
            · have h := ite_t ((cmp_le x4 (0 : Int)).mp c9) h
              refine lv_iinc (v := oI (x12 + 1)) (lv' := [(12, .int (oI (x12 + 1))), (0, .ref (ad191 q0)), (1, .ref (ad191 1)), (2, .int (oI x2)), (3, .ref (ad191 q3)), (4, .long (oJ x4)), (6, .int (oI x6)), (7, .int (oI x7)), (8, .int (oI x8)), (9, .long (oJ (x9 + r126))), (11, .int (oI v191_11)), (13, .int (oI r126))]) hx hb d_L11_366 hl (k := 10) rfl (oI_add x12 1) (by decide) rfl (fun ls hl => ?_)
              refine lv_goto (tgt := 151) hx hb d_L11_369 (by decide) ?_
              obtain ⟨rfl, rfl, rfl, rfl, rfl, rfl⟩ := in6 h
              exact W.wide (by omega) (by omega) (k0 ad191 hag0 hE0 rfl H locs ls hP hD hS (lv_sub hl [1, 2, 3, 4, 5, 6, 7, 8, 9, 10, 0] rfl))
            · have h := ite_f (fun q => c9 ((cmp_le x4 (0 : Int)).mpr q)) h
              refine lv_aload_n hx hb d_L11_320 rfl (lv_at hl 3 rfl) ?_
              refine lv_iload hx hb d_L11_321 (lv_at hl 10 rfl) ?_
              obtain ⟨ok194, h⟩ := ck_e h
              refine m_ia hx hb hG hP h_q3.1 (isIA_T h_q3) ok194 d_L11_323 ?_
              obtain ⟨ok195, h⟩ := ck_e h
              refine lv_i2l (v := oJ (M191 q3 x12.toNat)) hx hb d_L11_324 (oI_l ok195) ?_
              refine lv_iload hx hb d_L11_325 (lv_at hl 6 rfl) ?_
              obtain ⟨ok196, h⟩ := ck_e h
              refine lv_i2l (v := oJ x7) hx hb d_L11_327 (oI_l ok196) ?_
              refine lv_lmul hx hb d_L11_328 ?_
              refine nrmL (oJ_mul _ _) ?_
              refine lv_lload hx hb d_L11_329 (lv_at hl 4 rfl) ?_
              obtain ⟨ok197, h⟩ := ck_e h
              obtain ⟨ok198, h⟩ := ck_e h
              refine lv_ldiv hx hb d_L11_331 (oJ_nz ok198.1 ok198.2) ?_
              refine nrmL (oJ_div (a := ((M191 q3 x12.toNat) * x7)) (b := x4) ok197.1 ok197.2 ok198.1 ok198.2) ?_
              obtain ⟨v199, e199, h⟩ := nb_e h
              refine nrmL (congrArg oJ e199.symm) ?_
              refine lv_lstore (lv' := [(14, .long (oJ v199)), (0, .ref (ad191 q0)), (1, .ref (ad191 1)), (2, .int (oI x2)), (3, .ref (ad191 q3)), (4, .long (oJ x4)), (6, .int (oI x6)), (7, .int (oI x7)), (8, .int (oI x8)), (9, .long (oJ (x9 + r126))), (11, .int (oI v191_11)), (12, .int (oI x12)), (13, .int (oI r126))]) hx hb d_L11_332 hl (by decide) rfl (fun ls hl => ?_)
              refine lv_iload hx hb d_L11_334 (lv_at hl 10 rfl) ?_
              obtain ⟨ok200, h⟩ := ck_e h
              refine lv_if_eq (tgt := 363) hx hb d_L11_336 (by decide) (fun c9 => ?_) (fun c9 => ?_)
              · have h := ite_t ((oI_eq0 ok200).mp c9) h
                refine lv_iconst (v := oI 0) hx hb d_L11_363 (by decide +kernel) ?_
                refine lv_istore (lv' := [(11, .int (oI 0)), (14, .long (oJ v199)), (0, .ref (ad191 q0)), (1, .ref (ad191 1)), (2, .int (oI x2)), (3, .ref (ad191 q3)), (4, .long (oJ x4)), (6, .int (oI x6)), (7, .int (oI x7)), (8, .int (oI x8)), (9, .long (oJ (x9 + r126))), (12, .int (oI x12)), (13, .int (oI r126))]) hx hb d_L11_364 hl (by decide) rfl (fun ls hl => ?_)
                refine lv_iinc (v := oI (x12 + 1)) (lv' := [(12, .int (oI (x12 + 1))), (11, .int (oI 0)), (14, .long (oJ v199)), (0, .ref (ad191 q0)), (1, .ref (ad191 1)), (2, .int (oI x2)), (3, .ref (ad191 q3)), (4, .long (oJ x4)), (6, .int (oI x6)), (7, .int (oI x7)), (8, .int (oI x8)), (9, .long (oJ (x9 + r126))), (13, .int (oI r126))]) hx hb d_L11_366 hl (k := 11) rfl (oI_add x12 1) (by decide) rfl (fun ls hl => ?_)
                refine lv_goto (tgt := 151) hx hb d_L11_369 (by decide) ?_
                obtain ⟨rfl, rfl, rfl, rfl, rfl, rfl⟩ := in6 h
                exact W.wide (by omega) (by omega) (k0 ad191 hag0 hE0 rfl H locs ls hP hD hS (lv_sub hl [3, 4, 5, 6, 7, 8, 9, 10, 11, 1, 0] rfl))
              · have h := ite_f (fun q => c9 ((oI_eq0 ok200).mpr q)) h
                refine lv_iload hx hb d_L11_339 (lv_at hl 12 rfl) ?_
                refine lv_i2l (v := oJ r126) hx hb d_L11_341 (oI_l ok127) ?_
                refine lv_lload hx hb d_L11_342 (lv_at hl 0 rfl) ?_
                obtain ⟨ok201, h⟩ := ck_e h
                refine W.lcmp hx hb d_L11_344 ?_
                refine nrm (cmp_val (a := r126) (b := v199) (rg_ij ok127) ok201) ?_
                refine lv_if_eq (tgt := 359) hx hb d_L11_345 (by decide) (fun c9 => ?_) (fun c9 => ?_)
                · have h := ite_t ((cmp_eq r126 v199).mp c9) h
                  refine lv_iconst (v := oI 1) hx hb d_L11_359 (by decide +kernel) ?_
                  refine lv_goto (tgt := 364) hx hb d_L11_360 (by decide) ?_
                  refine lv_istore (lv' := [(11, .int (oI 1)), (14, .long (oJ v199)), (0, .ref (ad191 q0)), (1, .ref (ad191 1)), (2, .int (oI x2)), (3, .ref (ad191 q3)), (4, .long (oJ x4)), (6, .int (oI x6)), (7, .int (oI x7)), (8, .int (oI x8)), (9, .long (oJ (x9 + r126))), (12, .int (oI x12)), (13, .int (oI r126))]) hx hb d_L11_364 hl (by decide) rfl (fun ls hl => ?_)
                  refine lv_iinc (v := oI (x12 + 1)) (lv' := [(12, .int (oI (x12 + 1))), (11, .int (oI 1)), (14, .long (oJ v199)), (0, .ref (ad191 q0)), (1, .ref (ad191 1)), (2, .int (oI x2)), (3, .ref (ad191 q3)), (4, .long (oJ x4)), (6, .int (oI x6)), (7, .int (oI x7)), (8, .int (oI x8)), (9, .long (oJ (x9 + r126))), (13, .int (oI r126))]) hx hb d_L11_366 hl (k := 11) rfl (oI_add x12 1) (by decide) rfl (fun ls hl => ?_)
                  refine lv_goto (tgt := 151) hx hb d_L11_369 (by decide) ?_
                  obtain ⟨rfl, rfl, rfl, rfl, rfl, rfl⟩ := in6 h
                  exact W.wide (by omega) (by omega) (k0 ad191 hag0 hE0 rfl H locs ls hP hD hS (lv_sub hl [3, 4, 5, 6, 7, 8, 9, 10, 11, 1, 0] rfl))
                · have h := ite_f (fun q => c9 ((cmp_eq r126 v199).mpr q)) h
                  refine lv_iload hx hb d_L11_348 (lv_at hl 12 rfl) ?_
                  refine lv_i2l (v := oJ r126) hx hb d_L11_350 (oI_l ok127) ?_
                  refine lv_lload hx hb d_L11_351 (lv_at hl 0 rfl) ?_
                  refine lv_lconst (v := oJ 1) hx hb d_L11_353 (by decide +kernel) ?_
                  refine lv_ladd hx hb d_L11_354 ?_
                  refine nrmL (oJ_add _ _) ?_
                  obtain ⟨ok202, h⟩ := ck_e h
                  refine W.lcmp hx hb d_L11_355 ?_
                  refine nrm (cmp_val (a := r126) (b := (v199 + 1)) (rg_ij ok127) ok202) ?_
                  refine lv_if_ne (tgt := 363) hx hb d_L11_356 (by decide) (fun c9 => ?_) (fun c9 => ?_)
                  · have h := ite_f (fun q => c9 ((cmp_eq r126 (v199 + 1)).mpr q)) h
                    refine lv_iconst (v := oI 0) hx hb d_L11_363 (by decide +kernel) ?_
                    refine lv_istore (lv' := [(11, .int (oI 0)), (14, .long (oJ v199)), (0, .ref (ad191 q0)), (1, .ref (ad191 1)), (2, .int (oI x2)), (3, .ref (ad191 q3)), (4, .long (oJ x4)), (6, .int (oI x6)), (7, .int (oI x7)), (8, .int (oI x8)), (9, .long (oJ (x9 + r126))), (12, .int (oI x12)), (13, .int (oI r126))]) hx hb d_L11_364 hl (by decide) rfl (fun ls hl => ?_)
                    refine lv_iinc (v := oI (x12 + 1)) (lv' := [(12, .int (oI (x12 + 1))), (11, .int (oI 0)), (14, .long (oJ v199)), (0, .ref (ad191 q0)), (1, .ref (ad191 1)), (2, .int (oI x2)), (3, .ref (ad191 q3)), (4, .long (oJ x4)), (6, .int (oI x6)), (7, .int (oI x7)), (8, .int (oI x8)), (9, .long (oJ (x9 + r126))), (13, .int (oI r126))]) hx hb d_L11_366 hl (k := 11) rfl (oI_add x12 1) (by decide) rfl (fun ls hl => ?_)
                    refine lv_goto (tgt := 151) hx hb d_L11_369 (by decide) ?_
                    obtain ⟨rfl, rfl, rfl, rfl, rfl, rfl⟩ := in6 h
                    exact W.wide (by omega) (by omega) (k0 ad191 hag0 hE0 rfl H locs ls hP hD hS (lv_sub hl [3, 4, 5, 6, 7, 8, 9, 10, 11, 1, 0] rfl))
                  · have h := ite_t ((cmp_eq r126 (v199 + 1)).mp c9) h
                    refine lv_iconst (v := oI 1) hx hb d_L11_359 (by decide +kernel) ?_
                    refine lv_goto (tgt := 364) hx hb d_L11_360 (by decide) ?_
                    refine lv_istore (lv' := [(11, .int (oI 1)), (14, .long (oJ v199)), (0, .ref (ad191 q0)), (1, .ref (ad191 1)), (2, .int (oI x2)), (3, .ref (ad191 q3)), (4, .long (oJ x4)), (6, .int (oI x6)), (7, .int (oI x7)), (8, .int (oI x8)), (9, .long (oJ (x9 + r126))), (12, .int (oI x12)), (13, .int (oI r126))]) hx hb d_L11_364 hl (by decide) rfl (fun ls hl => ?_)
                    refine lv_iinc (v := oI (x12 + 1)) (lv' := [(12, .int (oI (x12 + 1))), (11, .int (oI 1)), (14, .long (oJ v199)), (0, .ref (ad191 q0)), (1, .ref (ad191 1)), (2, .int (oI x2)), (3, .ref (ad191 q3)), (4, .long (oJ x4)), (6, .int (oI x6)), (7, .int (oI x7)), (8, .int (oI x8)), (9, .long (oJ (x9 + r126))), (13, .int (oI r126))]) hx hb d_L11_366 hl (k := 11) rfl (oI_add x12 1) (by decide) rfl (fun ls hl => ?_)
                    refine lv_goto (tgt := 151) hx hb d_L11_369 (by decide) ?_
                    obtain ⟨rfl, rfl, rfl, rfl, rfl, rfl⟩ := in6 h
                    exact W.wide (by omega) (by omega) (k0 ad191 hag0 hE0 rfl H locs ls hP hD hS (lv_sub hl [3, 4, 5, 6, 7, 8, 9, 10, 11, 1, 0] rfl))
set_option maxRecDepth 100000 in
set_option maxHeartbeats 4000000 in
theorem s_La_seats_151 (l : Launch) (z : Zz) (E0 : Ev) (ad0 : Nat → Nat) (q0 : Nat) (x2 : Int) (q3 : Nat) (x4 : Int) (x6 : Int) (x7 : Int) (x8 : Int) {Q : State → Prop} {p : Program} {e : Env} {s : State} {m : MethodId} {below : List Frame} {meth : Method} {c : Code} {A : Nat → Prop} {args : Array Value} (hx : p.tables.exec = Jvm.exec) (hb : c.code = method_11_code) (hml : c.maxLocals = 20) (hts : ∀ w ∈ WG, w.before args s = true) (hown : s.vm.findClass "BallothallLaw" = some m.cls) (hlocks : meth.locks = false) (hA : ∀ q, s.heap.size ≤ q → A q) (hG : KG z s) (hZ : FZ z A s) (mc ms c1 s1 : Nat) (hm : c1 ≤ mc) (hm2 : s1 ≤ ms) : ∀ (fu c0 s0 : Nat) (ad : Nat → Nat) (E : Ev) (M : Mm) (x9 : Int) (x11 : Int) (x12 : Int) (t : Nat) (w9 : Int) (w11 : Int) (w12 : Int) (F : Ev) (N : Mm), c0 + fu * 0 ≤ c1 → s0 + fu * 0 ≤ s1 → (∀ i, i < nE E0 → ad i = ad0 i) → nE E0 ≤ nE E → l_La_seats_151 q0 x2 q3 x4 x6 x7 x8 fu E M x9 x11 x12 = some (t, w9, w11, w12, F, N) → (∀ (ad1 : Nat → Nat), (∀ i, i < nE E0 → ad1 i = ad0 i) → nE E0 ≤ nE F → t = 1 → ∀ (H : Heap) (locs : List Loc) (ls : Array Slot), va_P z.1 classes (wv z ad1 F N) H → va_D A (wv z ad1 F N) → va_S A s.heap H locs → lv_has ls 20 [(0, .ref (ad1 q0)), (1, .ref (ad1 1)), (2, .int (oI x2)), (6, .int (oI x6)), (7, .int (oI x7)), (8, .int (oI x8)), (9, .long (oJ w9)), (11, .int (oI w11))] → W p l e (rmK 7 190 mc ms) s m args below meth c H locs c1 s1 Q (F0 m 372 ls [])) → ∀ (H : Heap) (locs : List Loc) (ls : Array Slot), va_P z.1 classes (wv z ad E M) H → va_D A (wv z ad E M) → va_S A s.heap H locs → lv_has ls 20 [(0, .ref (ad q0)), (1, .ref (ad 1)), (2, .int (oI x2)), (3, .ref (ad q3)), (4, .long (oJ x4)), (6, .int (oI x6)), (7, .int (oI x7)), (8, .int (oI x8)), (9, .long (oJ x9)), (11, .int (oI x11)), (12, .int (oI x12))] → W p l e (rmK 7 190 mc ms) s m args below meth c H locs c0 s0 Q (F0 m 151 ls []) := by
  intro fu
  induction fu with
  | zero =>
    intro c0 s0 ad E M x9 x11 x12 t w9 w11 w12 F N hc hs hag0 hE0 h
    have h : (none : Option (Nat × Int × Int × Int × Ev × Mm)) = some _ := h
    cases h
  | succ fu ih =>
    intro c0 s0 ad E M x9 x11 x12 t w9 w11 w12 F N hc hs hag0 hE0 h k1 H locs ls hP hD hS hl
    obtain ⟨⟨t0, w90, w110, w120, F9, N9⟩, g0, h⟩ := bd_e h
    refine W.wide (Nat.le_refl _) (Nat.le_refl _) (b_La_seats_151b l z E0 ad0 ad E M q0 x2 q3 x4 x6 x7 x8 x9 x11 x12 t0 w90 w110 w120 F9 N9 hx hb hml hts hown hlocks hA hG hZ mc ms c0 s0 (c0 + 0) (s0 + 0) (Nat.le_refl _) (Nat.le_refl _) (by omega) (by omega) hag0 hE0 g0 (fun ad1 ha he e0 => ?_) (fun ad1 ha he e0 => ?_) H locs ls hP hD hS hl)
    · subst e0
      have h := ite_t rfl h
      exact ih (c0 + 0) (s0 + 0) ad1 F9 N9 w90 w110 w120 t w9 w11 w12 F N (by omega) (by omega) ha he h k1
    · subst e0
      have h := ite_f (by decide) h
      obtain ⟨rfl, rfl, rfl, rfl, rfl, rfl⟩ := in6 h
      exact fun H locs ls hP hD hS hl => W.wide (by omega) (by omega) (k1 ad1 ha he rfl H locs ls hP hD hS hl)
set_option maxRecDepth 100000 in
set_option maxHeartbeats 4000000 in
theorem b_La_seats_410b (l : Launch) (z : Zz) (E0 : Ev) (ad0 : Nat → Nat) (ad : Nat → Nat) (E : Ev) (M : Mm) (q0 : Nat) (x2 : Int) (x6 : Int) (x7 : Int) (x9 : Int) (x11 : Int) (q12 : Nat) (x13 : Int) (t : Nat) (w13 : Int) (F : Ev) (N : Mm) {Q : State → Prop} {p : Program} {e : Env} {s : State} {m : MethodId} {below : List Frame} {meth : Method} {c : Code} {A : Nat → Prop} {args : Array Value} (hx : p.tables.exec = Jvm.exec) (hb : c.code = method_11_code) (hml : c.maxLocals = 20) (hts : ∀ w ∈ WG, w.before args s = true) (hown : s.vm.findClass "BallothallLaw" = some m.cls) (hlocks : meth.locks = false) (hA : ∀ q, s.heap.size ≤ q → A q) (hG : KG z s) (hZ : FZ z A s) (mc ms c0 s0 c1 s1 : Nat) (hc : c0 + 0 ≤ c1) (hs : s0 + 0 ≤ s1) (hm : c1 ≤ mc) (hm2 : s1 ≤ ms) (hag0 : ∀ i, i < nE E0 → ad i = ad0 i) (hE0 : nE E0 ≤ nE E) (h : La_seats_410b E M q0 x2 x6 x7 x9 x11 q12 x13 = some (t, w13, F, N)) (k0 : ∀ (ad1 : Nat → Nat), (∀ i, i < nE E0 → ad1 i = ad0 i) → nE E0 ≤ nE F → t = 0 → ∀ (H : Heap) (locs : List Loc) (ls : Array Slot), va_P z.1 classes (wv z ad1 F N) H → va_D A (wv z ad1 F N) → va_S A s.heap H locs → lv_has ls 20 [(0, .ref (ad1 q0)), (1, .ref (ad1 1)), (2, .int (oI x2)), (6, .int (oI x6)), (7, .int (oI x7)), (9, .long (oJ x9)), (11, .int (oI x11)), (12, .ref (ad1 q12)), (13, .int (oI w13))] → W p l e (rmK 7 190 mc ms) s m args below meth c H locs c1 s1 Q (F0 m 410 ls [])) (k1 : ∀ (ad1 : Nat → Nat), (∀ i, i < nE E0 → ad1 i = ad0 i) → nE E0 ≤ nE F → t = 1 → ∀ (H : Heap) (locs : List Loc) (ls : Array Slot), va_P z.1 classes (wv z ad1 F N) H → va_D A (wv z ad1 F N) → va_S A s.heap H locs → lv_has ls 20 [(0, .ref (ad1 q0)), (1, .ref (ad1 1)), (2, .int (oI x2)), (6, .int (oI x6)), (7, .int (oI x7)), (9, .long (oJ x9)), (11, .int (oI x11)), (12, .ref (ad1 q12))] → W p l e (rmK 7 190 mc ms) s m args below meth c H locs c1 s1 Q (F0 m 438 ls [])) : ∀ (H : Heap) (locs : List Loc) (ls : Array Slot), va_P z.1 classes (wv z ad E M) H → va_D A (wv z ad E M) → va_S A s.heap H locs → lv_has ls 20 [(0, .ref (ad q0)), (1, .ref (ad 1)), (2, .int (oI x2)), (6, .int (oI x6)), (7, .int (oI x7)), (9, .long (oJ x9)), (11, .int (oI x11)), (12, .ref (ad q12)), (13, .int (oI x13))] → W p l e (rmK 7 190 mc ms) s m args below meth c H locs c0 s0 Q (F0 m 410 ls []) := by
  intro H locs ls hP hD hS hl
  unfold La_seats_410b at h
  obtain ⟨hL, h⟩ := ck_e h
  obtain ⟨h_q0, h⟩ := ck_e h
  obtain ⟨h_q12, h⟩ := ck_e h
  refine lv_iload hx hb d_L11_410 (lv_at hl 8 rfl) ?_
  obtain ⟨ok207, h⟩ := ck_e h
  refine lv_i2l (v := oJ x13) hx hb d_L11_412 (oI_l ok207) ?_
  refine lv_lload hx hb d_L11_413 (lv_at hl 5 rfl) ?_
  obtain ⟨ok208, h⟩ := ck_e h
  refine W.lcmp hx hb d_L11_415 ?_
  refine nrm (cmp_val (a := x13) (b := x9) (rg_ij ok207) ok208) ?_
  refine lv_if_ge (tgt := 438) hx hb d_L11_416 (by decide) (fun c9 => ?_) (fun c9 => ?_)
  · have h := ite_t ((cmp_ge x13 x9).mp c9) h
    obtain ⟨rfl, rfl, rfl, rfl⟩ := in4 h
    exact W.wide (by omega) (by omega) (k1 ad hag0 hE0 rfl H locs ls hP hD hS (lv_sub hl [0, 1, 2, 3, 4, 5, 6, 7] rfl))
  · have h := ite_f (fun q => c9 ((cmp_ge x13 x9).mpr q)) h
    refine lv_aload hx hb d_L11_419 (lv_at hl 7 rfl) ?_
    refine lv_aload_n hx hb d_L11_421 rfl (lv_at hl 1 rfl) ?_
    refine lv_iload hx hb d_L11_422 (lv_at hl 8 rfl) ?_
    obtain ⟨r209, g209, h⟩ := bd_e h
    refine kV (As := [.int (oI x13)]) (rest := [.ref (ad q12)]) (s_B_seatAt l z ad E M x13 r209 hL g209) hx hb hml hown hts w_1598 w_1595 w_1596 w_1597 w_1 md_4f41a0 ⟨Nat.le_of_ble_eq_true rfl, Nat.le_of_ble_eq_true rfl⟩ hG hZ hP hD hS hA 1 (wv_o (ci := 11) (yi_1 hL) (yt_1 hL)) rfl rfl rfl hl.1 rfl (Nat.le_of_ble_eq_true rfl) d_L11_424 ⟨(show _ ≤ mc by omega), (show _ ≤ ms by omega)⟩ (fun _ H locs hP hD hS => ?_)
    have hP : va_P z.1 classes (wv z ad E M) H := hP
    have hD : va_D A (wv z ad E M) := hD
    refine W.eq (g2 := F0 m 427 ls [.int (oI r209), .ref (ad q12)]) rfl ?_
    refine lv_dup2_11 hx hb d_L11_427 rfl rfl ?_
    obtain ⟨ok210, h⟩ := ck_e h
    refine m_ia hx hb hG hP h_q12.1 (isIA_T h_q12) ok210 d_L11_428 ?_
    refine lv_iconst (v := oI 1) hx hb d_L11_429 (by decide +kernel) ?_
    refine lv_iadd hx hb d_L11_430 ?_
    refine nrm (oI_add _ _) ?_
    refine m_is hx hb hG hP hD hS h_q12.1 (isIA_T h_q12) ok210 d_L11_431 (fun H locs hP hD hS => ?_)
    have hP : va_P z.1 classes (wv z ad E (u2 M q12 r209.toNat ((M q12 r209.toNat) + 1))) H := hP
    have hD : va_D A (wv z ad E (u2 M q12 r209.toNat ((M q12 r209.toNat) + 1))) := hD
    refine lv_iinc (v := oI (x13 + 1)) (lv' := [(13, .int (oI (x13 + 1))), (0, .ref (ad q0)), (1, .ref (ad 1)), (2, .int (oI x2)), (6, .int (oI x6)), (7, .int (oI x7)), (9, .long (oJ x9)), (11, .int (oI x11)), (12, .ref (ad q12))]) hx hb d_L11_432 hl (k := 8) rfl (oI_add x13 1) (by decide) rfl (fun ls hl => ?_)
    refine lv_goto (tgt := 410) hx hb d_L11_435 (by decide) ?_
    obtain ⟨rfl, rfl, rfl, rfl⟩ := in4 h
    exact W.wide (by omega) (by omega) (k0 ad hag0 hE0 rfl H locs ls hP hD hS (lv_sub hl [1, 2, 3, 4, 5, 6, 7, 8, 0] rfl))
set_option maxRecDepth 100000 in
set_option maxHeartbeats 4000000 in
theorem s_La_seats_410 (l : Launch) (z : Zz) (E0 : Ev) (ad0 : Nat → Nat) (q0 : Nat) (x2 : Int) (x6 : Int) (x7 : Int) (x9 : Int) (x11 : Int) (q12 : Nat) {Q : State → Prop} {p : Program} {e : Env} {s : State} {m : MethodId} {below : List Frame} {meth : Method} {c : Code} {A : Nat → Prop} {args : Array Value} (hx : p.tables.exec = Jvm.exec) (hb : c.code = method_11_code) (hml : c.maxLocals = 20) (hts : ∀ w ∈ WG, w.before args s = true) (hown : s.vm.findClass "BallothallLaw" = some m.cls) (hlocks : meth.locks = false) (hA : ∀ q, s.heap.size ≤ q → A q) (hG : KG z s) (hZ : FZ z A s) (mc ms c1 s1 : Nat) (hm : c1 ≤ mc) (hm2 : s1 ≤ ms) : ∀ (fu c0 s0 : Nat) (ad : Nat → Nat) (E : Ev) (M : Mm) (x13 : Int) (t : Nat) (w13 : Int) (F : Ev) (N : Mm), c0 + fu * 0 ≤ c1 → s0 + fu * 0 ≤ s1 → (∀ i, i < nE E0 → ad i = ad0 i) → nE E0 ≤ nE E → l_La_seats_410 q0 x2 x6 x7 x9 x11 q12 fu E M x13 = some (t, w13, F, N) → (∀ (ad1 : Nat → Nat), (∀ i, i < nE E0 → ad1 i = ad0 i) → nE E0 ≤ nE F → t = 1 → ∀ (H : Heap) (locs : List Loc) (ls : Array Slot), va_P z.1 classes (wv z ad1 F N) H → va_D A (wv z ad1 F N) → va_S A s.heap H locs → lv_has ls 20 [(0, .ref (ad1 q0)), (1, .ref (ad1 1)), (2, .int (oI x2)), (6, .int (oI x6)), (7, .int (oI x7)), (9, .long (oJ x9)), (11, .int (oI x11)), (12, .ref (ad1 q12))] → W p l e (rmK 7 190 mc ms) s m args below meth c H locs c1 s1 Q (F0 m 438 ls [])) → ∀ (H : Heap) (locs : List Loc) (ls : Array Slot), va_P z.1 classes (wv z ad E M) H → va_D A (wv z ad E M) → va_S A s.heap H locs → lv_has ls 20 [(0, .ref (ad q0)), (1, .ref (ad 1)), (2, .int (oI x2)), (6, .int (oI x6)), (7, .int (oI x7)), (9, .long (oJ x9)), (11, .int (oI x11)), (12, .ref (ad q12)), (13, .int (oI x13))] → W p l e (rmK 7 190 mc ms) s m args below meth c H locs c0 s0 Q (F0 m 410 ls []) := by
  intro fu
  induction fu with
  | zero =>
    intro c0 s0 ad E M x13 t w13 F N hc hs hag0 hE0 h
    have h : (none : Option (Nat × Int × Ev × Mm)) = some _ := h
    cases h
  | succ fu ih =>
    intro c0 s0 ad E M x13 t w13 F N hc hs hag0 hE0 h k1 H locs ls hP hD hS hl
    obtain ⟨⟨t0, w130, F9, N9⟩, g0, h⟩ := bd_e h
    refine W.wide (Nat.le_refl _) (Nat.le_refl _) (b_La_seats_410b l z E0 ad0 ad E M q0 x2 x6 x7 x9 x11 q12 x13 t0 w130 F9 N9 hx hb hml hts hown hlocks hA hG hZ mc ms c0 s0 (c0 + 0) (s0 + 0) (Nat.le_refl _) (Nat.le_refl _) (by omega) (by omega) hag0 hE0 g0 (fun ad1 ha he e0 => ?_) (fun ad1 ha he e0 => ?_) H locs ls hP hD hS hl)
    · subst e0
      have h := ite_t rfl h
      exact ih (c0 + 0) (s0 + 0) ad1 F9 N9 w130 t w13 F N (by omega) (by omega) ha he h k1
    · subst e0
      have h := ite_f (by decide) h
      obtain ⟨rfl, rfl, rfl, rfl⟩ := in4 h
      exact fun H locs ls hP hD hS hl => W.wide (by omega) (by omega) (k1 ad1 ha he rfl H locs ls hP hD hS hl)
set_option maxRecDepth 100000 in
set_option maxHeartbeats 4000000 in
theorem b_La_seats_441b (l : Launch) (z : Zz) (E0 : Ev) (ad0 : Nat → Nat) (ad : Nat → Nat) (E : Ev) (M : Mm) (q0 : Nat) (x2 : Int) (x6 : Int) (x7 : Int) (x9 : Int) (q12 : Nat) (x11 : Int) (x13 : Int) (t : Nat) (w11 : Int) (w13 : Int) (F : Ev) (N : Mm) {Q : State → Prop} {p : Program} {e : Env} {s : State} {m : MethodId} {below : List Frame} {meth : Method} {c : Code} {A : Nat → Prop} {args : Array Value} (hx : p.tables.exec = Jvm.exec) (hb : c.code = method_11_code) (hml : c.maxLocals = 20) (hts : ∀ w ∈ WG, w.before args s = true) (hown : s.vm.findClass "BallothallLaw" = some m.cls) (hlocks : meth.locks = false) (hA : ∀ q, s.heap.size ≤ q → A q) (hG : KG z s) (hZ : FZ z A s) (mc ms c0 s0 c1 s1 : Nat) (hc : c0 + 0 ≤ c1) (hs : s0 + 0 ≤ s1) (hm : c1 ≤ mc) (hm2 : s1 ≤ ms) (hag0 : ∀ i, i < nE E0 → ad i = ad0 i) (hE0 : nE E0 ≤ nE E) (h : La_seats_441b E M q0 x2 x6 x7 x9 q12 x11 x13 = some (t, w11, w13, F, N)) (k0 : ∀ (ad1 : Nat → Nat), (∀ i, i < nE E0 → ad1 i = ad0 i) → nE E0 ≤ nE F → t = 0 → ∀ (H : Heap) (locs : List Loc) (ls : Array Slot), va_P z.1 classes (wv z ad1 F N) H → va_D A (wv z ad1 F N) → va_S A s.heap H locs → lv_has ls 20 [(0, .ref (ad1 q0)), (1, .ref (ad1 1)), (2, .int (oI x2)), (6, .int (oI x6)), (7, .int (oI x7)), (9, .long (oJ x9)), (11, .int (oI w11)), (12, .ref (ad1 q12)), (13, .int (oI w13))] → W p l e (rmK 7 190 mc ms) s m args below meth c H locs c1 s1 Q (F0 m 441 ls [])) (k1 : ∀ (ad1 : Nat → Nat), (∀ i, i < nE E0 → ad1 i = ad0 i) → nE E0 ≤ nE F → t = 1 → ∀ (H : Heap) (locs : List Loc) (ls : Array Slot), va_P z.1 classes (wv z ad1 F N) H → va_D A (wv z ad1 F N) → va_S A s.heap H locs → lv_has ls 20 [(0, .ref (ad1 q0)), (1, .ref (ad1 1)), (2, .int (oI x2)), (6, .int (oI x6)), (7, .int (oI x7)), (9, .long (oJ x9)), (11, .int (oI w11))] → W p l e (rmK 7 190 mc ms) s m args below meth c H locs c1 s1 Q (F0 m 479 ls [])) : ∀ (H : Heap) (locs : List Loc) (ls : Array Slot), va_P z.1 classes (wv z ad E M) H → va_D A (wv z ad E M) → va_S A s.heap H locs → lv_has ls 20 [(0, .ref (ad q0)), (1, .ref (ad 1)), (2, .int (oI x2)), (6, .int (oI x6)), (7, .int (oI x7)), (9, .long (oJ x9)), (11, .int (oI x11)), (12, .ref (ad q12)), (13, .int (oI x13))] → W p l e (rmK 7 190 mc ms) s m args below meth c H locs c0 s0 Q (F0 m 441 ls []) := by
  intro H locs ls hP hD hS hl
  unfold La_seats_441b at h
  obtain ⟨hL, h⟩ := ck_e h
  obtain ⟨h_q0, h⟩ := ck_e h
  obtain ⟨h_q12, h⟩ := ck_e h
  refine lv_iload hx hb d_L11_441 (lv_at hl 8 rfl) ?_
  refine lv_iload_n hx hb d_L11_443 rfl (lv_at hl 2 rfl) ?_
  obtain ⟨ok212, h⟩ := ck_e h
  obtain ⟨ok213, h⟩ := ck_e h
  refine lv_icmp_ge (tgt := 479) hx hb d_L11_444 (by decide) (fun c9 => ?_) (fun c9 => ?_)
  · have h := ite_t ((oI_le (a := x2) (b := x13) ok213 ok212).mp c9) h
    obtain ⟨rfl, rfl, rfl, rfl, rfl⟩ := in5 h
    exact W.wide (by omega) (by omega) (k1 ad hag0 hE0 rfl H locs ls hP hD hS (lv_sub hl [0, 1, 2, 3, 4, 5, 6] rfl))
  · have h := ite_f (fun q => c9 ((oI_le (a := x2) (b := x13) ok213 ok212).mpr q)) h
    refine lv_iload hx hb d_L11_447 (lv_at hl 6 rfl) ?_
    obtain ⟨ok214, h⟩ := ck_e h
    refine lv_if_eq (tgt := 470) hx hb d_L11_449 (by decide) (fun c9 => ?_) (fun c9 => ?_)
    · have h := ite_t ((oI_eq0 ok214).mp c9) h
      refine lv_iconst (v := oI 0) hx hb d_L11_470 (by decide +kernel) ?_
      refine lv_istore (lv' := [(11, .int (oI 0)), (0, .ref (ad q0)), (1, .ref (ad 1)), (2, .int (oI x2)), (6, .int (oI x6)), (7, .int (oI x7)), (9, .long (oJ x9)), (12, .ref (ad q12)), (13, .int (oI x13))]) hx hb d_L11_471 hl (by decide) rfl (fun ls hl => ?_)
      refine lv_iinc (v := oI (x13 + 1)) (lv' := [(13, .int (oI (x13 + 1))), (11, .int (oI 0)), (0, .ref (ad q0)), (1, .ref (ad 1)), (2, .int (oI x2)), (6, .int (oI x6)), (7, .int (oI x7)), (9, .long (oJ x9)), (12, .ref (ad q12))]) hx hb d_L11_473 hl (k := 8) rfl (oI_add x13 1) (by decide) rfl (fun ls hl => ?_)
      refine lv_goto (tgt := 441) hx hb d_L11_476 (by decide) ?_
      obtain ⟨rfl, rfl, rfl, rfl, rfl⟩ := in5 h
      exact W.wide (by omega) (by omega) (k0 ad hag0 hE0 rfl H locs ls hP hD hS (lv_sub hl [2, 3, 4, 5, 6, 7, 1, 8, 0] rfl))
    · have h := ite_f (fun q => c9 ((oI_eq0 ok214).mpr q)) h
      refine lv_aload hx hb d_L11_452 (lv_at hl 7 rfl) ?_
      refine lv_iload hx hb d_L11_454 (lv_at hl 8 rfl) ?_
      obtain ⟨ok215, h⟩ := ck_e h
      refine m_ia hx hb hG hP h_q12.1 (isIA_T h_q12) ok215 d_L11_456 ?_
      refine lv_aload_n hx hb d_L11_457 rfl (lv_at hl 1 rfl) ?_
      refine lv_iload hx hb d_L11_458 (lv_at hl 8 rfl) ?_
      obtain ⟨r216, g216, h⟩ := bd_e h
      refine kV (As := [.int (oI x13)]) (rest := [.int (oI (M q12 x13.toNat))]) (s_B_seatsOf l z ad E M x13 r216 hL g216) hx hb hml hown hts w_1590 w_1587 w_1588 w_1589 w_1 md_6fdd17 ⟨Nat.le_of_ble_eq_true rfl, Nat.le_of_ble_eq_true rfl⟩ hG hZ hP hD hS hA 1 (wv_o (ci := 11) (yi_1 hL) (yt_1 hL)) rfl rfl rfl hl.1 rfl (Nat.le_of_ble_eq_true rfl) d_L11_460 ⟨(show _ ≤ mc by omega), (show _ ≤ ms by omega)⟩ (fun _ H locs hP hD hS => ?_)
      have hP : va_P z.1 classes (wv z ad E M) H := hP
      have hD : va_D A (wv z ad E M) := hD
      refine W.eq (g2 := F0 m 463 ls [.int (oI r216), .int (oI (M q12 x13.toNat))]) rfl ?_
      obtain ⟨ok217, h⟩ := ck_e h
      obtain ⟨ok218, h⟩ := ck_e h
      refine lv_icmp_ne (tgt := 470) hx hb d_L11_463 (by decide) (fun c9 => ?_) (fun c9 => ?_)
      · have h := ite_f (fun q => c9 ((oI_eq (a := (M q12 x13.toNat)) (b := r216) ok217 ok218).mpr q)) h
        refine lv_iconst (v := oI 0) hx hb d_L11_470 (by decide +kernel) ?_
        refine lv_istore (lv' := [(11, .int (oI 0)), (0, .ref (ad q0)), (1, .ref (ad 1)), (2, .int (oI x2)), (6, .int (oI x6)), (7, .int (oI x7)), (9, .long (oJ x9)), (12, .ref (ad q12)), (13, .int (oI x13))]) hx hb d_L11_471 hl (by decide) rfl (fun ls hl => ?_)
        refine lv_iinc (v := oI (x13 + 1)) (lv' := [(13, .int (oI (x13 + 1))), (11, .int (oI 0)), (0, .ref (ad q0)), (1, .ref (ad 1)), (2, .int (oI x2)), (6, .int (oI x6)), (7, .int (oI x7)), (9, .long (oJ x9)), (12, .ref (ad q12))]) hx hb d_L11_473 hl (k := 8) rfl (oI_add x13 1) (by decide) rfl (fun ls hl => ?_)
        refine lv_goto (tgt := 441) hx hb d_L11_476 (by decide) ?_
        obtain ⟨rfl, rfl, rfl, rfl, rfl⟩ := in5 h
        exact W.wide (by omega) (by omega) (k0 ad hag0 hE0 rfl H locs ls hP hD hS (lv_sub hl [2, 3, 4, 5, 6, 7, 1, 8, 0] rfl))
      · have h := ite_t ((oI_eq (a := (M q12 x13.toNat)) (b := r216) ok217 ok218).mp c9) h
        refine lv_iconst (v := oI 1) hx hb d_L11_466 (by decide +kernel) ?_
        refine lv_goto (tgt := 471) hx hb d_L11_467 (by decide) ?_
        refine lv_istore (lv' := [(11, .int (oI 1)), (0, .ref (ad q0)), (1, .ref (ad 1)), (2, .int (oI x2)), (6, .int (oI x6)), (7, .int (oI x7)), (9, .long (oJ x9)), (12, .ref (ad q12)), (13, .int (oI x13))]) hx hb d_L11_471 hl (by decide) rfl (fun ls hl => ?_)
        refine lv_iinc (v := oI (x13 + 1)) (lv' := [(13, .int (oI (x13 + 1))), (11, .int (oI 1)), (0, .ref (ad q0)), (1, .ref (ad 1)), (2, .int (oI x2)), (6, .int (oI x6)), (7, .int (oI x7)), (9, .long (oJ x9)), (12, .ref (ad q12))]) hx hb d_L11_473 hl (k := 8) rfl (oI_add x13 1) (by decide) rfl (fun ls hl => ?_)
        refine lv_goto (tgt := 441) hx hb d_L11_476 (by decide) ?_
        obtain ⟨rfl, rfl, rfl, rfl, rfl⟩ := in5 h
        exact W.wide (by omega) (by omega) (k0 ad hag0 hE0 rfl H locs ls hP hD hS (lv_sub hl [2, 3, 4, 5, 6, 7, 1, 8, 0] rfl))
set_option maxRecDepth 100000 in
set_option maxHeartbeats 4000000 in
theorem s_La_seats_441 (l : Launch) (z : Zz) (E0 : Ev) (ad0 : Nat → Nat) (q0 : Nat) (x2 : Int) (x6 : Int) (x7 : Int) (x9 : Int) (q12 : Nat) {Q : State → Prop} {p : Program} {e : Env} {s : State} {m : MethodId} {below : List Frame} {meth : Method} {c : Code} {A : Nat → Prop} {args : Array Value} (hx : p.tables.exec = Jvm.exec) (hb : c.code = method_11_code) (hml : c.maxLocals = 20) (hts : ∀ w ∈ WG, w.before args s = true) (hown : s.vm.findClass "BallothallLaw" = some m.cls) (hlocks : meth.locks = false) (hA : ∀ q, s.heap.size ≤ q → A q) (hG : KG z s) (hZ : FZ z A s) (mc ms c1 s1 : Nat) (hm : c1 ≤ mc) (hm2 : s1 ≤ ms) : ∀ (fu c0 s0 : Nat) (ad : Nat → Nat) (E : Ev) (M : Mm) (x11 : Int) (x13 : Int) (t : Nat) (w11 : Int) (w13 : Int) (F : Ev) (N : Mm), c0 + fu * 0 ≤ c1 → s0 + fu * 0 ≤ s1 → (∀ i, i < nE E0 → ad i = ad0 i) → nE E0 ≤ nE E → l_La_seats_441 q0 x2 x6 x7 x9 q12 fu E M x11 x13 = some (t, w11, w13, F, N) → (∀ (ad1 : Nat → Nat), (∀ i, i < nE E0 → ad1 i = ad0 i) → nE E0 ≤ nE F → t = 1 → ∀ (H : Heap) (locs : List Loc) (ls : Array Slot), va_P z.1 classes (wv z ad1 F N) H → va_D A (wv z ad1 F N) → va_S A s.heap H locs → lv_has ls 20 [(0, .ref (ad1 q0)), (1, .ref (ad1 1)), (2, .int (oI x2)), (6, .int (oI x6)), (7, .int (oI x7)), (9, .long (oJ x9)), (11, .int (oI w11))] → W p l e (rmK 7 190 mc ms) s m args below meth c H locs c1 s1 Q (F0 m 479 ls [])) → ∀ (H : Heap) (locs : List Loc) (ls : Array Slot), va_P z.1 classes (wv z ad E M) H → va_D A (wv z ad E M) → va_S A s.heap H locs → lv_has ls 20 [(0, .ref (ad q0)), (1, .ref (ad 1)), (2, .int (oI x2)), (6, .int (oI x6)), (7, .int (oI x7)), (9, .long (oJ x9)), (11, .int (oI x11)), (12, .ref (ad q12)), (13, .int (oI x13))] → W p l e (rmK 7 190 mc ms) s m args below meth c H locs c0 s0 Q (F0 m 441 ls []) := by
  intro fu
  induction fu with
  | zero =>
    intro c0 s0 ad E M x11 x13 t w11 w13 F N hc hs hag0 hE0 h
    have h : (none : Option (Nat × Int × Int × Ev × Mm)) = some _ := h
    cases h
  | succ fu ih =>
    intro c0 s0 ad E M x11 x13 t w11 w13 F N hc hs hag0 hE0 h k1 H locs ls hP hD hS hl
    obtain ⟨⟨t0, w110, w130, F9, N9⟩, g0, h⟩ := bd_e h
    refine W.wide (Nat.le_refl _) (Nat.le_refl _) (b_La_seats_441b l z E0 ad0 ad E M q0 x2 x6 x7 x9 q12 x11 x13 t0 w110 w130 F9 N9 hx hb hml hts hown hlocks hA hG hZ mc ms c0 s0 (c0 + 0) (s0 + 0) (Nat.le_refl _) (Nat.le_refl _) (by omega) (by omega) hag0 hE0 g0 (fun ad1 ha he e0 => ?_) (fun ad1 ha he e0 => ?_) H locs ls hP hD hS hl)
    · subst e0
      have h := ite_t rfl h
      exact ih (c0 + 0) (s0 + 0) ad1 F9 N9 w110 w130 t w11 w13 F N (by omega) (by omega) ha he h k1
    · subst e0
      have h := ite_f (by decide) h
      obtain ⟨rfl, rfl, rfl, rfl, rfl⟩ := in5 h
      exact fun H locs ls hP hD hS hl => W.wide (by omega) (by omega) (k1 ad1 ha he rfl H locs ls hP hD hS hl)
set_option maxRecDepth 100000 in
set_option maxHeartbeats 4000000 in
theorem b_La_seats_527b (l : Launch) (z : Zz) (E0 : Ev) (ad0 : Nat → Nat) (ad : Nat → Nat) (E : Ev) (M : Mm) (x2 : Int) (x9 : Int) (x11 : Int) (x17 : Int) (x19 : Int) (t : Nat) (w17 : Int) (w19 : Int) (F : Ev) (N : Mm) {Q : State → Prop} {p : Program} {e : Env} {s : State} {m : MethodId} {below : List Frame} {meth : Method} {c : Code} {A : Nat → Prop} {args : Array Value} (hx : p.tables.exec = Jvm.exec) (hb : c.code = method_11_code) (hml : c.maxLocals = 20) (hts : ∀ w ∈ WG, w.before args s = true) (hown : s.vm.findClass "BallothallLaw" = some m.cls) (hlocks : meth.locks = false) (hA : ∀ q, s.heap.size ≤ q → A q) (hG : KG z s) (hZ : FZ z A s) (mc ms c0 s0 c1 s1 : Nat) (hc : c0 + 0 ≤ c1) (hs : s0 + 0 ≤ s1) (hm : c1 ≤ mc) (hm2 : s1 ≤ ms) (hag0 : ∀ i, i < nE E0 → ad i = ad0 i) (hE0 : nE E0 ≤ nE E) (h : La_seats_527b E M x2 x9 x11 x17 x19 = some (t, w17, w19, F, N)) (k0 : ∀ (ad1 : Nat → Nat), (∀ i, i < nE E0 → ad1 i = ad0 i) → nE E0 ≤ nE F → t = 0 → ∀ (H : Heap) (locs : List Loc) (ls : Array Slot), va_P z.1 classes (wv z ad1 F N) H → va_D A (wv z ad1 F N) → va_S A s.heap H locs → lv_has ls 20 [(1, .ref (ad1 1)), (2, .int (oI x2)), (9, .long (oJ x9)), (11, .int (oI x11)), (17, .long (oJ w17)), (19, .int (oI w19))] → W p l e (rmK 7 190 mc ms) s m args below meth c H locs c1 s1 Q (F0 m 527 ls [])) (k1 : ∀ (ad1 : Nat → Nat), (∀ i, i < nE E0 → ad1 i = ad0 i) → nE E0 ≤ nE F → t = 1 → ∀ (H : Heap) (locs : List Loc) (ls : Array Slot), va_P z.1 classes (wv z ad1 F N) H → va_D A (wv z ad1 F N) → va_S A s.heap H locs → lv_has ls 20 [(1, .ref (ad1 1)), (9, .long (oJ x9)), (11, .int (oI x11)), (17, .long (oJ w17))] → W p l e (rmK 7 190 mc ms) s m args below meth c H locs c1 s1 Q (F0 m 551 ls [])) : ∀ (H : Heap) (locs : List Loc) (ls : Array Slot), va_P z.1 classes (wv z ad E M) H → va_D A (wv z ad E M) → va_S A s.heap H locs → lv_has ls 20 [(1, .ref (ad 1)), (2, .int (oI x2)), (9, .long (oJ x9)), (11, .int (oI x11)), (17, .long (oJ x17)), (19, .int (oI x19))] → W p l e (rmK 7 190 mc ms) s m args below meth c H locs c0 s0 Q (F0 m 527 ls []) := by
  intro H locs ls hP hD hS hl
  unfold La_seats_527b at h
  obtain ⟨hL, h⟩ := ck_e h
  refine lv_iload hx hb d_L11_527 (lv_at hl 5 rfl) ?_
  refine lv_iload_n hx hb d_L11_529 rfl (lv_at hl 1 rfl) ?_
  obtain ⟨ok225, h⟩ := ck_e h
  obtain ⟨ok226, h⟩ := ck_e h
  refine lv_icmp_ge (tgt := 551) hx hb d_L11_530 (by decide) (fun c9 => ?_) (fun c9 => ?_)
  · have h := ite_t ((oI_le (a := x2) (b := x19) ok226 ok225).mp c9) h
    obtain ⟨rfl, rfl, rfl, rfl, rfl⟩ := in5 h
    exact W.wide (by omega) (by omega) (k1 ad hag0 hE0 rfl H locs ls hP hD hS (lv_sub hl [0, 2, 3, 4] rfl))
  · have h := ite_f (fun q => c9 ((oI_le (a := x2) (b := x19) ok226 ok225).mpr q)) h
    refine lv_lload hx hb d_L11_533 (lv_at hl 4 rfl) ?_
    refine lv_aload_n hx hb d_L11_535 rfl (lv_at hl 0 rfl) ?_
    refine lv_iload hx hb d_L11_536 (lv_at hl 5 rfl) ?_
    obtain ⟨r227, g227, h⟩ := bd_e h
    refine kV (As := [.int (oI x19)]) (rest := [.long (oJ x17)]) (s_B_seatsOf l z ad E M x19 r227 hL g227) hx hb hml hown hts w_1590 w_1587 w_1588 w_1589 w_1 md_6fdd17 ⟨Nat.le_of_ble_eq_true rfl, Nat.le_of_ble_eq_true rfl⟩ hG hZ hP hD hS hA 1 (wv_o (ci := 11) (yi_1 hL) (yt_1 hL)) rfl rfl rfl hl.1 rfl (Nat.le_of_ble_eq_true rfl) d_L11_538 ⟨(show _ ≤ mc by omega), (show _ ≤ ms by omega)⟩ (fun _ H locs hP hD hS => ?_)
    have hP : va_P z.1 classes (wv z ad E M) H := hP
    have hD : va_D A (wv z ad E M) := hD
    refine W.eq (g2 := F0 m 541 ls [.int (oI r227), .long (oJ x17)]) rfl ?_
    obtain ⟨ok228, h⟩ := ck_e h
    refine lv_i2l (v := oJ r227) hx hb d_L11_541 (oI_l ok228) ?_
    refine lv_ladd hx hb d_L11_542 ?_
    refine nrmL (oJ_add _ _) ?_
    refine lv_lstore (lv' := [(17, .long (oJ (x17 + r227))), (1, .ref (ad 1)), (2, .int (oI x2)), (9, .long (oJ x9)), (11, .int (oI x11)), (19, .int (oI x19))]) hx hb d_L11_543 hl (by decide) rfl (fun ls hl => ?_)
    refine lv_iinc (v := oI (x19 + 1)) (lv' := [(19, .int (oI (x19 + 1))), (17, .long (oJ (x17 + r227))), (1, .ref (ad 1)), (2, .int (oI x2)), (9, .long (oJ x9)), (11, .int (oI x11))]) hx hb d_L11_545 hl (k := 5) rfl (oI_add x19 1) (by decide) rfl (fun ls hl => ?_)
    refine lv_goto (tgt := 527) hx hb d_L11_548 (by decide) ?_
    obtain ⟨rfl, rfl, rfl, rfl, rfl⟩ := in5 h
    exact W.wide (by omega) (by omega) (k0 ad hag0 hE0 rfl H locs ls hP hD hS (lv_sub hl [2, 3, 4, 5, 1, 0] rfl))
set_option maxRecDepth 100000 in
set_option maxHeartbeats 4000000 in
theorem s_La_seats_527 (l : Launch) (z : Zz) (E0 : Ev) (ad0 : Nat → Nat) (x2 : Int) (x9 : Int) (x11 : Int) {Q : State → Prop} {p : Program} {e : Env} {s : State} {m : MethodId} {below : List Frame} {meth : Method} {c : Code} {A : Nat → Prop} {args : Array Value} (hx : p.tables.exec = Jvm.exec) (hb : c.code = method_11_code) (hml : c.maxLocals = 20) (hts : ∀ w ∈ WG, w.before args s = true) (hown : s.vm.findClass "BallothallLaw" = some m.cls) (hlocks : meth.locks = false) (hA : ∀ q, s.heap.size ≤ q → A q) (hG : KG z s) (hZ : FZ z A s) (mc ms c1 s1 : Nat) (hm : c1 ≤ mc) (hm2 : s1 ≤ ms) : ∀ (fu c0 s0 : Nat) (ad : Nat → Nat) (E : Ev) (M : Mm) (x17 : Int) (x19 : Int) (t : Nat) (w17 : Int) (w19 : Int) (F : Ev) (N : Mm), c0 + fu * 0 ≤ c1 → s0 + fu * 0 ≤ s1 → (∀ i, i < nE E0 → ad i = ad0 i) → nE E0 ≤ nE E → l_La_seats_527 x2 x9 x11 fu E M x17 x19 = some (t, w17, w19, F, N) → (∀ (ad1 : Nat → Nat), (∀ i, i < nE E0 → ad1 i = ad0 i) → nE E0 ≤ nE F → t = 1 → ∀ (H : Heap) (locs : List Loc) (ls : Array Slot), va_P z.1 classes (wv z ad1 F N) H → va_D A (wv z ad1 F N) → va_S A s.heap H locs → lv_has ls 20 [(1, .ref (ad1 1)), (9, .long (oJ x9)), (11, .int (oI x11)), (17, .long (oJ w17))] → W p l e (rmK 7 190 mc ms) s m args below meth c H locs c1 s1 Q (F0 m 551 ls [])) → ∀ (H : Heap) (locs : List Loc) (ls : Array Slot), va_P z.1 classes (wv z ad E M) H → va_D A (wv z ad E M) → va_S A s.heap H locs → lv_has ls 20 [(1, .ref (ad 1)), (2, .int (oI x2)), (9, .long (oJ x9)), (11, .int (oI x11)), (17, .long (oJ x17)), (19, .int (oI x19))] → W p l e (rmK 7 190 mc ms) s m args below meth c H locs c0 s0 Q (F0 m 527 ls []) := by
  intro fu
  induction fu with
  | zero =>
    intro c0 s0 ad E M x17 x19 t w17 w19 F N hc hs hag0 hE0 h
    have h : (none : Option (Nat × Int × Int × Ev × Mm)) = some _ := h
    cases h
  | succ fu ih =>
    intro c0 s0 ad E M x17 x19 t w17 w19 F N hc hs hag0 hE0 h k1 H locs ls hP hD hS hl
    obtain ⟨⟨t0, w170, w190, F9, N9⟩, g0, h⟩ := bd_e h
    refine W.wide (Nat.le_refl _) (Nat.le_refl _) (b_La_seats_527b l z E0 ad0 ad E M x2 x9 x11 x17 x19 t0 w170 w190 F9 N9 hx hb hml hts hown hlocks hA hG hZ mc ms c0 s0 (c0 + 0) (s0 + 0) (Nat.le_refl _) (Nat.le_refl _) (by omega) (by omega) hag0 hE0 g0 (fun ad1 ha he e0 => ?_) (fun ad1 ha he e0 => ?_) H locs ls hP hD hS hl)
    · subst e0
      have h := ite_t rfl h
      exact ih (c0 + 0) (s0 + 0) ad1 F9 N9 w170 w190 t w17 w19 F N (by omega) (by omega) ha he h k1
    · subst e0
      have h := ite_f (by decide) h
      obtain ⟨rfl, rfl, rfl, rfl, rfl⟩ := in5 h
      exact fun H locs ls hP hD hS hl => W.wide (by omega) (by omega) (k1 ad1 ha he rfl H locs ls hP hD hS hl)
set_option maxRecDepth 100000 in
set_option maxHeartbeats 4000000 in
theorem b_La_seats_j390 (l : Launch) (z : Zz) (E0 : Ev) (ad0 : Nat → Nat) (ad : Nat → Nat) (E : Ev) (M : Mm) (q0 : Nat) (x2 : Int) (x6 : Int) (x7 : Int) (x9 : Int) (y0 : Int) (y1 : Int) (r : Int) (F : Ev) (N : Mm) {p : Program} {e : Env} {s : State} {m : MethodId} {below : List Frame} {meth : Method} {c : Code} {A : Nat → Prop} {args : Array Value} (hx : p.tables.exec = Jvm.exec) (hb : c.code = method_11_code) (hml : c.maxLocals = 20) (hts : ∀ w ∈ WG, w.before args s = true) (hown : s.vm.findClass "BallothallLaw" = some m.cls) (hlocks : meth.locks = false) (hA : ∀ q, s.heap.size ≤ q → A q) (hG : KG z s) (hZ : FZ z A s) (hr : meth.sig.returnType = (some .boolean)) (mc ms c0 s0 c1 s1 : Nat) (hc : c0 + 1 ≤ c1) (hs : s0 + 64 ≤ s1) (hm : c1 ≤ mc) (hm2 : s1 ≤ ms) (hag0 : ∀ i, i < nE E0 → ad i = ad0 i) (hE0 : nE E0 ≤ nE E) (h : La_seats_j390 E M q0 x2 x6 x7 x9 y0 y1 = some (r, F, N)) : ∀ (H : Heap) (locs : List Loc) (ls : Array Slot), va_P z.1 classes (wv z ad E M) H → va_D A (wv z ad E M) → va_S A s.heap H locs → lv_has ls 20 [(0, .ref (ad q0)), (1, .ref (ad 1)), (2, .int (oI x2)), (6, .int (oI x6)), (7, .int (oI x7)), (9, .long (oJ x9))] → W p l e (rmK 7 190 mc ms) s m args below meth c H locs c0 s0 (MQ below (QK z A (fun u => some (.int (oI r))) (fun u => wv z (adj E0 ad0 u) F N)) args s c1 s1 A) (F0 m 390 ls [.int (oI y0), .long (oJ y1)]) := by
  intro H locs ls hP hD hS hl
  unfold La_seats_j390 at h
  obtain ⟨hL, h⟩ := ck_e h
  obtain ⟨h_q0, h⟩ := ck_e h
  obtain ⟨ok236, h⟩ := ck_e h
  refine lv_i2l (v := oJ y0) hx hb d_L11_390 (oI_l ok236) ?_
  obtain ⟨ok237, h⟩ := ck_e h
  refine W.lcmp hx hb d_L11_391 ?_
  refine nrm (cmp_val (a := y1) (b := y0) ok237 (rg_ij ok236)) ?_
  refine lv_if_ne (tgt := 399) hx hb d_L11_392 (by decide) (fun c9 => ?_) (fun c9 => ?_)
  · have h := ite_f (fun q => c9 ((cmp_eq y1 y0).mpr q)) h
    refine lv_iconst (v := oI 0) hx hb d_L11_399 (by decide +kernel) ?_
    refine lv_istore (lv' := [(11, .int (oI 0)), (0, .ref (ad q0)), (1, .ref (ad 1)), (2, .int (oI x2)), (6, .int (oI x6)), (7, .int (oI x7)), (9, .long (oJ x9))]) hx hb d_L11_400 hl (by decide) rfl (fun ls hl => ?_)
    refine lv_iload_n hx hb d_L11_402 rfl (lv_at hl 3 rfl) ?_
    obtain ⟨ok238, h⟩ := ck_e h
    obtain ⟨p239, ep239, h⟩ := nb_e h
    obtain ⟨E239, eE239, h⟩ := nb_e h
    obtain ⟨M239, eM239, h⟩ := nb_e h
    refine m_newI (x := x2) (N := 64) hx hb ok238.1 ok238.2 (by decide) (hts _ w_100) hG hP hD hS hA (show _ ≤ mc by omega) (show _ ≤ ms by omega) d_L11_403 (fun ad239 H hag239 hP hD hS => ?_)
    have hP : va_P z.1 classes (wv z ad239 E239 M239) H := by rw [eE239, eM239]; exact hP
    have hD : va_D A (wv z ad239 E239 M239) := by rw [eE239, eM239]; exact hD
    refine W.eq (g2 := F0 m 405 ls (.ref (ad239 p239) :: [])) (by rw [ep239] <;> rfl) ?_
    have hl : lv_has ls 20 [(11, .int (oI 0)), (0, .ref (ad239 q0)), (1, .ref (ad239 1)), (2, .int (oI x2)), (6, .int (oI x6)), (7, .int (oI x7)), (9, .long (oJ x9))] := by rw [hag239 q0 h_q0.1, hag239 1 (yi_1 hL)]; exact hl
    have hgw239 : Gw E E239 := by rw [eE239]; exact gw_new _ _
    have hL239 : Lay E239 := by rw [eE239]; exact lay_new hL
    have hag0 : ∀ i, i < nE E0 → ad239 i = ad0 i := fun i hi => (hag239 i (Nat.lt_of_lt_of_le hi hE0)).trans (hag0 i hi)
    have hE0 : nE E0 ≤ nE E239 := Nat.le_trans hE0 hgw239.1
    have hL : Lay E239 := hL239
    have h_q0 : isIA E239 q0 := isA_up hgw239 h_q0
    have h_p239 : isIA E239 p239 := by rw [ep239, eE239]; exact ⟨new_i _ _, by rw [new_T]⟩
    refine lv_astore (lv' := [(12, .ref (ad239 p239)), (11, .int (oI 0)), (0, .ref (ad239 q0)), (1, .ref (ad239 1)), (2, .int (oI x2)), (6, .int (oI x6)), (7, .int (oI x7)), (9, .long (oJ x9))]) hx hb d_L11_405 hl (by decide) rfl (fun ls hl => ?_)
    refine lv_iconst (v := oI 0) hx hb d_L11_407 (by decide +kernel) ?_
    refine lv_istore (lv' := [(13, .int (oI 0)), (12, .ref (ad239 p239)), (11, .int (oI 0)), (0, .ref (ad239 q0)), (1, .ref (ad239 1)), (2, .int (oI x2)), (6, .int (oI x6)), (7, .int (oI x7)), (9, .long (oJ x9))]) hx hb d_L11_408 hl (by decide) rfl (fun ls hl => ?_)
    obtain ⟨⟨t240, v240_13, E240, M240⟩, g240, h⟩ := bd_e h
    obtain ⟨hgw240, h⟩ := ck_e h
    obtain ⟨hL240, h⟩ := ck_e h
    obtain ⟨ok240, h⟩ := ck_e h
    refine s_La_seats_410 l z E239 ad239 q0 x2 x6 x7 x9 0 p239 hx hb hml hts hown hlocks hA hG hZ mc ms (c0 + 1) (s0 + 64) (by omega) (by omega) 5000 _ _ ad239 E239 M239 0 t240 v240_13 E240 M240 (by omega) (by omega) (fun _ _ => rfl) (Nat.le_refl _) g240 (fun ad240 hag240 hEE240 e240 H locs ls hP hD hS hl => ?_) H locs ls hP hD hS (lv_sub hl [3, 4, 5, 6, 7, 8, 2, 1, 0] rfl)
    have hag0 : ∀ i, i < nE E0 → ad240 i = ad0 i := fun i hi => (hag240 i (Nat.lt_of_lt_of_le hi hE0)).trans (hag0 i hi)
    have hE0 : nE E0 ≤ nE E240 := Nat.le_trans hE0 hgw240.1
    have hL : Lay E240 := hL240
    have h_q0 : isIA E240 q0 := isA_up hgw240 h_q0
    have h_p239 : isIA E240 p239 := isA_up hgw240 h_p239
    refine lv_iconst (v := oI 0) hx hb d_L11_438 (by decide +kernel) ?_
    refine lv_istore (lv' := [(13, .int (oI 0)), (0, .ref (ad240 q0)), (1, .ref (ad240 1)), (2, .int (oI x2)), (6, .int (oI x6)), (7, .int (oI x7)), (9, .long (oJ x9)), (11, .int (oI 0)), (12, .ref (ad240 p239))]) hx hb d_L11_439 hl (by decide) rfl (fun ls hl => ?_)
    obtain ⟨⟨t241, v241_11, v241_13, E241, M241⟩, g241, h⟩ := bd_e h
    obtain ⟨hgw241, h⟩ := ck_e h
    obtain ⟨hL241, h⟩ := ck_e h
    obtain ⟨ok241, h⟩ := ck_e h
    refine s_La_seats_441 l z E240 ad240 q0 x2 x6 x7 x9 p239 hx hb hml hts hown hlocks hA hG hZ mc ms (c0 + 1) (s0 + 64) (by omega) (by omega) 5000 _ _ ad240 E240 M240 0 0 t241 v241_11 v241_13 E241 M241 (by omega) (by omega) (fun _ _ => rfl) (Nat.le_refl _) g241 (fun ad241 hag241 hEE241 e241 H locs ls hP hD hS hl => ?_) H locs ls hP hD hS (lv_sub hl [1, 2, 3, 4, 5, 6, 7, 8, 0] rfl)
    have hag0 : ∀ i, i < nE E0 → ad241 i = ad0 i := fun i hi => (hag241 i (Nat.lt_of_lt_of_le hi hE0)).trans (hag0 i hi)
    have hE0 : nE E0 ≤ nE E241 := Nat.le_trans hE0 hgw241.1
    have hL : Lay E241 := hL241
    have h_q0 : isIA E241 q0 := isA_up hgw241 h_q0
    refine lv_aload_n hx hb d_L11_479 rfl (lv_at hl 0 rfl) ?_
    refine lv_iload_n hx hb d_L11_480 rfl (lv_at hl 2 rfl) ?_
    obtain ⟨⟨r242, M242⟩, g242, h⟩ := bd_e h
    refine kS (As := [.ref (ad241 q0), .int (oI x2)]) (rest := []) (s_La_next l z ad241 E241 M241 q0 x2 r242 M242 hL g242) hx hb hml hown hts w_797 w_795 w_796 w_0 md_199d8f ⟨Nat.le_of_ble_eq_true rfl, Nat.le_of_ble_eq_true rfl⟩ hG hZ hP hD hS hA rfl hl.1 rfl (Nat.le_of_ble_eq_true rfl) d_L11_481 ⟨(show _ ≤ mc by omega), (show _ ≤ ms by omega)⟩ (fun _ H locs hP hD hS => ?_)
    have hP : va_P z.1 classes (wv z ad241 E241 M242) H := hP
    have hD : va_D A (wv z ad241 E241 M242) := hD
    refine W.eq (g2 := F0 m 484 ls [.int (oI r242)]) rfl ?_
    refine lv_istore (lv' := [(13, .int (oI r242)), (0, .ref (ad241 q0)), (1, .ref (ad241 1)), (2, .int (oI x2)), (6, .int (oI x6)), (7, .int (oI x7)), (9, .long (oJ x9)), (11, .int (oI v241_11))]) hx hb d_L11_484 hl (by decide) rfl (fun ls hl => ?_)
    refine lv_aload_n hx hb d_L11_486 rfl (lv_at hl 1 rfl) ?_
    refine lv_iload_n hx hb d_L11_487 rfl (lv_at hl 3 rfl) ?_
    obtain ⟨⟨r243, M243⟩, g243, h⟩ := bd_e h
    refine kS (As := [.ref (ad241 q0), .int (oI x2)]) (rest := []) (s_La_next l z ad241 E241 M242 q0 x2 r243 M243 hL g243) hx hb hml hown hts w_797 w_795 w_796 w_0 md_199d8f ⟨Nat.le_of_ble_eq_true rfl, Nat.le_of_ble_eq_true rfl⟩ hG hZ hP hD hS hA rfl hl.1 rfl (Nat.le_of_ble_eq_true rfl) d_L11_488 ⟨(show _ ≤ mc by omega), (show _ ≤ ms by omega)⟩ (fun _ H locs hP hD hS => ?_)
    have hP : va_P z.1 classes (wv z ad241 E241 M243) H := hP
    have hD : va_D A (wv z ad241 E241 M243) := hD
    refine W.eq (g2 := F0 m 491 ls [.int (oI r243)]) rfl ?_
    refine lv_istore (lv' := [(14, .int (oI r243)), (13, .int (oI r242)), (0, .ref (ad241 q0)), (1, .ref (ad241 1)), (2, .int (oI x2)), (6, .int (oI x6)), (7, .int (oI x7)), (9, .long (oJ x9)), (11, .int (oI v241_11))]) hx hb d_L11_491 hl (by decide) rfl (fun ls hl => ?_)
    refine lv_aload_n hx hb d_L11_493 rfl (lv_at hl 3 rfl) ?_
    refine lv_iload hx hb d_L11_494 (lv_at hl 1 rfl) ?_
    refine lv_iconst (v := oI 1) hx hb d_L11_496 (by decide +kernel) ?_
    obtain ⟨⟨r244, M244⟩, g244, h⟩ := bd_e h
    refine kV (As := [.int (oI r242), .int (oI 1)]) (rest := []) (s_B_ally l z ad241 E241 M243 r242 1 r244 M244 hL g244) hx hb hml hown hts w_1602 w_1599 w_1600 w_1601 w_1 md_1f245a ⟨Nat.le_of_ble_eq_true rfl, Nat.le_of_ble_eq_true rfl⟩ hG hZ hP hD hS hA 1 (wv_o (ci := 11) (yi_1 hL) (yt_1 hL)) rfl rfl rfl hl.1 rfl (Nat.le_of_ble_eq_true rfl) d_L11_497 ⟨(show _ ≤ mc by omega), (show _ ≤ ms by omega)⟩ (fun _ H locs hP hD hS => ?_)
    have hP : va_P z.1 classes (wv z ad241 E241 M244) H := hP
    have hD : va_D A (wv z ad241 E241 M244) := hD
    refine W.eq (g2 := F0 m 500 ls [.int (oI r244)]) rfl ?_
    refine lv_aload_n hx hb d_L11_500 rfl (lv_at hl 3 rfl) ?_
    refine lv_iload hx hb d_L11_501 (lv_at hl 0 rfl) ?_
    refine lv_iconst (v := oI 1) hx hb d_L11_503 (by decide +kernel) ?_
    obtain ⟨⟨r245, M245⟩, g245, h⟩ := bd_e h
    refine kV (As := [.int (oI r243), .int (oI 1)]) (rest := [.int (oI r244)]) (s_B_ally l z ad241 E241 M244 r243 1 r245 M245 hL g245) hx hb hml hown hts w_1602 w_1599 w_1600 w_1601 w_1 md_1f245a ⟨Nat.le_of_ble_eq_true rfl, Nat.le_of_ble_eq_true rfl⟩ hG hZ hP hD hS hA 1 (wv_o (ci := 11) (yi_1 hL) (yt_1 hL)) rfl rfl rfl hl.1 rfl (Nat.le_of_ble_eq_true rfl) d_L11_504 ⟨(show _ ≤ mc by omega), (show _ ≤ ms by omega)⟩ (fun _ H locs hP hD hS => ?_)
    have hP : va_P z.1 classes (wv z ad241 E241 M245) H := hP
    have hD : va_D A (wv z ad241 E241 M245) := hD
    refine W.eq (g2 := F0 m 507 ls [.int (oI r245), .int (oI r244)]) rfl ?_
    refine lv_iadd hx hb d_L11_507 ?_
    refine nrm (oI_add _ _) ?_
    refine lv_istore (lv' := [(15, .int (oI (r244 + r245))), (14, .int (oI r243)), (13, .int (oI r242)), (0, .ref (ad241 q0)), (1, .ref (ad241 1)), (2, .int (oI x2)), (6, .int (oI x6)), (7, .int (oI x7)), (9, .long (oJ x9)), (11, .int (oI v241_11))]) hx hb d_L11_508 hl (by decide) rfl (fun ls hl => ?_)
    refine lv_aload_n hx hb d_L11_510 rfl (lv_at hl 4 rfl) ?_
    refine lv_iload hx hb d_L11_511 (lv_at hl 6 rfl) ?_
    refine lv_iload hx hb d_L11_513 (lv_at hl 7 rfl) ?_
    refine lv_iconst (v := oI 0) hx hb d_L11_515 (by decide +kernel) ?_
    obtain ⟨⟨r246, M246⟩, g246, h⟩ := bd_e h
    refine kV (As := [.int (oI x6), .int (oI x7), .int (oI 0)]) (rest := []) (s_B_seats l z ad241 E241 M245 x6 x7 0 r246 M246 hL g246) hx hb hml hown hts w_1520 w_1517 w_1518 w_1519 w_1 md_fbc403 ⟨Nat.le_of_ble_eq_true rfl, Nat.le_of_ble_eq_true rfl⟩ hG hZ hP hD hS hA 1 (wv_o (ci := 11) (yi_1 hL) (yt_1 hL)) rfl rfl rfl hl.1 rfl (Nat.le_of_ble_eq_true rfl) d_L11_516 ⟨(show _ ≤ mc by omega), (show _ ≤ ms by omega)⟩ (fun _ H locs hP hD hS => ?_)
    have hP : va_P z.1 classes (wv z ad241 E241 M246) H := hP
    have hD : va_D A (wv z ad241 E241 M246) := hD
    refine W.eq (g2 := F0 m 519 ls [.int (oI r246)]) rfl ?_
    refine lv_istore (lv' := [(16, .int (oI r246)), (15, .int (oI (r244 + r245))), (14, .int (oI r243)), (13, .int (oI r242)), (0, .ref (ad241 q0)), (1, .ref (ad241 1)), (2, .int (oI x2)), (6, .int (oI x6)), (7, .int (oI x7)), (9, .long (oJ x9)), (11, .int (oI v241_11))]) hx hb d_L11_519 hl (by decide) rfl (fun ls hl => ?_)
    refine lv_lconst (v := oJ 0) hx hb d_L11_521 (by decide +kernel) ?_
    refine lv_lstore (lv' := [(17, .long (oJ 0)), (16, .int (oI r246)), (15, .int (oI (r244 + r245))), (14, .int (oI r243)), (13, .int (oI r242)), (0, .ref (ad241 q0)), (1, .ref (ad241 1)), (2, .int (oI x2)), (6, .int (oI x6)), (7, .int (oI x7)), (9, .long (oJ x9)), (11, .int (oI v241_11))]) hx hb d_L11_522 hl (by decide) rfl (fun ls hl => ?_)
    refine lv_iconst (v := oI 0) hx hb d_L11_524 (by decide +kernel) ?_
    refine lv_istore (lv' := [(19, .int (oI 0)), (17, .long (oJ 0)), (16, .int (oI r246)), (15, .int (oI (r244 + r245))), (14, .int (oI r243)), (13, .int (oI r242)), (0, .ref (ad241 q0)), (1, .ref (ad241 1)), (2, .int (oI x2)), (6, .int (oI x6)), (7, .int (oI x7)), (9, .long (oJ x9)), (11, .int (oI v241_11))]) hx hb d_L11_525 hl (by decide) rfl (fun ls hl => ?_)
    obtain ⟨⟨t247, v247_17, v247_19, E247, M247⟩, g247, h⟩ := bd_e h
    obtain ⟨hgw247, h⟩ := ck_e h
    obtain ⟨hL247, h⟩ := ck_e h
    obtain ⟨ok247, h⟩ := ck_e h
    refine s_La_seats_527 l z E241 ad241 x2 x9 v241_11 hx hb hml hts hown hlocks hA hG hZ mc ms (c0 + 1) (s0 + 64) (by omega) (by omega) 5000 _ _ ad241 E241 M246 0 0 t247 v247_17 v247_19 E247 M247 (by omega) (by omega) (fun _ _ => rfl) (Nat.le_refl _) g247 (fun ad247 hag247 hEE247 e247 H locs ls hP hD hS hl => ?_) H locs ls hP hD hS (lv_sub hl [7, 8, 11, 12, 1, 0] rfl)
    have hag0 : ∀ i, i < nE E0 → ad247 i = ad0 i := fun i hi => (hag247 i (Nat.lt_of_lt_of_le hi hE0)).trans (hag0 i hi)
    have hE0 : nE E0 ≤ nE E247 := Nat.le_trans hE0 hgw247.1
    have hL : Lay E247 := hL247
    refine lv_iload hx hb d_L11_551 (lv_at hl 2 rfl) ?_
    obtain ⟨ok248, h⟩ := ck_e h
    refine lv_if_eq (tgt := 575) hx hb d_L11_553 (by decide) (fun c9 => ?_) (fun c9 => ?_)
    · have h := ite_t ((oI_eq0 ok248).mp c9) h
      refine lv_iconst (v := oI 0) hx hb d_L11_575 (by decide +kernel) ?_
      refine W.wide (k := c1) (n := s1) (by omega) (by omega) ?_
      obtain ⟨rfl, rfl, rfl⟩ := in3 h
      exact W.zret hx hb hr rfl (fun t ht hW => qkA hP hD hS ad247 (congrArg (fun q => wv z q E247 M247) (adj_self hag0).symm) rfl ht) hS.2.2 d_L11_576
    · have h := ite_f (fun q => c9 ((oI_eq0 ok248).mpr q)) h
      refine lv_lload hx hb d_L11_556 (lv_at hl 3 rfl) ?_
      refine lv_lload hx hb d_L11_558 (lv_at hl 1 rfl) ?_
      obtain ⟨ok249, h⟩ := ck_e h
      obtain ⟨ok250, h⟩ := ck_e h
      refine W.lcmp hx hb d_L11_560 ?_
      refine nrm (cmp_val (a := v247_17) (b := x9) ok249 ok250) ?_
      refine lv_if_ne (tgt := 575) hx hb d_L11_561 (by decide) (fun c9 => ?_) (fun c9 => ?_)
      · have h := ite_f (fun q => c9 ((cmp_eq v247_17 x9).mpr q)) h
        refine lv_iconst (v := oI 0) hx hb d_L11_575 (by decide +kernel) ?_
        refine W.wide (k := c1) (n := s1) (by omega) (by omega) ?_
        obtain ⟨rfl, rfl, rfl⟩ := in3 h
        exact W.zret hx hb hr rfl (fun t ht hW => qkA hP hD hS ad247 (congrArg (fun q => wv z q E247 M247) (adj_self hag0).symm) rfl ht) hS.2.2 d_L11_576
      · have h := ite_t ((cmp_eq v247_17 x9).mp c9) h
        refine lv_aload_n hx hb d_L11_564 rfl (lv_at hl 0 rfl) ?_
        obtain ⟨⟨r251, M251⟩, g251, h⟩ := bd_e h
        refine kV (As := []) (rest := []) (s_B_errors l z ad247 E247 M247 r251 M251 hL g251) hx hb hml hown hts w_576 w_573 w_574 w_575 w_1 md_d65014 ⟨Nat.le_of_ble_eq_true rfl, Nat.le_of_ble_eq_true rfl⟩ hG hZ hP hD hS hA 1 (wv_o (ci := 11) (yi_1 hL) (yt_1 hL)) rfl rfl rfl hl.1 rfl (Nat.le_of_ble_eq_true rfl) d_L11_565 ⟨(show _ ≤ mc by omega), (show _ ≤ ms by omega)⟩ (fun _ H locs hP hD hS => ?_)
        have hP : va_P z.1 classes (wv z ad247 E247 M251) H := hP
        have hD : va_D A (wv z ad247 E247 M251) := hD
        refine W.eq (g2 := F0 m 568 ls [.int (oI r251)]) rfl ?_
        obtain ⟨ok252, h⟩ := ck_e h
        refine lv_if_ne (tgt := 575) hx hb d_L11_568 (by decide) (fun c9 => ?_) (fun c9 => ?_)
        · have h := ite_f (fun q => c9 ((oI_eq0 ok252).mpr q)) h
          refine lv_iconst (v := oI 0) hx hb d_L11_575 (by decide +kernel) ?_
          refine W.wide (k := c1) (n := s1) (by omega) (by omega) ?_
          obtain ⟨rfl, rfl, rfl⟩ := in3 h
          exact W.zret hx hb hr rfl (fun t ht hW => qkA hP hD hS ad247 (congrArg (fun q => wv z q E247 M251) (adj_self hag0).symm) rfl ht) hS.2.2 d_L11_576
        · have h := ite_t ((oI_eq0 ok252).mp c9) h
          refine lv_iconst (v := oI 1) hx hb d_L11_571 (by decide +kernel) ?_
          refine lv_goto (tgt := 576) hx hb d_L11_572 (by decide) ?_
          refine W.wide (k := c1) (n := s1) (by omega) (by omega) ?_
          obtain ⟨rfl, rfl, rfl⟩ := in3 h
          exact W.zret hx hb hr rfl (fun t ht hW => qkA hP hD hS ad247 (congrArg (fun q => wv z q E247 M251) (adj_self hag0).symm) rfl ht) hS.2.2 d_L11_576
  · have h := ite_t ((cmp_eq y1 y0).mp c9) h
    refine lv_iconst (v := oI 1) hx hb d_L11_395 (by decide +kernel) ?_
    refine lv_goto (tgt := 400) hx hb d_L11_396 (by decide) ?_
    refine lv_istore (lv' := [(11, .int (oI 1)), (0, .ref (ad q0)), (1, .ref (ad 1)), (2, .int (oI x2)), (6, .int (oI x6)), (7, .int (oI x7)), (9, .long (oJ x9))]) hx hb d_L11_400 hl (by decide) rfl (fun ls hl => ?_)
    refine lv_iload_n hx hb d_L11_402 rfl (lv_at hl 3 rfl) ?_
    obtain ⟨ok253, h⟩ := ck_e h
    obtain ⟨p254, ep254, h⟩ := nb_e h
    obtain ⟨E254, eE254, h⟩ := nb_e h
    obtain ⟨M254, eM254, h⟩ := nb_e h
    refine m_newI (x := x2) (N := 64) hx hb ok253.1 ok253.2 (by decide) (hts _ w_100) hG hP hD hS hA (show _ ≤ mc by omega) (show _ ≤ ms by omega) d_L11_403 (fun ad254 H hag254 hP hD hS => ?_)
    have hP : va_P z.1 classes (wv z ad254 E254 M254) H := by rw [eE254, eM254]; exact hP
    have hD : va_D A (wv z ad254 E254 M254) := by rw [eE254, eM254]; exact hD
    refine W.eq (g2 := F0 m 405 ls (.ref (ad254 p254) :: [])) (by rw [ep254] <;> rfl) ?_
    have hl : lv_has ls 20 [(11, .int (oI 1)), (0, .ref (ad254 q0)), (1, .ref (ad254 1)), (2, .int (oI x2)), (6, .int (oI x6)), (7, .int (oI x7)), (9, .long (oJ x9))] := by rw [hag254 q0 h_q0.1, hag254 1 (yi_1 hL)]; exact hl
    have hgw254 : Gw E E254 := by rw [eE254]; exact gw_new _ _
    have hL254 : Lay E254 := by rw [eE254]; exact lay_new hL
    have hag0 : ∀ i, i < nE E0 → ad254 i = ad0 i := fun i hi => (hag254 i (Nat.lt_of_lt_of_le hi hE0)).trans (hag0 i hi)
    have hE0 : nE E0 ≤ nE E254 := Nat.le_trans hE0 hgw254.1
    have hL : Lay E254 := hL254
    have h_q0 : isIA E254 q0 := isA_up hgw254 h_q0
    have h_p254 : isIA E254 p254 := by rw [ep254, eE254]; exact ⟨new_i _ _, by rw [new_T]⟩
    refine lv_astore (lv' := [(12, .ref (ad254 p254)), (11, .int (oI 1)), (0, .ref (ad254 q0)), (1, .ref (ad254 1)), (2, .int (oI x2)), (6, .int (oI x6)), (7, .int (oI x7)), (9, .long (oJ x9))]) hx hb d_L11_405 hl (by decide) rfl (fun ls hl => ?_)
    refine lv_iconst (v := oI 0) hx hb d_L11_407 (by decide +kernel) ?_
    refine lv_istore (lv' := [(13, .int (oI 0)), (12, .ref (ad254 p254)), (11, .int (oI 1)), (0, .ref (ad254 q0)), (1, .ref (ad254 1)), (2, .int (oI x2)), (6, .int (oI x6)), (7, .int (oI x7)), (9, .long (oJ x9))]) hx hb d_L11_408 hl (by decide) rfl (fun ls hl => ?_)
    obtain ⟨⟨t255, v255_13, E255, M255⟩, g255, h⟩ := bd_e h
    obtain ⟨hgw255, h⟩ := ck_e h
    obtain ⟨hL255, h⟩ := ck_e h
    obtain ⟨ok255, h⟩ := ck_e h
    refine s_La_seats_410 l z E254 ad254 q0 x2 x6 x7 x9 1 p254 hx hb hml hts hown hlocks hA hG hZ mc ms (c0 + 1) (s0 + 64) (by omega) (by omega) 5000 _ _ ad254 E254 M254 0 t255 v255_13 E255 M255 (by omega) (by omega) (fun _ _ => rfl) (Nat.le_refl _) g255 (fun ad255 hag255 hEE255 e255 H locs ls hP hD hS hl => ?_) H locs ls hP hD hS (lv_sub hl [3, 4, 5, 6, 7, 8, 2, 1, 0] rfl)
    have hag0 : ∀ i, i < nE E0 → ad255 i = ad0 i := fun i hi => (hag255 i (Nat.lt_of_lt_of_le hi hE0)).trans (hag0 i hi)
    have hE0 : nE E0 ≤ nE E255 := Nat.le_trans hE0 hgw255.1
    have hL : Lay E255 := hL255
    have h_q0 : isIA E255 q0 := isA_up hgw255 h_q0
    have h_p254 : isIA E255 p254 := isA_up hgw255 h_p254
    refine lv_iconst (v := oI 0) hx hb d_L11_438 (by decide +kernel) ?_
    refine lv_istore (lv' := [(13, .int (oI 0)), (0, .ref (ad255 q0)), (1, .ref (ad255 1)), (2, .int (oI x2)), (6, .int (oI x6)), (7, .int (oI x7)), (9, .long (oJ x9)), (11, .int (oI 1)), (12, .ref (ad255 p254))]) hx hb d_L11_439 hl (by decide) rfl (fun ls hl => ?_)
    obtain ⟨⟨t256, v256_11, v256_13, E256, M256⟩, g256, h⟩ := bd_e h
    obtain ⟨hgw256, h⟩ := ck_e h
    obtain ⟨hL256, h⟩ := ck_e h
    obtain ⟨ok256, h⟩ := ck_e h
    refine s_La_seats_441 l z E255 ad255 q0 x2 x6 x7 x9 p254 hx hb hml hts hown hlocks hA hG hZ mc ms (c0 + 1) (s0 + 64) (by omega) (by omega) 5000 _ _ ad255 E255 M255 1 0 t256 v256_11 v256_13 E256 M256 (by omega) (by omega) (fun _ _ => rfl) (Nat.le_refl _) g256 (fun ad256 hag256 hEE256 e256 H locs ls hP hD hS hl => ?_) H locs ls hP hD hS (lv_sub hl [1, 2, 3, 4, 5, 6, 7, 8, 0] rfl)
    have hag0 : ∀ i, i < nE E0 → ad256 i = ad0 i := fun i hi => (hag256 i (Nat.lt_of_lt_of_le hi hE0)).trans (hag0 i hi)
    have hE0 : nE E0 ≤ nE E256 := Nat.le_trans hE0 hgw256.1
    have hL : Lay E256 := hL256
    have h_q0 : isIA E256 q0 := isA_up hgw256 h_q0
    refine lv_aload_n hx hb d_L11_479 rfl (lv_at hl 0 rfl) ?_
    refine lv_iload_n hx hb d_L11_480 rfl (lv_at hl 2 rfl) ?_
    obtain ⟨⟨r257, M257⟩, g257, h⟩ := bd_e h
    refine kS (As := [.ref (ad256 q0), .int (oI x2)]) (rest := []) (s_La_next l z ad256 E256 M256 q0 x2 r257 M257 hL g257) hx hb hml hown hts w_797 w_795 w_796 w_0 md_199d8f ⟨Nat.le_of_ble_eq_true rfl, Nat.le_of_ble_eq_true rfl⟩ hG hZ hP hD hS hA rfl hl.1 rfl (Nat.le_of_ble_eq_true rfl) d_L11_481 ⟨(show _ ≤ mc by omega), (show _ ≤ ms by omega)⟩ (fun _ H locs hP hD hS => ?_)
    have hP : va_P z.1 classes (wv z ad256 E256 M257) H := hP
    have hD : va_D A (wv z ad256 E256 M257) := hD
    refine W.eq (g2 := F0 m 484 ls [.int (oI r257)]) rfl ?_
    refine lv_istore (lv' := [(13, .int (oI r257)), (0, .ref (ad256 q0)), (1, .ref (ad256 1)), (2, .int (oI x2)), (6, .int (oI x6)), (7, .int (oI x7)), (9, .long (oJ x9)), (11, .int (oI v256_11))]) hx hb d_L11_484 hl (by decide) rfl (fun ls hl => ?_)
    refine lv_aload_n hx hb d_L11_486 rfl (lv_at hl 1 rfl) ?_
    refine lv_iload_n hx hb d_L11_487 rfl (lv_at hl 3 rfl) ?_
    obtain ⟨⟨r258, M258⟩, g258, h⟩ := bd_e h
    refine kS (As := [.ref (ad256 q0), .int (oI x2)]) (rest := []) (s_La_next l z ad256 E256 M257 q0 x2 r258 M258 hL g258) hx hb hml hown hts w_797 w_795 w_796 w_0 md_199d8f ⟨Nat.le_of_ble_eq_true rfl, Nat.le_of_ble_eq_true rfl⟩ hG hZ hP hD hS hA rfl hl.1 rfl (Nat.le_of_ble_eq_true rfl) d_L11_488 ⟨(show _ ≤ mc by omega), (show _ ≤ ms by omega)⟩ (fun _ H locs hP hD hS => ?_)
    have hP : va_P z.1 classes (wv z ad256 E256 M258) H := hP
    have hD : va_D A (wv z ad256 E256 M258) := hD
    refine W.eq (g2 := F0 m 491 ls [.int (oI r258)]) rfl ?_
    refine lv_istore (lv' := [(14, .int (oI r258)), (13, .int (oI r257)), (0, .ref (ad256 q0)), (1, .ref (ad256 1)), (2, .int (oI x2)), (6, .int (oI x6)), (7, .int (oI x7)), (9, .long (oJ x9)), (11, .int (oI v256_11))]) hx hb d_L11_491 hl (by decide) rfl (fun ls hl => ?_)
    refine lv_aload_n hx hb d_L11_493 rfl (lv_at hl 3 rfl) ?_
    refine lv_iload hx hb d_L11_494 (lv_at hl 1 rfl) ?_
    refine lv_iconst (v := oI 1) hx hb d_L11_496 (by decide +kernel) ?_
    obtain ⟨⟨r259, M259⟩, g259, h⟩ := bd_e h
    refine kV (As := [.int (oI r257), .int (oI 1)]) (rest := []) (s_B_ally l z ad256 E256 M258 r257 1 r259 M259 hL g259) hx hb hml hown hts w_1602 w_1599 w_1600 w_1601 w_1 md_1f245a ⟨Nat.le_of_ble_eq_true rfl, Nat.le_of_ble_eq_true rfl⟩ hG hZ hP hD hS hA 1 (wv_o (ci := 11) (yi_1 hL) (yt_1 hL)) rfl rfl rfl hl.1 rfl (Nat.le_of_ble_eq_true rfl) d_L11_497 ⟨(show _ ≤ mc by omega), (show _ ≤ ms by omega)⟩ (fun _ H locs hP hD hS => ?_)
    have hP : va_P z.1 classes (wv z ad256 E256 M259) H := hP
    have hD : va_D A (wv z ad256 E256 M259) := hD
    refine W.eq (g2 := F0 m 500 ls [.int (oI r259)]) rfl ?_
    refine lv_aload_n hx hb d_L11_500 rfl (lv_at hl 3 rfl) ?_
    refine lv_iload hx hb d_L11_501 (lv_at hl 0 rfl) ?_
    refine lv_iconst (v := oI 1) hx hb d_L11_503 (by decide +kernel) ?_
    obtain ⟨⟨r260, M260⟩, g260, h⟩ := bd_e h
    refine kV (As := [.int (oI r258), .int (oI 1)]) (rest := [.int (oI r259)]) (s_B_ally l z ad256 E256 M259 r258 1 r260 M260 hL g260) hx hb hml hown hts w_1602 w_1599 w_1600 w_1601 w_1 md_1f245a ⟨Nat.le_of_ble_eq_true rfl, Nat.le_of_ble_eq_true rfl⟩ hG hZ hP hD hS hA 1 (wv_o (ci := 11) (yi_1 hL) (yt_1 hL)) rfl rfl rfl hl.1 rfl (Nat.le_of_ble_eq_true rfl) d_L11_504 ⟨(show _ ≤ mc by omega), (show _ ≤ ms by omega)⟩ (fun _ H locs hP hD hS => ?_)
    have hP : va_P z.1 classes (wv z ad256 E256 M260) H := hP
    have hD : va_D A (wv z ad256 E256 M260) := hD
    refine W.eq (g2 := F0 m 507 ls [.int (oI r260), .int (oI r259)]) rfl ?_
    refine lv_iadd hx hb d_L11_507 ?_
    refine nrm (oI_add _ _) ?_
    refine lv_istore (lv' := [(15, .int (oI (r259 + r260))), (14, .int (oI r258)), (13, .int (oI r257)), (0, .ref (ad256 q0)), (1, .ref (ad256 1)), (2, .int (oI x2)), (6, .int (oI x6)), (7, .int (oI x7)), (9, .long (oJ x9)), (11, .int (oI v256_11))]) hx hb d_L11_508 hl (by decide) rfl (fun ls hl => ?_)
    refine lv_aload_n hx hb d_L11_510 rfl (lv_at hl 4 rfl) ?_
    refine lv_iload hx hb d_L11_511 (lv_at hl 6 rfl) ?_
    refine lv_iload hx hb d_L11_513 (lv_at hl 7 rfl) ?_
    refine lv_iconst (v := oI 0) hx hb d_L11_515 (by decide +kernel) ?_
    obtain ⟨⟨r261, M261⟩, g261, h⟩ := bd_e h
    refine kV (As := [.int (oI x6), .int (oI x7), .int (oI 0)]) (rest := []) (s_B_seats l z ad256 E256 M260 x6 x7 0 r261 M261 hL g261) hx hb hml hown hts w_1520 w_1517 w_1518 w_1519 w_1 md_fbc403 ⟨Nat.le_of_ble_eq_true rfl, Nat.le_of_ble_eq_true rfl⟩ hG hZ hP hD hS hA 1 (wv_o (ci := 11) (yi_1 hL) (yt_1 hL)) rfl rfl rfl hl.1 rfl (Nat.le_of_ble_eq_true rfl) d_L11_516 ⟨(show _ ≤ mc by omega), (show _ ≤ ms by omega)⟩ (fun _ H locs hP hD hS => ?_)
    have hP : va_P z.1 classes (wv z ad256 E256 M261) H := hP
    have hD : va_D A (wv z ad256 E256 M261) := hD
    refine W.eq (g2 := F0 m 519 ls [.int (oI r261)]) rfl ?_
    refine lv_istore (lv' := [(16, .int (oI r261)), (15, .int (oI (r259 + r260))), (14, .int (oI r258)), (13, .int (oI r257)), (0, .ref (ad256 q0)), (1, .ref (ad256 1)), (2, .int (oI x2)), (6, .int (oI x6)), (7, .int (oI x7)), (9, .long (oJ x9)), (11, .int (oI v256_11))]) hx hb d_L11_519 hl (by decide) rfl (fun ls hl => ?_)
    refine lv_lconst (v := oJ 0) hx hb d_L11_521 (by decide +kernel) ?_
    refine lv_lstore (lv' := [(17, .long (oJ 0)), (16, .int (oI r261)), (15, .int (oI (r259 + r260))), (14, .int (oI r258)), (13, .int (oI r257)), (0, .ref (ad256 q0)), (1, .ref (ad256 1)), (2, .int (oI x2)), (6, .int (oI x6)), (7, .int (oI x7)), (9, .long (oJ x9)), (11, .int (oI v256_11))]) hx hb d_L11_522 hl (by decide) rfl (fun ls hl => ?_)
    refine lv_iconst (v := oI 0) hx hb d_L11_524 (by decide +kernel) ?_
    refine lv_istore (lv' := [(19, .int (oI 0)), (17, .long (oJ 0)), (16, .int (oI r261)), (15, .int (oI (r259 + r260))), (14, .int (oI r258)), (13, .int (oI r257)), (0, .ref (ad256 q0)), (1, .ref (ad256 1)), (2, .int (oI x2)), (6, .int (oI x6)), (7, .int (oI x7)), (9, .long (oJ x9)), (11, .int (oI v256_11))]) hx hb d_L11_525 hl (by decide) rfl (fun ls hl => ?_)
    obtain ⟨⟨t262, v262_17, v262_19, E262, M262⟩, g262, h⟩ := bd_e h
    obtain ⟨hgw262, h⟩ := ck_e h
    obtain ⟨hL262, h⟩ := ck_e h
    obtain ⟨ok262, h⟩ := ck_e h
    refine s_La_seats_527 l z E256 ad256 x2 x9 v256_11 hx hb hml hts hown hlocks hA hG hZ mc ms (c0 + 1) (s0 + 64) (by omega) (by omega) 5000 _ _ ad256 E256 M261 0 0 t262 v262_17 v262_19 E262 M262 (by omega) (by omega) (fun _ _ => rfl) (Nat.le_refl _) g262 (fun ad262 hag262 hEE262 e262 H locs ls hP hD hS hl => ?_) H locs ls hP hD hS (lv_sub hl [7, 8, 11, 12, 1, 0] rfl)
    have hag0 : ∀ i, i < nE E0 → ad262 i = ad0 i := fun i hi => (hag262 i (Nat.lt_of_lt_of_le hi hE0)).trans (hag0 i hi)
    have hE0 : nE E0 ≤ nE E262 := Nat.le_trans hE0 hgw262.1
    have hL : Lay E262 := hL262
    refine lv_iload hx hb d_L11_551 (lv_at hl 2 rfl) ?_
    obtain ⟨ok263, h⟩ := ck_e h
    refine lv_if_eq (tgt := 575) hx hb d_L11_553 (by decide) (fun c9 => ?_) (fun c9 => ?_)
    · have h := ite_t ((oI_eq0 ok263).mp c9) h
      refine lv_iconst (v := oI 0) hx hb d_L11_575 (by decide +kernel) ?_
      refine W.wide (k := c1) (n := s1) (by omega) (by omega) ?_
      obtain ⟨rfl, rfl, rfl⟩ := in3 h
      exact W.zret hx hb hr rfl (fun t ht hW => qkA hP hD hS ad262 (congrArg (fun q => wv z q E262 M262) (adj_self hag0).symm) rfl ht) hS.2.2 d_L11_576
    · have h := ite_f (fun q => c9 ((oI_eq0 ok263).mpr q)) h
      refine lv_lload hx hb d_L11_556 (lv_at hl 3 rfl) ?_
      refine lv_lload hx hb d_L11_558 (lv_at hl 1 rfl) ?_
      obtain ⟨ok264, h⟩ := ck_e h
      obtain ⟨ok265, h⟩ := ck_e h
      refine W.lcmp hx hb d_L11_560 ?_
      refine nrm (cmp_val (a := v262_17) (b := x9) ok264 ok265) ?_
      refine lv_if_ne (tgt := 575) hx hb d_L11_561 (by decide) (fun c9 => ?_) (fun c9 => ?_)
      · have h := ite_f (fun q => c9 ((cmp_eq v262_17 x9).mpr q)) h
        refine lv_iconst (v := oI 0) hx hb d_L11_575 (by decide +kernel) ?_
        refine W.wide (k := c1) (n := s1) (by omega) (by omega) ?_
        obtain ⟨rfl, rfl, rfl⟩ := in3 h
        exact W.zret hx hb hr rfl (fun t ht hW => qkA hP hD hS ad262 (congrArg (fun q => wv z q E262 M262) (adj_self hag0).symm) rfl ht) hS.2.2 d_L11_576
      · have h := ite_t ((cmp_eq v262_17 x9).mp c9) h
        refine lv_aload_n hx hb d_L11_564 rfl (lv_at hl 0 rfl) ?_
        obtain ⟨⟨r266, M266⟩, g266, h⟩ := bd_e h
        refine kV (As := []) (rest := []) (s_B_errors l z ad262 E262 M262 r266 M266 hL g266) hx hb hml hown hts w_576 w_573 w_574 w_575 w_1 md_d65014 ⟨Nat.le_of_ble_eq_true rfl, Nat.le_of_ble_eq_true rfl⟩ hG hZ hP hD hS hA 1 (wv_o (ci := 11) (yi_1 hL) (yt_1 hL)) rfl rfl rfl hl.1 rfl (Nat.le_of_ble_eq_true rfl) d_L11_565 ⟨(show _ ≤ mc by omega), (show _ ≤ ms by omega)⟩ (fun _ H locs hP hD hS => ?_)
        have hP : va_P z.1 classes (wv z ad262 E262 M266) H := hP
        have hD : va_D A (wv z ad262 E262 M266) := hD
        refine W.eq (g2 := F0 m 568 ls [.int (oI r266)]) rfl ?_
        obtain ⟨ok267, h⟩ := ck_e h
        refine lv_if_ne (tgt := 575) hx hb d_L11_568 (by decide) (fun c9 => ?_) (fun c9 => ?_)
        · have h := ite_f (fun q => c9 ((oI_eq0 ok267).mpr q)) h
          refine lv_iconst (v := oI 0) hx hb d_L11_575 (by decide +kernel) ?_
          refine W.wide (k := c1) (n := s1) (by omega) (by omega) ?_
          obtain ⟨rfl, rfl, rfl⟩ := in3 h
          exact W.zret hx hb hr rfl (fun t ht hW => qkA hP hD hS ad262 (congrArg (fun q => wv z q E262 M266) (adj_self hag0).symm) rfl ht) hS.2.2 d_L11_576
        · have h := ite_t ((oI_eq0 ok267).mp c9) h
          refine lv_iconst (v := oI 1) hx hb d_L11_571 (by decide +kernel) ?_
          refine lv_goto (tgt := 576) hx hb d_L11_572 (by decide) ?_
          refine W.wide (k := c1) (n := s1) (by omega) (by omega) ?_
          obtain ⟨rfl, rfl, rfl⟩ := in3 h
          exact W.zret hx hb hr rfl (fun t ht hW => qkA hP hD hS ad262 (congrArg (fun q => wv z q E262 M266) (adj_self hag0).symm) rfl ht) hS.2.2 d_L11_576
