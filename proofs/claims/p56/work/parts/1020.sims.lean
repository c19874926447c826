set_option maxRecDepth 100000 in
set_option maxHeartbeats 4000000 in
theorem b_La_seats_27b (l : Launch) (z : Zz) (E0 : Ev) (ad0 : Nat → Nat) (ad : Nat → Nat) (E : Ev) (M : Mm) (x2 : Int) (q3 : Nat) (x4 : Int) (x6 : Int) (t : Nat) (w4 : Int) (w6 : Int) (F : Ev) (N : Mm) {Q : State → Prop} {p : Program} {e : Env} {s : State} {m : MethodId} {below : List Frame} {meth : Method} {c : Code} {A : Nat → Prop} {args : Array Value} (hx : p.tables.exec = Jvm.exec) (hb : c.code = method_11_code) (hml : c.maxLocals = 20) (hts : ∀ w ∈ WG, w.before args s = true) (hown : s.vm.findClass "BallothallLaw" = some m.cls) (hlocks : meth.locks = false) (hA : ∀ q, s.heap.size ≤ q → A q) (hG : KG z s) (hZ : FZ z A s) (mc ms c0 s0 c1 s1 : Nat) (hc : c0 + 0 ≤ c1) (hs : s0 + 0 ≤ s1) (hm : c1 ≤ mc) (hm2 : s1 ≤ ms) (hag0 : ∀ i, i < nE E0 → ad i = ad0 i) (hE0 : nE E0 ≤ nE E) (h : La_seats_27b E M x2 q3 x4 x6 = some (t, w4, w6, F, N)) (k0 : ∀ (ad1 : Nat → Nat), (∀ i, i < nE E0 → ad1 i = ad0 i) → nE E0 ≤ nE F → t = 0 → ∀ (H : Heap) (locs : List Loc) (ls : Array Slot), va_P z.1 classes (wv z ad1 F N) H → va_D A (wv z ad1 F N) → va_S A s.heap H locs → lv_has ls 20 [(0, .ref (ad1 1)), (1, .ref (ad1 1)), (2, .int (oI x2)), (3, .ref (ad1 q3)), (4, .long (oJ w4)), (6, .int (oI w6))] → W p l e (rmK 7 190 mc ms) s m args below meth c H locs c1 s1 Q (F0 m 27 ls [])) (k1 : ∀ (ad1 : Nat → Nat), (∀ i, i < nE E0 → ad1 i = ad0 i) → nE E0 ≤ nE F → t = 1 → ∀ (H : Heap) (locs : List Loc) (ls : Array Slot), va_P z.1 classes (wv z ad1 F N) H → va_D A (wv z ad1 F N) → va_S A s.heap H locs → lv_has ls 20 [(0, .ref (ad1 1)), (1, .ref (ad1 1)), (2, .int (oI x2)), (3, .ref (ad1 q3)), (4, .long (oJ w4))] → W p l e (rmK 7 190 mc ms) s m args below meth c H locs c1 s1 Q (F0 m 113 ls [])) : ∀ (H : Heap) (locs : List Loc) (ls : Array Slot), va_P z.1 classes (wv z ad E M) H → va_D A (wv z ad E M) → va_S A s.heap H locs → lv_has ls 20 [(0, .ref (ad 1)), (1, .ref (ad 1)), (2, .int (oI x2)), (3, .ref (ad q3)), (4, .long (oJ x4)), (6, .int (oI x6))] → W p l e (rmK 7 190 mc ms) s m args below meth c H locs c0 s0 Q (F0 m 27 ls []) := by
  intro H locs ls hP hD hS hl
  unfold La_seats_27b at h
  obtain ⟨hL, h⟩ := ck_e h
  obtain ⟨h_q3, h⟩ := ck_e h
  refine lv_iload hx hb d_L11_27 (lv_at hl 5 rfl) ?_
  refine lv_iload_n hx hb d_L11_29 rfl (lv_at hl 2 rfl) ?_
  obtain ⟨ok5, h⟩ := ck_e h
  obtain ⟨ok6, h⟩ := ck_e h
  refine lv_icmp_ge (tgt := 113) hx hb d_L11_30 (by decide) (fun c9 => ?_) (fun c9 => ?_)
  · have h := ite_t ((oI_le (a := x2) (b := x6) ok6 ok5).mp c9) h
    obtain ⟨rfl, rfl, rfl, rfl, rfl⟩ := in5 h
    exact W.wide (by omega) (by omega) (k1 ad hag0 hE0 rfl H locs ls hP hD hS (lv_sub hl [0, 1, 2, 3, 4] rfl))
  · have h := ite_f (fun q => c9 ((oI_le (a := x2) (b := x6) ok6 ok5).mpr q)) h
    refine lv_aload_n hx hb d_L11_33 rfl (lv_at hl 3 rfl) ?_
    refine lv_iload hx hb d_L11_34 (lv_at hl 5 rfl) ?_
    refine lv_aload_n hx hb d_L11_36 rfl (lv_at hl 0 rfl) ?_
    refine lv_iconst (v := oI 3) hx hb d_L11_37 (by decide +kernel) ?_
    obtain ⟨⟨r7, M7⟩, g7, h⟩ := bd_e h
    refine kS (As := [.ref (ad 1), .int (oI 3)]) (rest := [.int (oI x6), .ref (ad q3)]) (s_La_next l z ad E M 1 3 r7 M7 hL g7) hx hb hml hown hts w_797 w_795 w_796 w_0 md_199d8f ⟨Nat.le_of_ble_eq_true rfl, Nat.le_of_ble_eq_true rfl⟩ hG hZ hP hD hS hA rfl hl.1 rfl (Nat.le_of_ble_eq_true rfl) d_L11_38 ⟨(show _ ≤ mc by omega), (show _ ≤ ms by omega)⟩ (fun _ H locs hP hD hS => ?_)
    have hP : va_P z.1 classes (wv z ad E M7) H := hP
    have hD : va_D A (wv z ad E M7) := hD
    refine W.eq (g2 := F0 m 41 ls [.int (oI r7), .int (oI x6), .ref (ad q3)]) rfl ?_
    obtain ⟨ok8, h⟩ := ck_e h
    refine lv_if_ne (tgt := 53) hx hb d_L11_41 (by decide) (fun c9 => ?_) (fun c9 => ?_)
    · have h := ite_f (fun q => c9 ((oI_eq0 ok8).mpr q)) h
      refine lv_aload_n hx hb d_L11_53 rfl (lv_at hl 0 rfl) ?_
      refine lv_ldc hx hb hown (hts _ w_1507) d_L11_54 ?_
      refine nrm (x1 := oI 100000) (by decide +kernel) ?_
      obtain ⟨⟨r9, M9⟩, g9, h⟩ := bd_e h
      refine kS (As := [.ref (ad 1), .int (oI 100000)]) (rest := [.int (oI x6), .ref (ad q3)]) (s_La_next l z ad E M7 1 100000 r9 M9 hL g9) hx hb hml hown hts w_797 w_795 w_796 w_0 md_199d8f ⟨Nat.le_of_ble_eq_true rfl, Nat.le_of_ble_eq_true rfl⟩ hG hZ hP hD hS hA rfl hl.1 rfl (Nat.le_of_ble_eq_true rfl) d_L11_56 ⟨(show _ ≤ mc by omega), (show _ ≤ ms by omega)⟩ (fun _ H locs hP hD hS => ?_)
      have hP : va_P z.1 classes (wv z ad E M9) H := hP
      have hD : va_D A (wv z ad E M9) := hD
      refine W.eq (g2 := F0 m 59 ls [.int (oI r9), .int (oI x6), .ref (ad q3)]) rfl ?_
      exact b_La_seats_j59 l z E0 ad0 ad E M9 x2 q3 x4 x6 r9 x6 q3 t w4 w6 F N hx hb hml hts hown hlocks hA hG hZ mc ms _ _ c1 s1 (by omega) (by omega) hm hm2 hag0 hE0 h k0 k1 H locs ls hP hD hS (lv_sub hl [0, 1, 2, 3, 4, 5] rfl)
    · have h := ite_t ((oI_eq0 ok8).mp c9) h
      refine lv_aload_n hx hb d_L11_44 rfl (lv_at hl 0 rfl) ?_
      refine lv_bipush (v := oI 20) hx hb d_L11_45 (by decide +kernel) ?_
      obtain ⟨⟨r19, M19⟩, g19, h⟩ := bd_e h
      refine kS (As := [.ref (ad 1), .int (oI 20)]) (rest := [.int (oI x6), .ref (ad q3)]) (s_La_next l z ad E M7 1 20 r19 M19 hL g19) hx hb hml hown hts w_797 w_795 w_796 w_0 md_199d8f ⟨Nat.le_of_ble_eq_true rfl, Nat.le_of_ble_eq_true rfl⟩ hG hZ hP hD hS hA rfl hl.1 rfl (Nat.le_of_ble_eq_true rfl) d_L11_47 ⟨(show _ ≤ mc by omega), (show _ ≤ ms by omega)⟩ (fun _ H locs hP hD hS => ?_)
      have hP : va_P z.1 classes (wv z ad E M19) H := hP
      have hD : va_D A (wv z ad E M19) := hD
      refine W.eq (g2 := F0 m 50 ls [.int (oI r19), .int (oI x6), .ref (ad q3)]) rfl ?_
      refine lv_goto (tgt := 59) hx hb d_L11_50 (by decide) ?_
      exact b_La_seats_j59 l z E0 ad0 ad E M19 x2 q3 x4 x6 r19 x6 q3 t w4 w6 F N hx hb hml hts hown hlocks hA hG hZ mc ms _ _ c1 s1 (by omega) (by omega) hm hm2 hag0 hE0 h k0 k1 H locs ls hP hD hS (lv_sub hl [0, 1, 2, 3, 4, 5] rfl)
set_option maxRecDepth 100000 in
set_option maxHeartbeats 4000000 in
theorem s_La_seats_27 (l : Launch) (z : Zz) (E0 : Ev) (ad0 : Nat → Nat) (x2 : Int) (q3 : Nat) {Q : State → Prop} {p : Program} {e : Env} {s : State} {m : MethodId} {below : List Frame} {meth : Method} {c : Code} {A : Nat → Prop} {args : Array Value} (hx : p.tables.exec = Jvm.exec) (hb : c.code = method_11_code) (hml : c.maxLocals = 20) (hts : ∀ w ∈ WG, w.before args s = true) (hown : s.vm.findClass "BallothallLaw" = some m.cls) (hlocks : meth.locks = false) (hA : ∀ q, s.heap.size ≤ q → A q) (hG : KG z s) (hZ : FZ z A s) (mc ms c1 s1 : Nat) (hm : c1 ≤ mc) (hm2 : s1 ≤ ms) : ∀ (fu c0 s0 : Nat) (ad : Nat → Nat) (E : Ev) (M : Mm) (x4 : Int) (x6 : Int) (t : Nat) (w4 : Int) (w6 : Int) (F : Ev) (N : Mm), c0 + fu * 0 ≤ c1 → s0 + fu * 0 ≤ s1 → (∀ i, i < nE E0 → ad i = ad0 i) → nE E0 ≤ nE E → l_La_seats_27 x2 q3 fu E M x4 x6 = some (t, w4, w6, F, N) → (∀ (ad1 : Nat → Nat), (∀ i, i < nE E0 → ad1 i = ad0 i) → nE E0 ≤ nE F → t = 1 → ∀ (H : Heap) (locs : List Loc) (ls : Array Slot), va_P z.1 classes (wv z ad1 F N) H → va_D A (wv z ad1 F N) → va_S A s.heap H locs → lv_has ls 20 [(0, .ref (ad1 1)), (1, .ref (ad1 1)), (2, .int (oI x2)), (3, .ref (ad1 q3)), (4, .long (oJ w4))] → W p l e (rmK 7 190 mc ms) s m args below meth c H locs c1 s1 Q (F0 m 113 ls [])) → ∀ (H : Heap) (locs : List Loc) (ls : Array Slot), va_P z.1 classes (wv z ad E M) H → va_D A (wv z ad E M) → va_S A s.heap H locs → lv_has ls 20 [(0, .ref (ad 1)), (1, .ref (ad 1)), (2, .int (oI x2)), (3, .ref (ad q3)), (4, .long (oJ x4)), (6, .int (oI x6))] → W p l e (rmK 7 190 mc ms) s m args below meth c H locs c0 s0 Q (F0 m 27 ls []) := by
  intro fu
  induction fu with
  | zero =>
    intro c0 s0 ad E M x4 x6 t w4 w6 F N hc hs hag0 hE0 h
    have h : (none : Option (Nat × Int × Int × Ev × Mm)) = some _ := h
    cases h
  | succ fu ih =>
    intro c0 s0 ad E M x4 x6 t w4 w6 F N hc hs hag0 hE0 h k1 H locs ls hP hD hS hl
    obtain ⟨⟨t0, w40, w60, F9, N9⟩, g0, h⟩ := bd_e h
    refine W.wide (Nat.le_refl _) (Nat.le_refl _) (b_La_seats_27b l z E0 ad0 ad E M x2 q3 x4 x6 t0 w40 w60 F9 N9 hx hb hml hts hown hlocks hA hG hZ mc ms c0 s0 (c0 + 0) (s0 + 0) (Nat.le_refl _) (Nat.le_refl _) (by omega) (by omega) hag0 hE0 g0 (fun ad1 ha he e0 => ?_) (fun ad1 ha he e0 => ?_) H locs ls hP hD hS hl)
    · subst e0
      have h := ite_t rfl h
      exact ih (c0 + 0) (s0 + 0) ad1 F9 N9 w40 w60 t w4 w6 F N (by omega) (by omega) ha he h k1
    · subst e0
      have h := ite_f (by decide) h
      obtain ⟨rfl, rfl, rfl, rfl, rfl⟩ := in5 h
      exact fun H locs ls hP hD hS hl => W.wide (by omega) (by omega) (k1 ad1 ha he rfl H locs ls hP hD hS hl)
set_option maxRecDepth 100000 in
set_option maxHeartbeats 4000000 in
theorem b_La_seats_j238 (l : Launch) (z : Zz) (E0 : Ev) (ad0 : Nat → Nat) (ad : Nat → Nat) (E : Ev) (M : Mm) (x2 : Int) (q3 : Nat) (x4 : Int) (x6 : Int) (x7 : Int) (x8 : Int) (x9 : Int) (x12 : Int) (x13 : Int) (x14 : Int) (y0 : Int) (t : Nat) (w11 : Int) (w14 : Int) (F : Ev) (N : Mm) {Q : State → Prop} {p : Program} {e : Env} {s : State} {m : MethodId} {below : List Frame} {meth : Method} {c : Code} {A : Nat → Prop} {args : Array Value} (hx : p.tables.exec = Jvm.exec) (hb : c.code = method_11_code) (hml : c.maxLocals = 20) (hts : ∀ w ∈ WG, w.before args s = true) (hown : s.vm.findClass "BallothallLaw" = some m.cls) (hlocks : meth.locks = false) (hA : ∀ q, s.heap.size ≤ q → A q) (hG : KG z s) (hZ : FZ z A s) (mc ms c0 s0 c1 s1 : Nat) (hc : c0 + 0 ≤ c1) (hs : s0 + 0 ≤ s1) (hm : c1 ≤ mc) (hm2 : s1 ≤ ms) (hag0 : ∀ i, i < nE E0 → ad i = ad0 i) (hE0 : nE E0 ≤ nE E) (h : La_seats_j238 E M x2 q3 x4 x6 x7 x8 x9 x12 x13 x14 y0 = some (t, w11, w14, F, N)) (k0 : ∀ (ad1 : Nat → Nat), (∀ i, i < nE E0 → ad1 i = ad0 i) → nE E0 ≤ nE F → t = 0 → ∀ (H : Heap) (locs : List Loc) (ls : Array Slot), va_P z.1 classes (wv z ad1 F N) H → va_D A (wv z ad1 F N) → va_S A s.heap H locs → lv_has ls 20 [(0, .ref (ad1 1)), (1, .ref (ad1 1)), (2, .int (oI x2)), (3, .ref (ad1 q3)), (4, .long (oJ x4)), (6, .int (oI x6)), (7, .int (oI x7)), (8, .int (oI x8)), (9, .long (oJ x9)), (11, .int (oI w11)), (12, .int (oI x12)), (13, .int (oI x13)), (14, .int (oI w14))] → W p l e (rmK 7 190 mc ms) s m args below meth c H locs c1 s1 Q (F0 m 200 ls [])) (k1 : ∀ (ad1 : Nat → Nat), (∀ i, i < nE E0 → ad1 i = ad0 i) → nE E0 ≤ nE F → t = 1 → ∀ (H : Heap) (locs : List Loc) (ls : Array Slot), va_P z.1 classes (wv z ad1 F N) H → va_D A (wv z ad1 F N) → va_S A s.heap H locs → lv_has ls 20 [(0, .ref (ad1 1)), (1, .ref (ad1 1)), (2, .int (oI x2)), (3, .ref (ad1 q3)), (4, .long (oJ x4)), (6, .int (oI x6)), (7, .int (oI x7)), (8, .int (oI x8)), (9, .long (oJ x9)), (11, .int (oI w11)), (12, .int (oI x12)), (13, .int (oI x13))] → W p l e (rmK 7 190 mc ms) s m args below meth c H locs c1 s1 Q (F0 m 307 ls [])) : ∀ (H : Heap) (locs : List Loc) (ls : Array Slot), va_P z.1 classes (wv z ad E M) H → va_D A (wv z ad E M) → va_S A s.heap H locs → lv_has ls 20 [(0, .ref (ad 1)), (1, .ref (ad 1)), (2, .int (oI x2)), (3, .ref (ad q3)), (4, .long (oJ x4)), (6, .int (oI x6)), (7, .int (oI x7)), (8, .int (oI x8)), (9, .long (oJ x9)), (12, .int (oI x12)), (13, .int (oI x13)), (14, .int (oI x14))] → W p l e (rmK 7 190 mc ms) s m args below meth c H locs c0 s0 Q (F0 m 238 ls [.int (oI y0)]) := by
  intro H locs ls hP hD hS hl
  unfold La_seats_j238 at h
  obtain ⟨hL, h⟩ := ck_e h
  obtain ⟨h_q3, h⟩ := ck_e h
  refine lv_istore (lv' := [(11, .int (oI y0)), (0, .ref (ad 1)), (1, .ref (ad 1)), (2, .int (oI x2)), (3, .ref (ad q3)), (4, .long (oJ x4)), (6, .int (oI x6)), (7, .int (oI x7)), (8, .int (oI x8)), (9, .long (oJ x9)), (12, .int (oI x12)), (13, .int (oI x13)), (14, .int (oI x14))]) hx hb d_L11_238 hl (by decide) rfl (fun ls hl => ?_)
  refine lv_iload hx hb d_L11_240 (lv_at hl 0 rfl) ?_
  obtain ⟨ok32, h⟩ := ck_e h
  refine lv_if_eq (tgt := 298) hx hb d_L11_242 (by decide) (fun c9 => ?_) (fun c9 => ?_)
  · have h := ite_t ((oI_eq0 ok32).mp c9) h
    refine lv_iconst (v := oI 0) hx hb d_L11_298 (by decide +kernel) ?_
    refine lv_istore (lv' := [(11, .int (oI 0)), (0, .ref (ad 1)), (1, .ref (ad 1)), (2, .int (oI x2)), (3, .ref (ad q3)), (4, .long (oJ x4)), (6, .int (oI x6)), (7, .int (oI x7)), (8, .int (oI x8)), (9, .long (oJ x9)), (12, .int (oI x12)), (13, .int (oI x13)), (14, .int (oI x14))]) hx hb d_L11_299 hl (by decide) rfl (fun ls hl => ?_)
    refine lv_iinc (v := oI (x14 + 1)) (lv' := [(14, .int (oI (x14 + 1))), (11, .int (oI 0)), (0, .ref (ad 1)), (1, .ref (ad 1)), (2, .int (oI x2)), (3, .ref (ad q3)), (4, .long (oJ x4)), (6, .int (oI x6)), (7, .int (oI x7)), (8, .int (oI x8)), (9, .long (oJ x9)), (12, .int (oI x12)), (13, .int (oI x13))]) hx hb d_L11_301 hl (k := 12) rfl (oI_add x14 1) (by decide) rfl (fun ls hl => ?_)
    refine lv_goto (tgt := 200) hx hb d_L11_304 (by decide) ?_
    obtain ⟨rfl, rfl, rfl, rfl, rfl⟩ := in5 h
    exact W.wide (by omega) (by omega) (k0 ad hag0 hE0 rfl H locs ls hP hD hS (lv_sub hl [2, 3, 4, 5, 6, 7, 8, 9, 10, 1, 11, 12, 0] rfl))
  · have h := ite_f (fun q => c9 ((oI_eq0 ok32).mpr q)) h
    refine lv_iload hx hb d_L11_245 (lv_at hl 6 rfl) ?_
    refine lv_iconst (v := oI 5) hx hb d_L11_247 (by decide +kernel) ?_
    obtain ⟨ok33, h⟩ := ck_e h
    refine lv_icmp_eq (tgt := 294) hx hb d_L11_248 (by decide) (fun c9 => ?_) (fun c9 => ?_)
    · have h := ite_t ((oI_eq (a := x6) (b := (5 : Int)) ok33 (by decide)).mp c9) h
      refine lv_iconst (v := oI 1) hx hb d_L11_294 (by decide +kernel) ?_
      refine lv_goto (tgt := 299) hx hb d_L11_295 (by decide) ?_
      refine lv_istore (lv' := [(11, .int (oI 1)), (0, .ref (ad 1)), (1, .ref (ad 1)), (2, .int (oI x2)), (3, .ref (ad q3)), (4, .long (oJ x4)), (6, .int (oI x6)), (7, .int (oI x7)), (8, .int (oI x8)), (9, .long (oJ x9)), (12, .int (oI x12)), (13, .int (oI x13)), (14, .int (oI x14))]) hx hb d_L11_299 hl (by decide) rfl (fun ls hl => ?_)
      refine lv_iinc (v := oI (x14 + 1)) (lv' := [(14, .int (oI (x14 + 1))), (11, .int (oI 1)), (0, .ref (ad 1)), (1, .ref (ad 1)), (2, .int (oI x2)), (3, .ref (ad q3)), (4, .long (oJ x4)), (6, .int (oI x6)), (7, .int (oI x7)), (8, .int (oI x8)), (9, .long (oJ x9)), (12, .int (oI x12)), (13, .int (oI x13))]) hx hb d_L11_301 hl (k := 12) rfl (oI_add x14 1) (by decide) rfl (fun ls hl => ?_)
      refine lv_goto (tgt := 200) hx hb d_L11_304 (by decide) ?_
      obtain ⟨rfl, rfl, rfl, rfl, rfl⟩ := in5 h
      exact W.wide (by omega) (by omega) (k0 ad hag0 hE0 rfl H locs ls hP hD hS (lv_sub hl [2, 3, 4, 5, 6, 7, 8, 9, 10, 1, 11, 12, 0] rfl))
    · have h := ite_f (fun q => c9 ((oI_eq (a := x6) (b := (5 : Int)) ok33 (by decide)).mpr q)) h
      refine lv_iload hx hb d_L11_251 (lv_at hl 11 rfl) ?_
      obtain ⟨ok34, h⟩ := ck_e h
      refine lv_if_eq (tgt := 294) hx hb d_L11_253 (by decide) (fun c9 => ?_) (fun c9 => ?_)
      · have h := ite_t ((oI_eq0 ok34).mp c9) h
        refine lv_iconst (v := oI 1) hx hb d_L11_294 (by decide +kernel) ?_
        refine lv_goto (tgt := 299) hx hb d_L11_295 (by decide) ?_
        refine lv_istore (lv' := [(11, .int (oI 1)), (0, .ref (ad 1)), (1, .ref (ad 1)), (2, .int (oI x2)), (3, .ref (ad q3)), (4, .long (oJ x4)), (6, .int (oI x6)), (7, .int (oI x7)), (8, .int (oI x8)), (9, .long (oJ x9)), (12, .int (oI x12)), (13, .int (oI x13)), (14, .int (oI x14))]) hx hb d_L11_299 hl (by decide) rfl (fun ls hl => ?_)
        refine lv_iinc (v := oI (x14 + 1)) (lv' := [(14, .int (oI (x14 + 1))), (11, .int (oI 1)), (0, .ref (ad 1)), (1, .ref (ad 1)), (2, .int (oI x2)), (3, .ref (ad q3)), (4, .long (oJ x4)), (6, .int (oI x6)), (7, .int (oI x7)), (8, .int (oI x8)), (9, .long (oJ x9)), (12, .int (oI x12)), (13, .int (oI x13))]) hx hb d_L11_301 hl (k := 12) rfl (oI_add x14 1) (by decide) rfl (fun ls hl => ?_)
        refine lv_goto (tgt := 200) hx hb d_L11_304 (by decide) ?_
        obtain ⟨rfl, rfl, rfl, rfl, rfl⟩ := in5 h
        exact W.wide (by omega) (by omega) (k0 ad hag0 hE0 rfl H locs ls hP hD hS (lv_sub hl [2, 3, 4, 5, 6, 7, 8, 9, 10, 1, 11, 12, 0] rfl))
      · have h := ite_f (fun q => c9 ((oI_eq0 ok34).mpr q)) h
        refine lv_aload_n hx hb d_L11_256 rfl (lv_at hl 4 rfl) ?_
        refine lv_iload hx hb d_L11_257 (lv_at hl 10 rfl) ?_
        obtain ⟨ok35, h⟩ := ck_e h
        refine m_ia hx hb hG hP h_q3.1 (isIA_T h_q3) ok35 d_L11_259 ?_
        obtain ⟨ok36, h⟩ := ck_e h
        refine lv_i2l (v := oJ (M q3 x12.toNat)) hx hb d_L11_260 (oI_l ok36) ?_
        refine lv_iload hx hb d_L11_261 (lv_at hl 6 rfl) ?_
        refine lv_aload_n hx hb d_L11_263 rfl (lv_at hl 2 rfl) ?_
        refine lv_iload hx hb d_L11_264 (lv_at hl 12 rfl) ?_
        obtain ⟨r37, g37, h⟩ := bd_e h
        refine kV (As := [.int (oI x14)]) (rest := [.int (oI x6), .long (oJ (M q3 x12.toNat))]) (s_B_seatsOf l z ad E M x14 r37 hL g37) hx hb hml hown hts w_1590 w_1587 w_1588 w_1589 w_1 md_6fdd17 ⟨Nat.le_of_ble_eq_true rfl, Nat.le_of_ble_eq_true rfl⟩ hG hZ hP hD hS hA 1 (wv_o (ci := 11) (yi_1 hL) (yt_1 hL)) rfl rfl rfl hl.1 rfl (Nat.le_of_ble_eq_true rfl) d_L11_266 ⟨(show _ ≤ mc by omega), (show _ ≤ ms by omega)⟩ (fun _ H locs hP hD hS => ?_)
        have hP : va_P z.1 classes (wv z ad E M) H := hP
        have hD : va_D A (wv z ad E M) := hD
        refine W.eq (g2 := F0 m 269 ls [.int (oI r37), .int (oI x6), .long (oJ (M q3 x12.toNat))]) rfl ?_
        obtain ⟨r38, g38, h⟩ := bd_e h
        refine kS (As := [.int (oI x6), .int (oI r37)]) (rest := [.long (oJ (M q3 x12.toNat))]) (s_La_divisor l z ad E M x6 r37 r38 hL g38) hx hb hml hown hts w_1594 w_1592 w_1593 w_0 md_fd11b7 ⟨Nat.le_of_ble_eq_true rfl, Nat.le_of_ble_eq_true rfl⟩ hG hZ hP hD hS hA rfl hl.1 rfl (Nat.le_of_ble_eq_true rfl) d_L11_269 ⟨(show _ ≤ mc by omega), (show _ ≤ ms by omega)⟩ (fun _ H locs hP hD hS => ?_)
        have hP : va_P z.1 classes (wv z ad E M) H := hP
        have hD : va_D A (wv z ad E M) := hD
        refine W.eq (g2 := F0 m 272 ls [.int (oI r38), .long (oJ (M q3 x12.toNat))]) rfl ?_
        obtain ⟨ok39, h⟩ := ck_e h
        refine lv_i2l (v := oJ r38) hx hb d_L11_272 (oI_l ok39) ?_
        refine lv_lmul hx hb d_L11_273 ?_
        refine nrmL (oJ_mul _ _) ?_
        refine lv_aload_n hx hb d_L11_274 rfl (lv_at hl 4 rfl) ?_
        refine lv_iload hx hb d_L11_275 (lv_at hl 12 rfl) ?_
        obtain ⟨ok40, h⟩ := ck_e h
        refine m_ia hx hb hG hP h_q3.1 (isIA_T h_q3) ok40 d_L11_277 ?_
        obtain ⟨ok41, h⟩ := ck_e h
        refine lv_i2l (v := oJ (M q3 x14.toNat)) hx hb d_L11_278 (oI_l ok41) ?_
        refine lv_iload hx hb d_L11_279 (lv_at hl 6 rfl) ?_
        refine lv_iload hx hb d_L11_281 (lv_at hl 11 rfl) ?_
        refine lv_iconst (v := oI 1) hx hb d_L11_283 (by decide +kernel) ?_
        refine lv_isub hx hb d_L11_284 ?_
        refine nrm (oI_sub _ _) ?_
        obtain ⟨r42, g42, h⟩ := bd_e h
        refine kS (As := [.int (oI x6), .int (oI (x13 - 1))]) (rest := [.long (oJ (M q3 x14.toNat)), .long (oJ ((M q3 x12.toNat) * r38))]) (s_La_divisor l z ad E M x6 (x13 - 1) r42 hL g42) hx hb hml hown hts w_1594 w_1592 w_1593 w_0 md_fd11b7 ⟨Nat.le_of_ble_eq_true rfl, Nat.le_of_ble_eq_true rfl⟩ hG hZ hP hD hS hA rfl hl.1 rfl (Nat.le_of_ble_eq_true rfl) d_L11_285 ⟨(show _ ≤ mc by omega), (show _ ≤ ms by omega)⟩ (fun _ H locs hP hD hS => ?_)
        have hP : va_P z.1 classes (wv z ad E M) H := hP
        have hD : va_D A (wv z ad E M) := hD
        refine W.eq (g2 := F0 m 288 ls [.int (oI r42), .long (oJ (M q3 x14.toNat)), .long (oJ ((M q3 x12.toNat) * r38))]) rfl ?_
        obtain ⟨ok43, h⟩ := ck_e h
        refine lv_i2l (v := oJ r42) hx hb d_L11_288 (oI_l ok43) ?_
        refine lv_lmul hx hb d_L11_289 ?_
        refine nrmL (oJ_mul _ _) ?_
        obtain ⟨ok44, h⟩ := ck_e h
        obtain ⟨ok45, h⟩ := ck_e h
        refine W.lcmp hx hb d_L11_290 ?_
        refine nrm (cmp_val (a := ((M q3 x12.toNat) * r38)) (b := ((M q3 x14.toNat) * r42)) ok44 ok45) ?_
        refine lv_if_lt (tgt := 298) hx hb d_L11_291 (by decide) (fun c9 => ?_) (fun c9 => ?_)
        · have h := ite_t ((cmp_lt ((M q3 x12.toNat) * r38) ((M q3 x14.toNat) * r42)).mp c9) h
          refine lv_iconst (v := oI 0) hx hb d_L11_298 (by decide +kernel) ?_
          refine lv_istore (lv' := [(11, .int (oI 0)), (0, .ref (ad 1)), (1, .ref (ad 1)), (2, .int (oI x2)), (3, .ref (ad q3)), (4, .long (oJ x4)), (6, .int (oI x6)), (7, .int (oI x7)), (8, .int (oI x8)), (9, .long (oJ x9)), (12, .int (oI x12)), (13, .int (oI x13)), (14, .int (oI x14))]) hx hb d_L11_299 hl (by decide) rfl (fun ls hl => ?_)
          refine lv_iinc (v := oI (x14 + 1)) (lv' := [(14, .int (oI (x14 + 1))), (11, .int (oI 0)), (0, .ref (ad 1)), (1, .ref (ad 1)), (2, .int (oI x2)), (3, .ref (ad q3)), (4, .long (oJ x4)), (6, .int (oI x6)), (7, .int (oI x7)), (8, .int (oI x8)), (9, .long (oJ x9)), (12, .int (oI x12)), (13, .int (oI x13))]) hx hb d_L11_301 hl (k := 12) rfl (oI_add x14 1) (by decide) rfl (fun ls hl => ?_)
          refine lv_goto (tgt := 200) hx hb d_L11_304 (by decide) ?_
          obtain ⟨rfl, rfl, rfl, rfl, rfl⟩ := in5 h
          exact W.wide (by omega) (by omega) (k0 ad hag0 hE0 rfl H locs ls hP hD hS (lv_sub hl [2, 3, 4, 5, 6, 7, 8, 9, 10, 1, 11, 12, 0] rfl))
        · have h := ite_f (fun q => c9 ((cmp_lt ((M q3 x12.toNat) * r38) ((M q3 x14.toNat) * r42)).mpr q)) h
          refine lv_iconst (v := oI 1) hx hb d_L11_294 (by decide +kernel) ?_
          refine lv_goto (tgt := 299) hx hb d_L11_295 (by decide) ?_
          refine lv_istore (lv' := [(11, .int (oI 1)), (0, .ref (ad 1)), (1, .ref (ad 1)), (2, .int (oI x2)), (3, .ref (ad q3)), (4, .long (oJ x4)), (6, .int (oI x6)), (7, .int (oI x7)), (8, .int (oI x8)), (9, .long (oJ x9)), (12, .int (oI x12)), (13, .int (oI x13)), (14, .int (oI x14))]) hx hb d_L11_299 hl (by decide) rfl (fun ls hl => ?_)
          refine lv_iinc (v := oI (x14 + 1)) (lv' := [(14, .int (oI (x14 + 1))), (11, .int (oI 1)), (0, .ref (ad 1)), (1, .ref (ad 1)), (2, .int (oI x2)), (3, .ref (ad q3)), (4, .long (oJ x4)), (6, .int (oI x6)), (7, .int (oI x7)), (8, .int (oI x8)), (9, .long (oJ x9)), (12, .int (oI x12)), (13, .int (oI x13))]) hx hb d_L11_301 hl (k := 12) rfl (oI_add x14 1) (by decide) rfl (fun ls hl => ?_)
          refine lv_goto (tgt := 200) hx hb d_L11_304 (by decide) ?_
          obtain ⟨rfl, rfl, rfl, rfl, rfl⟩ := in5 h
          exact W.wide (by omega) (by omega) (k0 ad hag0 hE0 rfl H locs ls hP hD hS (lv_sub hl [2, 3, 4, 5, 6, 7, 8, 9, 10, 1, 11, 12, 0] rfl))
set_option maxRecDepth 100000 in
set_option maxHeartbeats 4000000 in
theorem b_La_seats_200b (l : Launch) (z : Zz) (E0 : Ev) (ad0 : Nat → Nat) (ad : Nat → Nat) (E : Ev) (M : Mm) (x2 : Int) (q3 : Nat) (x4 : Int) (x6 : Int) (x7 : Int) (x8 : Int) (x9 : Int) (x12 : Int) (x13 : Int) (x11 : Int) (x14 : Int) (t : Nat) (w11 : Int) (w14 : Int) (F : Ev) (N : Mm) {Q : State → Prop} {p : Program} {e : Env} {s : State} {m : MethodId} {below : List Frame} {meth : Method} {c : Code} {A : Nat → Prop} {args : Array Value} (hx : p.tables.exec = Jvm.exec) (hb : c.code = method_11_code) (hml : c.maxLocals = 20) (hts : ∀ w ∈ WG, w.before args s = true) (hown : s.vm.findClass "BallothallLaw" = some m.cls) (hlocks : meth.locks = false) (hA : ∀ q, s.heap.size ≤ q → A q) (hG : KG z s) (hZ : FZ z A s) (mc ms c0 s0 c1 s1 : Nat) (hc : c0 + 0 ≤ c1) (hs : s0 + 0 ≤ s1) (hm : c1 ≤ mc) (hm2 : s1 ≤ ms) (hag0 : ∀ i, i < nE E0 → ad i = ad0 i) (hE0 : nE E0 ≤ nE E) (h : La_seats_200b E M x2 q3 x4 x6 x7 x8 x9 x12 x13 x11 x14 = some (t, w11, w14, F, N)) (k0 : ∀ (ad1 : Nat → Nat), (∀ i, i < nE E0 → ad1 i = ad0 i) → nE E0 ≤ nE F → t = 0 → ∀ (H : Heap) (locs : List Loc) (ls : Array Slot), va_P z.1 classes (wv z ad1 F N) H → va_D A (wv z ad1 F N) → va_S A s.heap H locs → lv_has ls 20 [(0, .ref (ad1 1)), (1, .ref (ad1 1)), (2, .int (oI x2)), (3, .ref (ad1 q3)), (4, .long (oJ x4)), (6, .int (oI x6)), (7, .int (oI x7)), (8, .int (oI x8)), (9, .long (oJ x9)), (11, .int (oI w11)), (12, .int (oI x12)), (13, .int (oI x13)), (14, .int (oI w14))] → W p l e (rmK 7 190 mc ms) s m args below meth c H locs c1 s1 Q (F0 m 200 ls [])) (k1 : ∀ (ad1 : Nat → Nat), (∀ i, i < nE E0 → ad1 i = ad0 i) → nE E0 ≤ nE F → t = 1 → ∀ (H : Heap) (locs : List Loc) (ls : Array Slot), va_P z.1 classes (wv z ad1 F N) H → va_D A (wv z ad1 F N) → va_S A s.heap H locs → lv_has ls 20 [(0, .ref (ad1 1)), (1, .ref (ad1 1)), (2, .int (oI x2)), (3, .ref (ad1 q3)), (4, .long (oJ x4)), (6, .int (oI x6)), (7, .int (oI x7)), (8, .int (oI x8)), (9, .long (oJ x9)), (11, .int (oI w11)), (12, .int (oI x12)), (13, .int (oI x13))] → W p l e (rmK 7 190 mc ms) s m args below meth c H locs c1 s1 Q (F0 m 307 ls [])) : ∀ (H : Heap) (locs : List Loc) (ls : Array Slot), va_P z.1 classes (wv z ad E M) H → va_D A (wv z ad E M) → va_S A s.heap H locs → lv_has ls 20 [(0, .ref (ad 1)), (1, .ref (ad 1)), (2, .int (oI x2)), (3, .ref (ad q3)), (4, .long (oJ x4)), (6, .int (oI x6)), (7, .int (oI x7)), (8, .int (oI x8)), (9, .long (oJ x9)), (11, .int (oI x11)), (12, .int (oI x12)), (13, .int (oI x13)), (14, .int (oI x14))] → W p l e (rmK 7 190 mc ms) s m args below meth c H locs c0 s0 Q (F0 m 200 ls []) := by
  intro H locs ls hP hD hS hl
  unfold La_seats_200b at h
  obtain ⟨hL, h⟩ := ck_e h
  obtain ⟨h_q3, h⟩ := ck_e h
  refine lv_iload hx hb d_L11_200 (lv_at hl 12 rfl) ?_
  refine lv_iload_n hx hb d_L11_202 rfl (lv_at hl 2 rfl) ?_
  obtain ⟨ok29, h⟩ := ck_e h
  obtain ⟨ok30, h⟩ := ck_e h
  refine lv_icmp_ge (tgt := 307) hx hb d_L11_203 (by decide) (fun c9 => ?_) (fun c9 => ?_)
  · have h := ite_t ((oI_le (a := x2) (b := x14) ok30 ok29).mp c9) h
    obtain ⟨rfl, rfl, rfl, rfl, rfl⟩ := in5 h
    exact W.wide (by omega) (by omega) (k1 ad hag0 hE0 rfl H locs ls hP hD hS (lv_sub hl [0, 1, 2, 3, 4, 5, 6, 7, 8, 9, 10, 11] rfl))
  · have h := ite_f (fun q => c9 ((oI_le (a := x2) (b := x14) ok30 ok29).mpr q)) h
    refine lv_iload hx hb d_L11_206 (lv_at hl 9 rfl) ?_
    obtain ⟨ok31, h⟩ := ck_e h
    refine lv_if_eq (tgt := 237) hx hb d_L11_208 (by decide) (fun c9 => ?_) (fun c9 => ?_)
    · have h := ite_t ((oI_eq0 ok31).mp c9) h
      refine lv_iconst (v := oI 0) hx hb d_L11_237 (by decide +kernel) ?_
      exact b_La_seats_j238 l z E0 ad0 ad E M x2 q3 x4 x6 x7 x8 x9 x12 x13 x14 0 t w11 w14 F N hx hb hml hts hown hlocks hA hG hZ mc ms _ _ c1 s1 (by omega) (by omega) hm hm2 hag0 hE0 h k0 k1 H locs ls hP hD hS (lv_sub hl [0, 1, 2, 3, 4, 5, 6, 7, 8, 10, 11, 12] rfl)
    · have h := ite_f (fun q => c9 ((oI_eq0 ok31).mpr q)) h
      refine lv_aload_n hx hb d_L11_211 rfl (lv_at hl 3 rfl) ?_
      refine lv_iload hx hb d_L11_212 (lv_at hl 10 rfl) ?_
      obtain ⟨ok46, h⟩ := ck_e h
      refine m_ia hx hb hG hP h_q3.1 (isIA_T h_q3) ok46 d_L11_214 ?_
      refine lv_aload_n hx hb d_L11_215 rfl (lv_at hl 3 rfl) ?_
      refine lv_iload hx hb d_L11_216 (lv_at hl 12 rfl) ?_
      obtain ⟨ok47, h⟩ := ck_e h
      refine m_ia hx hb hG hP h_q3.1 (isIA_T h_q3) ok47 d_L11_218 ?_
      obtain ⟨ok48, h⟩ := ck_e h
      obtain ⟨ok49, h⟩ := ck_e h
      refine lv_icmp_le (tgt := 233) hx hb d_L11_219 (by decide) (fun c9 => ?_) (fun c9 => ?_)
      · have h := ite_t ((oI_le (a := (M q3 x12.toNat)) (b := (M q3 x14.toNat)) ok48 ok49).mp c9) h
        refine lv_iconst (v := oI 1) hx hb d_L11_233 (by decide +kernel) ?_
        refine lv_goto (tgt := 238) hx hb d_L11_234 (by decide) ?_
        exact b_La_seats_j238 l z E0 ad0 ad E M x2 q3 x4 x6 x7 x8 x9 x12 x13 x14 1 t w11 w14 F N hx hb hml hts hown hlocks hA hG hZ mc ms _ _ c1 s1 (by omega) (by omega) hm hm2 hag0 hE0 h k0 k1 H locs ls hP hD hS (lv_sub hl [0, 1, 2, 3, 4, 5, 6, 7, 8, 10, 11, 12] rfl)
      · have h := ite_f (fun q => c9 ((oI_le (a := (M q3 x12.toNat)) (b := (M q3 x14.toNat)) ok48 ok49).mpr q)) h
        refine lv_iload hx hb d_L11_222 (lv_at hl 11 rfl) ?_
        refine lv_aload_n hx hb d_L11_224 rfl (lv_at hl 1 rfl) ?_
        refine lv_iload hx hb d_L11_225 (lv_at hl 12 rfl) ?_
        obtain ⟨r50, g50, h⟩ := bd_e h
        refine kV (As := [.int (oI x14)]) (rest := [.int (oI x13)]) (s_B_seatsOf l z ad E M x14 r50 hL g50) hx hb hml hown hts w_1590 w_1587 w_1588 w_1589 w_1 md_6fdd17 ⟨Nat.le_of_ble_eq_true rfl, Nat.le_of_ble_eq_true rfl⟩ hG hZ hP hD hS hA 1 (wv_o (ci := 11) (yi_1 hL) (yt_1 hL)) rfl rfl rfl hl.1 rfl (Nat.le_of_ble_eq_true rfl) d_L11_227 ⟨(show _ ≤ mc by omega), (show _ ≤ ms by omega)⟩ (fun _ H locs hP hD hS => ?_)
        have hP : va_P z.1 classes (wv z ad E M) H := hP
        have hD : va_D A (wv z ad E M) := hD
        refine W.eq (g2 := F0 m 230 ls [.int (oI r50), .int (oI x13)]) rfl ?_
        obtain ⟨ok51, h⟩ := ck_e h
        obtain ⟨ok52, h⟩ := ck_e h
        refine lv_icmp_lt (tgt := 237) hx hb d_L11_230 (by decide) (fun c9 => ?_) (fun c9 => ?_)
        · have h := ite_t ((oI_lt (a := x13) (b := r50) ok51 ok52).mp c9) h
          refine lv_iconst (v := oI 0) hx hb d_L11_237 (by decide +kernel) ?_
          exact b_La_seats_j238 l z E0 ad0 ad E M x2 q3 x4 x6 x7 x8 x9 x12 x13 x14 0 t w11 w14 F N hx hb hml hts hown hlocks hA hG hZ mc ms _ _ c1 s1 (by omega) (by omega) hm hm2 hag0 hE0 h k0 k1 H locs ls hP hD hS (lv_sub hl [0, 1, 2, 3, 4, 5, 6, 7, 8, 10, 11, 12] rfl)
        · have h := ite_f (fun q => c9 ((oI_lt (a := x13) (b := r50) ok51 ok52).mpr q)) h
          refine lv_iconst (v := oI 1) hx hb d_L11_233 (by decide +kernel) ?_
          refine lv_goto (tgt := 238) hx hb d_L11_234 (by decide) ?_
          exact b_La_seats_j238 l z E0 ad0 ad E M x2 q3 x4 x6 x7 x8 x9 x12 x13 x14 1 t w11 w14 F N hx hb hml hts hown hlocks hA hG hZ mc ms _ _ c1 s1 (by omega) (by omega) hm hm2 hag0 hE0 h k0 k1 H locs ls hP hD hS (lv_sub hl [0, 1, 2, 3, 4, 5, 6, 7, 8, 10, 11, 12] rfl)
set_option maxRecDepth 100000 in
set_option maxHeartbeats 4000000 in
theorem s_La_seats_200 (l : Launch) (z : Zz) (E0 : Ev) (ad0 : Nat → Nat) (x2 : Int) (q3 : Nat) (x4 : Int) (x6 : Int) (x7 : Int) (x8 : Int) (x9 : Int) (x12 : Int) (x13 : Int) {Q : State → Prop} {p : Program} {e : Env} {s : State} {m : MethodId} {below : List Frame} {meth : Method} {c : Code} {A : Nat → Prop} {args : Array Value} (hx : p.tables.exec = Jvm.exec) (hb : c.code = method_11_code) (hml : c.maxLocals = 20) (hts : ∀ w ∈ WG, w.before args s = true) (hown : s.vm.findClass "BallothallLaw" = some m.cls) (hlocks : meth.locks = false) (hA : ∀ q, s.heap.size ≤ q → A q) (hG : KG z s) (hZ : FZ z A s) (mc ms c1 s1 : Nat) (hm : c1 ≤ mc) (hm2 : s1 ≤ ms) : ∀ (fu c0 s0 : Nat) (ad : Nat → Nat) (E : Ev) (M : Mm) (x11 : Int) (x14 : Int) (t : Nat) (w11 : Int) (w14 : Int) (F : Ev) (N : Mm), c0 + fu * 0 ≤ c1 → s0 + fu * 0 ≤ s1 → (∀ i, i < nE E0 → ad i = ad0 i) → nE E0 ≤ nE E → l_La_seats_200 x2 q3 x4 x6 x7 x8 x9 x12 x13 fu E M x11 x14 = some (t, w11, w14, F, N) → (∀ (ad1 : Nat → Nat), (∀ i, i < nE E0 → ad1 i = ad0 i) → nE E0 ≤ nE F → t = 1 → ∀ (H : Heap) (locs : List Loc) (ls : Array Slot), va_P z.1 classes (wv z ad1 F N) H → va_D A (wv z ad1 F N) → va_S A s.heap H locs → lv_has ls 20 [(0, .ref (ad1 1)), (1, .ref (ad1 1)), (2, .int (oI x2)), (3, .ref (ad1 q3)), (4, .long (oJ x4)), (6, .int (oI x6)), (7, .int (oI x7)), (8, .int (oI x8)), (9, .long (oJ x9)), (11, .int (oI w11)), (12, .int (oI x12)), (13, .int (oI x13))] → W p l e (rmK 7 190 mc ms) s m args below meth c H locs c1 s1 Q (F0 m 307 ls [])) → ∀ (H : Heap) (locs : List Loc) (ls : Array Slot), va_P z.1 classes (wv z ad E M) H → va_D A (wv z ad E M) → va_S A s.heap H locs → lv_has ls 20 [(0, .ref (ad 1)), (1, .ref (ad 1)), (2, .int (oI x2)), (3, .ref (ad q3)), (4, .long (oJ x4)), (6, .int (oI x6)), (7, .int (oI x7)), (8, .int (oI x8)), (9, .long (oJ x9)), (11, .int (oI x11)), (12, .int (oI x12)), (13, .int (oI x13)), (14, .int (oI x14))] → W p l e (rmK 7 190 mc ms) s m args below meth c H locs c0 s0 Q (F0 m 200 ls []) := by
  intro fu
  induction fu with
  | zero =>
    intro c0 s0 ad E M x11 x14 t w11 w14 F N hc hs hag0 hE0 h
    have h : (none : Option (Nat × Int × Int × Ev × Mm)) = some _ := h
    cases h
  | succ fu ih =>
    intro c0 s0 ad E M x11 x14 t w11 w14 F N hc hs hag0 hE0 h k1 H locs ls hP hD hS hl
    obtain ⟨⟨t0, w110, w140, F9, N9⟩, g0, h⟩ := bd_e h
    refine W.wide (Nat.le_refl _) (Nat.le_refl _) (b_La_seats_200b l z E0 ad0 ad E M x2 q3 x4 x6 x7 x8 x9 x12 x13 x11 x14 t0 w110 w140 F9 N9 hx hb hml hts hown hlocks hA hG hZ mc ms c0 s0 (c0 + 0) (s0 + 0) (Nat.le_refl _) (Nat.le_refl _) (by omega) (by omega) hag0 hE0 g0 (fun ad1 ha he e0 => ?_) (fun ad1 ha he e0 => ?_) H locs ls hP hD hS hl)
    · subst e0
      have h := ite_t rfl h
      exact ih (c0 + 0) (s0 + 0) ad1 F9 N9 w110 w140 t w11 w14 F N (by omega) (by omega) ha he h k1
    · subst e0
      have h := ite_f (by decide) h
      obtain ⟨rfl, rfl, rfl, rfl, rfl⟩ := in5 h
      exact fun H locs ls hP hD hS hl => W.wide (by omega) (by omega) (k1 ad1 ha he rfl H locs ls hP hD hS hl)
set_option maxRecDepth 100000 in
set_option maxHeartbeats 4000000 in
theorem b_La_seats_151b (l : Launch) (z : Zz) (E0 : Ev) (ad0 : Nat → Nat) (ad : Nat → Nat) (E : Ev) (M : Mm) (x2 : Int) (q3 : Nat) (x4 : Int) (x6 : Int) (x7 : Int) (x8 : Int) (x9 : Int) (x11 : Int) (x12 : Int) (t : Nat) (w9 : Int) (w11 : Int) (w12 : Int) (F : Ev) (N : Mm) {Q : State → Prop} {p : Program} {e : Env} {s : State} {m : MethodId} {below : List Frame} {meth : Method} {c : Code} {A : Nat → Prop} {args : Array Value} (hx : p.tables.exec = Jvm.exec) (hb : c.code = method_11_code) (hml : c.maxLocals = 20) (hts : ∀ w ∈ WG, w.before args s = true) (hown : s.vm.findClass "BallothallLaw" = some m.cls) (hlocks : meth.locks = false) (hA : ∀ q, s.heap.size ≤ q → A q) (hG : KG z s) (hZ : FZ z A s) (mc ms c0 s0 c1 s1 : Nat) (hc : c0 + 0 ≤ c1) (hs : s0 + 0 ≤ s1) (hm : c1 ≤ mc) (hm2 : s1 ≤ ms) (hag0 : ∀ i, i < nE E0 → ad i = ad0 i) (hE0 : nE E0 ≤ nE E) (h : La_seats_151b E M x2 q3 x4 x6 x7 x8 x9 x11 x12 = some (t, w9, w11, w12, F, N)) (k0 : ∀ (ad1 : Nat → Nat), (∀ i, i < nE E0 → ad1 i = ad0 i) → nE E0 ≤ nE F → t = 0 → ∀ (H : Heap) (locs : List Loc) (ls : Array Slot), va_P z.1 classes (wv z ad1 F N) H → va_D A (wv z ad1 F N) → va_S A s.heap H locs → lv_has ls 20 [(0, .ref (ad1 1)), (1, .ref (ad1 1)), (2, .int (oI x2)), (3, .ref (ad1 q3)), (4, .long (oJ x4)), (6, .int (oI x6)), (7, .int (oI x7)), (8, .int (oI x8)), (9, .long (oJ w9)), (11, .int (oI w11)), (12, .int (oI w12))] → W p l e (rmK 7 190 mc ms) s m args below meth c H locs c1 s1 Q (F0 m 151 ls [])) (k1 : ∀ (ad1 : Nat → Nat), (∀ i, i < nE E0 → ad1 i = ad0 i) → nE E0 ≤ nE F → t = 1 → ∀ (H : Heap) (locs : List Loc) (ls : Array Slot), va_P z.1 classes (wv z ad1 F N) H → va_D A (wv z ad1 F N) → va_S A s.heap H locs → lv_has ls 20 [(0, .ref (ad1 1)), (1, .ref (ad1 1)), (2, .int (oI x2)), (6, .int (oI x6)), (7, .int (oI x7)), (8, .int (oI x8)), (9, .long (oJ w9)), (11, .int (oI w11))] → W p l e (rmK 7 190 mc ms) s m args below meth c H locs c1 s1 Q (F0 m 372 ls [])) : ∀ (H : Heap) (locs : List Loc) (ls : Array Slot), va_P z.1 classes (wv z ad E M) H → va_D A (wv z ad E M) → va_S A s.heap H locs → lv_has ls 20 [(0, .ref (ad 1)), (1, .ref (ad 1)), (2, .int (oI x2)), (3, .ref (ad q3)), (4, .long (oJ x4)), (6, .int (oI x6)), (7, .int (oI x7)), (8, .int (oI x8)), (9, .long (oJ x9)), (11, .int (oI x11)), (12, .int (oI x12))] → W p l e (rmK 7 190 mc ms) s m args below meth c H locs c0 s0 Q (F0 m 151 ls []) := by
  intro H locs ls hP hD hS hl
  unfold La_seats_151b at h
  obtain ⟨hL, h⟩ := ck_e h
  obtain ⟨h_q3, h⟩ := ck_e h
  refine lv_iload hx hb d_L11_151 (lv_at hl 10 rfl) ?_
  refine lv_iload_n hx hb d_L11_153 rfl (lv_at hl 2 rfl) ?_
  obtain ⟨ok24, h⟩ := ck_e h
  obtain ⟨ok25, h⟩ := ck_e h
  refine lv_icmp_ge (tgt := 372) hx hb d_L11_154 (by decide) (fun c9 => ?_) (fun c9 => ?_)
  · have h := ite_t ((oI_le (a := x2) (b := x12) ok25 ok24).mp c9) h
    obtain ⟨rfl, rfl, rfl, rfl, rfl, rfl⟩ := in6 h
    exact W.wide (by omega) (by omega) (k1 ad hag0 hE0 rfl H locs ls hP hD hS (lv_sub hl [0, 1, 2, 5, 6, 7, 8, 9] rfl))
  · have h := ite_f (fun q => c9 ((oI_le (a := x2) (b := x12) ok25 ok24).mpr q)) h
    refine lv_aload_n hx hb d_L11_157 rfl (lv_at hl 1 rfl) ?_
    refine lv_iload hx hb d_L11_158 (lv_at hl 10 rfl) ?_
    obtain ⟨r26, g26, h⟩ := bd_e h
    refine kV (As := [.int (oI x12)]) (rest := []) (s_B_seatsOf l z ad E M x12 r26 hL g26) hx hb hml hown hts w_1590 w_1587 w_1588 w_1589 w_1 md_6fdd17 ⟨Nat.le_of_ble_eq_true rfl, Nat.le_of_ble_eq_true rfl⟩ hG hZ hP hD hS hA 1 (wv_o (ci := 11) (yi_1 hL) (yt_1 hL)) rfl rfl rfl hl.1 rfl (Nat.le_of_ble_eq_true rfl) d_L11_160 ⟨(show _ ≤ mc by omega), (show _ ≤ ms by omega)⟩ (fun _ H locs hP hD hS => ?_)
    have hP : va_P z.1 classes (wv z ad E M) H := hP
    have hD : va_D A (wv z ad E M) := hD
    refine W.eq (g2 := F0 m 163 ls [.int (oI r26)]) rfl ?_
    refine lv_istore (lv' := [(13, .int (oI r26)), (0, .ref (ad 1)), (1, .ref (ad 1)), (2, .int (oI x2)), (3, .ref (ad q3)), (4, .long (oJ x4)), (6, .int (oI x6)), (7, .int (oI x7)), (8, .int (oI x8)), (9, .long (oJ x9)), (11, .int (oI x11)), (12, .int (oI x12))]) hx hb d_L11_163 hl (by decide) rfl (fun ls hl => ?_)
    refine lv_lload hx hb d_L11_165 (lv_at hl 9 rfl) ?_
    refine lv_iload hx hb d_L11_167 (lv_at hl 0 rfl) ?_
    obtain ⟨ok27, h⟩ := ck_e h
    refine lv_i2l (v := oJ r26) hx hb d_L11_169 (oI_l ok27) ?_
    refine lv_ladd hx hb d_L11_170 ?_
    refine nrmL (oJ_add _ _) ?_
    refine lv_lstore (lv' := [(9, .long (oJ (x9 + r26))), (13, .int (oI r26)), (0, .ref (ad 1)), (1, .ref (ad 1)), (2, .int (oI x2)), (3, .ref (ad q3)), (4, .long (oJ x4)), (6, .int (oI x6)), (7, .int (oI x7)), (8, .int (oI x8)), (11, .int (oI x11)), (12, .int (oI x12))]) hx hb d_L11_171 hl (by decide) rfl (fun ls hl => ?_)
    refine lv_iload hx hb d_L11_173 (lv_at hl 10 rfl) ?_
    obtain ⟨ok28, h⟩ := ck_e h
    refine lv_if_eq (tgt := 194) hx hb d_L11_175 (by decide) (fun c9 => ?_) (fun c9 => ?_)
    · have h := ite_t ((oI_eq0 ok28).mp c9) h
      refine lv_iconst (v := oI 0) hx hb d_L11_194 (by decide +kernel) ?_
      refine lv_istore (lv' := [(11, .int (oI 0)), (9, .long (oJ (x9 + r26))), (13, .int (oI r26)), (0, .ref (ad 1)), (1, .ref (ad 1)), (2, .int (oI x2)), (3, .ref (ad q3)), (4, .long (oJ x4)), (6, .int (oI x6)), (7, .int (oI x7)), (8, .int (oI x8)), (12, .int (oI x12))]) hx hb d_L11_195 hl (by decide) rfl (fun ls hl => ?_)
      refine lv_iconst (v := oI 0) hx hb d_L11_197 (by decide +kernel) ?_
      refine lv_istore (lv' := [(14, .int (oI 0)), (11, .int (oI 0)), (9, .long (oJ (x9 + r26))), (13, .int (oI r26)), (0, .ref (ad 1)), (1, .ref (ad 1)), (2, .int (oI x2)), (3, .ref (ad q3)), (4, .long (oJ x4)), (6, .int (oI x6)), (7, .int (oI x7)), (8, .int (oI x8)), (12, .int (oI x12))]) hx hb d_L11_198 hl (by decide) rfl (fun ls hl => ?_)
      obtain ⟨⟨t53, v53_11, v53_14, E53, M53⟩, g53, h⟩ := bd_e h
      obtain ⟨hgw53, h⟩ := ck_e h
      obtain ⟨hL53, h⟩ := ck_e h
      obtain ⟨ok53, h⟩ := ck_e h
      refine s_La_seats_200 l z E ad x2 q3 x4 x6 x7 x8 (x9 + r26) x12 r26 hx hb hml hts hown hlocks hA hG hZ mc ms (c0 + 0) (s0 + 0) (by omega) (by omega) 5000 _ _ ad E M 0 0 t53 v53_11 v53_14 E53 M53 (by omega) (by omega) (fun _ _ => rfl) (Nat.le_refl _) g53 (fun ad53 hag53 hEE53 e53 H locs ls hP hD hS hl => ?_) H locs ls hP hD hS (lv_sub hl [4, 5, 6, 7, 8, 9, 10, 11, 2, 1, 12, 3, 0] rfl)
      have hag0 : ∀ i, i < nE E0 → ad53 i = ad0 i := fun i hi => (hag53 i (Nat.lt_of_lt_of_le hi hE0)).trans (hag0 i hi)
      have hE0 : nE E0 ≤ nE E53 := Nat.le_trans hE0 hgw53.1
      have hL : Lay E53 := hL53
      have h_q3 : isIA E53 q3 := isA_up hgw53 h_q3
      refine lv_iload hx hb d_L11_307 (lv_at hl 5 rfl) ?_
      refine lv_iconst (v := oI 5) hx hb d_L11_309 (by decide +kernel) ?_
      obtain ⟨ok54, h⟩ := ck_e h
      refine lv_icmp_ne (tgt := 366) hx hb d_L11_310 (by decide) (fun c9 => ?_) (fun c9 => ?_)
      · have h := ite_f (fun q => c9 ((oI_eq (a := x6) (b := (5 : Int)) ok54 (by decide)).mpr q)) h
        refine lv_iinc (v := oI (x12 + 1)) (lv' := [(12, .int (oI (x12 + 1))), (0, .ref (ad53 1)), (1, .ref (ad53 1)), (2, .int (oI x2)), (3, .ref (ad53 q3)), (4, .long (oJ x4)), (6, .int (oI x6)), (7, .int (oI x7)), (8, .int (oI x8)), (9, .long (oJ (x9 + r26))), (11, .int (oI v53_11)), (13, .int (oI r26))]) hx hb d_L11_366 hl (k := 10) rfl (oI_add x12 1) (by decide) rfl (fun ls hl => ?_)
        refine lv_goto (tgt := 151) hx hb d_L11_369 (by decide) ?_
        obtain ⟨rfl, rfl, rfl, rfl, rfl, rfl⟩ := in6 h
        exact W.wide (by omega) (by omega) (k0 ad53 hag0 hE0 rfl H locs ls hP hD hS (lv_sub hl [1, 2, 3, 4, 5, 6, 7, 8, 9, 10, 0] rfl))
      · have h := ite_t ((oI_eq (a := x6) (b := (5 : Int)) ok54 (by decide)).mp c9) h
        refine lv_lload hx hb d_L11_313 (lv_at hl 4 rfl) ?_
        refine lv_lconst (v := oJ 0) hx hb d_L11_315 (by decide +kernel) ?_
        obtain ⟨ok55, h⟩ := ck_e h
        refine W.lcmp hx hb d_L11_316 ?_
        refine nrm (cmp_val (a := x4) (b := (0 : Int)) ok55 (by decide)) ?_
        refine lv_if_le (tgt := 366) hx hb d_L11_317 (by decide) (fun c9 => ?_) (fun c9 => ?_)
        · have h := ite_t ((cmp_le x4 (0 : Int)).mp c9) h
          refine lv_iinc (v := oI (x12 + 1)) (lv' := [(12, .int (oI (x12 + 1))), (0, .ref (ad53 1)), (1, .ref (ad53 1)), (2, .int (oI x2)), (3, .ref (ad53 q3)), (4, .long (oJ x4)), (6, .int (oI x6)), (7, .int (oI x7)), (8, .int (oI x8)), (9, .long (oJ (x9 + r26))), (11, .int (oI v53_11)), (13, .int (oI r26))]) hx hb d_L11_366 hl (k := 10) rfl (oI_add x12 1) (by decide) rfl (fun ls hl => ?_)
          refine lv_goto (tgt := 151) hx hb d_L11_369 (by decide) ?_
          obtain ⟨rfl, rfl, rfl, rfl, rfl, rfl⟩ := in6 h
          exact W.wide (by omega) (by omega) (k0 ad53 hag0 hE0 rfl H locs ls hP hD hS (lv_sub hl [1, 2, 3, 4, 5, 6, 7, 8, 9, 10, 0] rfl))
        · have h := ite_f (fun q => c9 ((cmp_le x4 (0 : Int)).mpr q)) h
          refine lv_aload_n hx hb d_L11_320 rfl (lv_at hl 3 rfl) ?_
          refine lv_iload hx hb d_L11_321 (lv_at hl 10 rfl) ?_
          obtain ⟨ok56, h⟩ := ck_e h
          refine m_ia hx hb hG hP h_q3.1 (isIA_T h_q3) ok56 d_L11_323 ?_
          obtain ⟨ok57, h⟩ := ck_e h
          refine lv_i2l (v := oJ (M53 q3 x12.toNat)) hx hb d_L11_324 (oI_l ok57) ?_
          refine lv_iload hx hb d_L11_325 (lv_at hl 6 rfl) ?_
          obtain ⟨ok58, h⟩ := ck_e h
          refine lv_i2l (v := oJ x7) hx hb d_L11_327 (oI_l ok58) ?_
          refine lv_lmul hx hb d_L11_328 ?_
          refine nrmL (oJ_mul _ _) ?_
          refine lv_lload hx hb d_L11_329 (lv_at hl 4 rfl) ?_
          obtain ⟨ok59, h⟩ := ck_e h
          obtain ⟨ok60, h⟩ := ck_e h
          refine lv_ldiv hx hb d_L11_331 (oJ_nz ok60.1 ok60.2) ?_
          refine nrmL (oJ_div (a := ((M53 q3 x12.toNat) * x7)) (b := x4) ok59.1 ok59.2 ok60.1 ok60.2) ?_
          obtain ⟨v61, e61, h⟩ := nb_e h
          refine nrmL (congrArg oJ e61.symm) ?_
          refine lv_lstore (lv' := [(14, .long (oJ v61)), (0, .ref (ad53 1)), (1, .ref (ad53 1)), (2, .int (oI x2)), (3, .ref (ad53 q3)), (4, .long (oJ x4)), (6, .int (oI x6)), (7, .int (oI x7)), (8, .int (oI x8)), (9, .long (oJ (x9 + r26))), (11, .int (oI v53_11)), (12, .int (oI x12)), (13, .int (oI r26))]) hx hb d_L11_332 hl (by decide) rfl (fun ls hl => ?_)
          refine lv_iload hx hb d_L11_334 (lv_at hl 10 rfl) ?_
          obtain ⟨ok62, h⟩ := ck_e h
          refine lv_if_eq (tgt := 363) hx hb d_L11_336 (by decide) (fun c9 => ?_) (fun c9 => ?_)
          · have h := ite_t ((oI_eq0 ok62).mp c9) h
            refine lv_iconst (v := oI 0) hx hb d_L11_363 (by decide +kernel) ?_
            refine lv_istore (lv' := [(11, .int (oI 0)), (14, .long (oJ v61)), (0, .ref (ad53 1)), (1, .ref (ad53 1)), (2, .int (oI x2)), (3, .ref (ad53 q3)), (4, .long (oJ x4)), (6, .int (oI x6)), (7, .int (oI x7)), (8, .int (oI x8)), (9, .long (oJ (x9 + r26))), (12, .int (oI x12)), (13, .int (oI r26))]) hx hb d_L11_364 hl (by decide) rfl (fun ls hl => ?_)
            refine lv_iinc (v := oI (x12 + 1)) (lv' := [(12, .int (oI (x12 + 1))), (11, .int (oI 0)), (14, .long (oJ v61)), (0, .ref (ad53 1)), (1, .ref (ad53 1)), (2, .int (oI x2)), (3, .ref (ad53 q3)), (4, .long (oJ x4)), (6, .int (oI x6)), (7, .int (oI x7)), (8, .int (oI x8)), (9, .long (oJ (x9 + r26))), (13, .int (oI r26))]) hx hb d_L11_366 hl (k := 11) rfl (oI_add x12 1) (by decide) rfl (fun ls hl => ?_)
            refine lv_goto (tgt := 151) hx hb d_L11_369 (by decide) ?_
            obtain ⟨rfl, rfl, rfl, rfl, rfl, rfl⟩ := in6 h
            exact W.wide (by omega) (by omega) (k0 ad53 hag0 hE0 rfl H locs ls hP hD hS (lv_sub hl [3, 4, 5, 6, 7, 8, 9, 10, 11, 1, 0] rfl))
          · have h := ite_f (fun q => c9 ((oI_eq0 ok62).mpr q)) h
            refine lv_iload hx hb d_L11_339 (lv_at hl 12 rfl) ?_
            refine lv_i2l (v := oJ r26) hx hb d_L11_341 (oI_l ok27) ?_
            refine lv_lload hx hb d_L11_342 (lv_at hl 0 rfl) ?_
            obtain ⟨ok63, h⟩ := ck_e h
            refine W.lcmp hx hb d_L11_344 ?_
            refine nrm (cmp_val (a := r26) (b := v61) (rg_ij ok27) ok63) ?_
            refine lv_if_eq (tgt := 359) hx hb d_L11_345 (by decide) (fun c9 => ?_) (fun c9 => ?_)
            · have h := ite_t ((cmp_eq r26 v61).mp c9) h
              refine lv_iconst (v := oI 1) hx hb d_L11_359 (by decide +kernel) ?_
              refine lv_goto (tgt := 364) hx hb d_L11_360 (by decide) ?_
              refine lv_istore (lv' := [(11, .int (oI 1)), (14, .long (oJ v61)), (0, .ref (ad53 1)), (1, .ref (ad53 1)), (2, .int (oI x2)), (3, .ref (ad53 q3)), (4, .long (oJ x4)), (6, .int (oI x6)), (7, .int (oI x7)), (8, .int (oI x8)), (9, .long (oJ (x9 + r26))), (12, .int (oI x12)), (13, .int (oI r26))]) hx hb d_L11_364 hl (by decide) rfl (fun ls hl => ?_)
              refine lv_iinc (v := oI (x12 + 1)) (lv' := [(12, .int (oI (x12 + 1))), (11, .int (oI 1)), (14, .long (oJ v61)), (0, .ref (ad53 1)), (1, .ref (ad53 1)), (2, .int (oI x2)), (3, .ref (ad53 q3)), (4, .long (oJ x4)), (6, .int (oI x6)), (7, .int (oI x7)), (8, .int (oI x8)), (9, .long (oJ (x9 + r26))), (13, .int (oI r26))]) hx hb d_L11_366 hl (k := 11) rfl (oI_add x12 1) (by decide) rfl (fun ls hl => ?_)
              refine lv_goto (tgt := 151) hx hb d_L11_369 (by decide) ?_
              obtain ⟨rfl, rfl, rfl, rfl, rfl, rfl⟩ := in6 h
              exact W.wide (by omega) (by omega) (k0 ad53 hag0 hE0 rfl H locs ls hP hD hS (lv_sub hl [3, 4, 5, 6, 7, 8, 9, 10, 11, 1, 0] rfl))
            · have h := ite_f (fun q => c9 ((cmp_eq r26 v61).mpr q)) h
              refine lv_iload hx hb d_L11_348 (lv_at hl 12 rfl) ?_
              refine lv_i2l (v := oJ r26) hx hb d_L11_350 (oI_l ok27) ?_
              refine lv_lload hx hb d_L11_351 (lv_at hl 0 rfl) ?_
              refine lv_lconst (v := oJ 1) hx hb d_L11_353 (by decide +kernel) ?_
              refine lv_ladd hx hb d_L11_354 ?_
              refine nrmL (oJ_add _ _) ?_
              obtain ⟨ok64, h⟩ := ck_e h
              refine W.lcmp hx hb d_L11_355 ?_
              refine nrm (cmp_val (a := r26) (b := (v61 + 1)) (rg_ij ok27) ok64) ?_
              refine lv_if_ne (tgt := 363) hx hb d_L11_356 (by decide) (fun c9 => ?_) (fun c9 => ?_)
              · have h := ite_f (fun q => c9 ((cmp_eq r26 (v61 + 1)).mpr q)) h
                refine lv_iconst (v := oI 0) hx hb d_L11_363 (by decide +kernel) ?_
                refine lv_istore (lv' := [(11, .int (oI 0)), (14, .long (oJ v61)), (0, .ref (ad53 1)), (1, .ref (ad53 1)), (2, .int (oI x2)), (3, .ref (ad53 q3)), (4, .long (oJ x4)), (6, .int (oI x6)), (7, .int (oI x7)), (8, .int (oI x8)), (9, .long (oJ (x9 + r26))), (12, .int (oI x12)), (13, .int (oI r26))]) hx hb d_L11_364 hl (by decide) rfl (fun ls hl => ?_)
                refine lv_iinc (v := oI (x12 + 1)) (lv' := [(12, .int (oI (x12 + 1))), (11, .int (oI 0)), (14, .long (oJ v61)), (0, .ref (ad53 1)), (1, .ref (ad53 1)), (2, .int (oI x2)), (3, .ref (ad53 q3)), (4, .long (oJ x4)), (6, .int (oI x6)), (7, .int (oI x7)), (8, .int (oI x8)), (9, .long (oJ (x9 + r26))), (13, .int (oI r26))]) hx hb d_L11_366 hl (k := 11) rfl (oI_add x12 1) (by decide) rfl (fun ls hl => ?_)
                refine lv_goto (tgt := 151) hx hb d_L11_369 (by decide) ?_
                obtain ⟨rfl, rfl, rfl, rfl, rfl, rfl⟩ := in6 h
                exact W.wide (by omega) (by omega) (k0 ad53 hag0 hE0 rfl H locs ls hP hD hS (lv_sub hl [3, 4, 5, 6, 7, 8, 9, 10, 11, 1, 0] rfl))
              · have h := ite_t ((cmp_eq r26 (v61 + 1)).mp c9) h
                refine lv_iconst (v := oI 1) hx hb d_L11_359 (by decide +kernel) ?_
                refine lv_goto (tgt := 364) hx hb d_L11_360 (by decide) ?_
                refine lv_istore (lv' := [(11, .int (oI 1)), (14, .long (oJ v61)), (0, .ref (ad53 1)), (1, .ref (ad53 1)), (2, .int (oI x2)), (3, .ref (ad53 q3)), (4, .long (oJ x4)), (6, .int (oI x6)), (7, .int (oI x7)), (8, .int (oI x8)), (9, .long (oJ (x9 + r26))), (12, .int (oI x12)), (13, .int (oI r26))]) hx hb d_L11_364 hl (by decide) rfl (fun ls hl => ?_)
                refine lv_iinc (v := oI (x12 + 1)) (lv' := [(12, .int (oI (x12 + 1))), (11, .int (oI 1)), (14, .long (oJ v61)), (0, .ref (ad53 1)), (1, .ref (ad53 1)), (2, .int (oI x2)), (3, .ref (ad53 q3)), (4, .long (oJ x4)), (6, .int (oI x6)), (7, .int (oI x7)), (8, .int (oI x8)), (9, .long (oJ (x9 + r26))), (13, .int (oI r26))]) hx hb d_L11_366 hl (k := 11) rfl (oI_add x12 1) (by decide) rfl (fun ls hl => ?_)
                refine lv_goto (tgt := 151) hx hb d_L11_369 (by decide) ?_
                obtain ⟨rfl, rfl, rfl, rfl, rfl, rfl⟩ := in6 h
                exact W.wide (by omega) (by omega) (k0 ad53 hag0 hE0 rfl H locs ls hP hD hS (lv_sub hl [3, 4, 5, 6, 7, 8, 9, 10, 11, 1, 0] rfl))
    · have h := ite_f (fun q => c9 ((oI_eq0 ok28).mpr q)) h
      refine lv_aload_n hx hb d_L11_178 rfl (lv_at hl 5 rfl) ?_
      refine lv_iload hx hb d_L11_179 (lv_at hl 11 rfl) ?_
      obtain ⟨ok65, h⟩ := ck_e h
      refine m_ia hx hb hG hP h_q3.1 (isIA_T h_q3) ok65 d_L11_181 ?_
      obtain ⟨ok66, h⟩ := ck_e h
      refine lv_if_gt (tgt := 190) hx hb d_L11_182 (by decide) (fun c9 => ?_) (fun c9 => ?_)
      · have h := ite_t ((oI_gt0 ok66).mp c9) h
        refine lv_iconst (v := oI 1) hx hb d_L11_190 (by decide +kernel) ?_
        refine lv_goto (tgt := 195) hx hb d_L11_191 (by decide) ?_
        refine lv_istore (lv' := [(11, .int (oI 1)), (9, .long (oJ (x9 + r26))), (13, .int (oI r26)), (0, .ref (ad 1)), (1, .ref (ad 1)), (2, .int (oI x2)), (3, .ref (ad q3)), (4, .long (oJ x4)), (6, .int (oI x6)), (7, .int (oI x7)), (8, .int (oI x8)), (12, .int (oI x12))]) hx hb d_L11_195 hl (by decide) rfl (fun ls hl => ?_)
        refine lv_iconst (v := oI 0) hx hb d_L11_197 (by decide +kernel) ?_
        refine lv_istore (lv' := [(14, .int (oI 0)), (11, .int (oI 1)), (9, .long (oJ (x9 + r26))), (13, .int (oI r26)), (0, .ref (ad 1)), (1, .ref (ad 1)), (2, .int (oI x2)), (3, .ref (ad q3)), (4, .long (oJ x4)), (6, .int (oI x6)), (7, .int (oI x7)), (8, .int (oI x8)), (12, .int (oI x12))]) hx hb d_L11_198 hl (by decide) rfl (fun ls hl => ?_)
        obtain ⟨⟨t67, v67_11, v67_14, E67, M67⟩, g67, h⟩ := bd_e h
        obtain ⟨hgw67, h⟩ := ck_e h
        obtain ⟨hL67, h⟩ := ck_e h
        obtain ⟨ok67, h⟩ := ck_e h
        refine s_La_seats_200 l z E ad x2 q3 x4 x6 x7 x8 (x9 + r26) x12 r26 hx hb hml hts hown hlocks hA hG hZ mc ms (c0 + 0) (s0 + 0) (by omega) (by omega) 5000 _ _ ad E M 1 0 t67 v67_11 v67_14 E67 M67 (by omega) (by omega) (fun _ _ => rfl) (Nat.le_refl _) g67 (fun ad67 hag67 hEE67 e67 H locs ls hP hD hS hl => ?_) H locs ls hP hD hS (lv_sub hl [4, 5, 6, 7, 8, 9, 10, 11, 2, 1, 12, 3, 0] rfl)
        have hag0 : ∀ i, i < nE E0 → ad67 i = ad0 i := fun i hi => (hag67 i (Nat.lt_of_lt_of_le hi hE0)).trans (hag0 i hi)
        have hE0 : nE E0 ≤ nE E67 := Nat.le_trans hE0 hgw67.1
        have hL : Lay E67 := hL67
        have h_q3 : isIA E67 q3 := isA_up hgw67 h_q3
        refine lv_iload hx hb d_L11_307 (lv_at hl 5 rfl) ?_
        refine lv_iconst (v := oI 5) hx hb d_L11_309 (by decide +kernel) ?_
        obtain ⟨ok68, h⟩ := ck_e h
        refine lv_icmp_ne (tgt := 366) hx hb d_L11_310 (by decide) (fun c9 => ?_) (fun c9 => ?_)
        · have h := ite_f (fun q => c9 ((oI_eq (a := x6) (b := (5 : Int)) ok68 (by decide)).mpr q)) h
          refine lv_iinc (v := oI (x12 + 1)) (lv' := [(12, .int (oI (x12 + 1))), (0, .ref (ad67 1)), (1, .ref (ad67 1)), (2, .int (oI x2)), (3, .ref (ad67 q3)), (4, .long (oJ x4)), (6, .int (oI x6)), (7, .int (oI x7)), (8, .int (oI x8)), (9, .long (oJ (x9 + r26))), (11, .int (oI v67_11)), (13, .int (oI r26))]) hx hb d_L11_366 hl (k := 10) rfl (oI_add x12 1) (by decide) rfl (fun ls hl => ?_)
          refine lv_goto (tgt := 151) hx hb d_L11_369 (by decide) ?_
          obtain ⟨rfl, rfl, rfl, rfl, rfl, rfl⟩ := in6 h
          exact W.wide (by omega) (by omega) (k0 ad67 hag0 hE0 rfl H locs ls hP hD hS (lv_sub hl [1, 2, 3, 4, 5, 6, 7, 8, 9, 10, 0] rfl))
        · have h := ite_t ((oI_eq (a := x6) (b := (5 : Int)) ok68 (by decide)).mp c9) h
          refine lv_lload hx hb d_L11_313 (lv_at hl 4 rfl) ?_
          refine lv_lconst (v := oJ 0) hx hb d_L11_315 (by decide +kernel) ?_
          obtain ⟨ok69, h⟩ := ck_e h
          refine W.lcmp hx hb d_L11_316 ?_
          refine nrm (cmp_val (a := x4) (b := (0 : Int)) ok69 (by decide)) ?_
          refine lv_if_le (tgt := 366) hx hb d_L11_317 (by decide) (fun c9 => ?_) (fun c9 => ?_)
          · have h := ite_t ((cmp_le x4 (0 : Int)).mp c9) h
            refine lv_iinc (v := oI (x12 + 1)) (lv' := [(12, .int (oI (x12 + 1))), (0, .ref (ad67 1)), (1, .ref (ad67 1)), (2, .int (oI x2)), (3, .ref (ad67 q3)), (4, .long (oJ x4)), (6, .int (oI x6)), (7, .int (oI x7)), (8, .int (oI x8)), (9, .long (oJ (x9 + r26))), (11, .int (oI v67_11)), (13, .int (oI r26))]) hx hb d_L11_366 hl (k := 10) rfl (oI_add x12 1) (by decide) rfl (fun ls hl => ?_)
            refine lv_goto (tgt := 151) hx hb d_L11_369 (by decide) ?_
            obtain ⟨rfl, rfl, rfl, rfl, rfl, rfl⟩ := in6 h
            exact W.wide (by omega) (by omega) (k0 ad67 hag0 hE0 rfl H locs ls hP hD hS (lv_sub hl [1, 2, 3, 4, 5, 6, 7, 8, 9, 10, 0] rfl))
          · have h := ite_f (fun q => c9 ((cmp_le x4 (0 : Int)).mpr q)) h
            refine lv_aload_n hx hb d_L11_320 rfl (lv_at hl 3 rfl) ?_
            refine lv_iload hx hb d_L11_321 (lv_at hl 10 rfl) ?_
            obtain ⟨ok70, h⟩ := ck_e h
            refine m_ia hx hb hG hP h_q3.1 (isIA_T h_q3) ok70 d_L11_323 ?_
            obtain ⟨ok71, h⟩ := ck_e h
            refine lv_i2l (v := oJ (M67 q3 x12.toNat)) hx hb d_L11_324 (oI_l ok71) ?_
            refine lv_iload hx hb d_L11_325 (lv_at hl 6 rfl) ?_
            obtain ⟨ok72, h⟩ := ck_e h
            refine lv_i2l (v := oJ x7) hx hb d_L11_327 (oI_l ok72) ?_
            refine lv_lmul hx hb d_L11_328 ?_
            refine nrmL (oJ_mul _ _) ?_
            refine lv_lload hx hb d_L11_329 (lv_at hl 4 rfl) ?_
            obtain ⟨ok73, h⟩ := ck_e h
            obtain ⟨ok74, h⟩ := ck_e h
            refine lv_ldiv hx hb d_L11_331 (oJ_nz ok74.1 ok74.2) ?_
            refine nrmL (oJ_div (a := ((M67 q3 x12.toNat) * x7)) (b := x4) ok73.1 ok73.2 ok74.1 ok74.2) ?_
            obtain ⟨v75, e75, h⟩ := nb_e h
            refine nrmL (congrArg oJ e75.symm) ?_
            refine lv_lstore (lv' := [(14, .long (oJ v75)), (0, .ref (ad67 1)), (1, .ref (ad67 1)), (2, .int (oI x2)), (3, .ref (ad67 q3)), (4, .long (oJ x4)), (6, .int (oI x6)), (7, .int (oI x7)), (8, .int (oI x8)), (9, .long (oJ (x9 + r26))), (11, .int (oI v67_11)), (12, .int (oI x12)), (13, .int (oI r26))]) hx hb d_L11_332 hl (by decide) rfl (fun ls hl => ?_)
            refine lv_iload hx hb d_L11_334 (lv_at hl 10 rfl) ?_
            obtain ⟨ok76, h⟩ := ck_e h
            refine lv_if_eq (tgt := 363) hx hb d_L11_336 (by decide) (fun c9 => ?_) (fun c9 => ?_)
            · have h := ite_t ((oI_eq0 ok76).mp c9) h
              refine lv_iconst (v := oI 0) hx hb d_L11_363 (by decide +kernel) ?_
              refine lv_istore (lv' := [(11, .int (oI 0)), (14, .long (oJ v75)), (0, .ref (ad67 1)), (1, .ref (ad67 1)), (2, .int (oI x2)), (3, .ref (ad67 q3)), (4, .long (oJ x4)), (6, .int (oI x6)), (7, .int (oI x7)), (8, .int (oI x8)), (9, .long (oJ (x9 + r26))), (12, .int (oI x12)), (13, .int (oI r26))]) hx hb d_L11_364 hl (by decide) rfl (fun ls hl => ?_)
              refine lv_iinc (v := oI (x12 + 1)) (lv' := [(12, .int (oI (x12 + 1))), (11, .int (oI 0)), (14, .long (oJ v75)), (0, .ref (ad67 1)), (1, .ref (ad67 1)), (2, .int (oI x2)), (3, .ref (ad67 q3)), (4, .long (oJ x4)), (6, .int (oI x6)), (7, .int (oI x7)), (8, .int (oI x8)), (9, .long (oJ (x9 + r26))), (13, .int (oI r26))]) hx hb d_L11_366 hl (k := 11) rfl (oI_add x12 1) (by decide) rfl (fun ls hl => ?_)
              refine lv_goto (tgt := 151) hx hb d_L11_369 (by decide) ?_
              obtain ⟨rfl, rfl, rfl, rfl, rfl, rfl⟩ := in6 h
              exact W.wide (by omega) (by omega) (k0 ad67 hag0 hE0 rfl H locs ls hP hD hS (lv_sub hl [3, 4, 5, 6, 7, 8, 9, 10, 11, 1, 0] rfl))
            · have h := ite_f (fun q => c9 ((oI_eq0 ok76).mpr q)) h
              refine lv_iload hx hb d_L11_339 (lv_at hl 12 rfl) ?_
              refine lv_i2l (v := oJ r26) hx hb d_L11_341 (oI_l ok27) ?_
              refine lv_lload hx hb d_L11_342 (lv_at hl 0 rfl) ?_
              obtain ⟨ok77, h⟩ := ck_e h
              refine W.lcmp hx hb d_L11_344 ?_
              refine nrm (cmp_val (a := r26) (b := v75) (rg_ij ok27) ok77) ?_
              refine lv_if_eq (tgt := 359) hx hb d_L11_345 (by decide) (fun c9 => ?_) (fun c9 => ?_)
              · have h := ite_t ((cmp_eq r26 v75).mp c9) h
                refine lv_iconst (v := oI 1) hx hb d_L11_359 (by decide +kernel) ?_
                refine lv_goto (tgt := 364) hx hb d_L11_360 (by decide) ?_
                refine lv_istore (lv' := [(11, .int (oI 1)), (14, .long (oJ v75)), (0, .ref (ad67 1)), (1, .ref (ad67 1)), (2, .int (oI x2)), (3, .ref (ad67 q3)), (4, .long (oJ x4)), (6, .int (oI x6)), (7, .int (oI x7)), (8, .int (oI x8)), (9, .long (oJ (x9 + r26))), (12, .int (oI x12)), (13, .int (oI r26))]) hx hb d_L11_364 hl (by decide) rfl (fun ls hl => ?_)
                refine lv_iinc (v := oI (x12 + 1)) (lv' := [(12, .int (oI (x12 + 1))), (11, .int (oI 1)), (14, .long (oJ v75)), (0, .ref (ad67 1)), (1, .ref (ad67 1)), (2, .int (oI x2)), (3, .ref (ad67 q3)), (4, .long (oJ x4)), (6, .int (oI x6)), (7, .int (oI x7)), (8, .int (oI x8)), (9, .long (oJ (x9 + r26))), (13, .int (oI r26))]) hx hb d_L11_366 hl (k := 11) rfl (oI_add x12 1) (by decide) rfl (fun ls hl => ?_)
                refine lv_goto (tgt := 151) hx hb d_L11_369 (by decide) ?_
                obtain ⟨rfl, rfl, rfl, rfl, rfl, rfl⟩ := in6 h
                exact W.wide (by omega) (by omega) (k0 ad67 hag0 hE0 rfl H locs ls hP hD hS (lv_sub hl [3, 4, 5, 6, 7, 8, 9, 10, 11, 1, 0] rfl))
              · have h := ite_f (fun q => c9 ((cmp_eq r26 v75).mpr q)) h
                refine lv_iload hx hb d_L11_348 (lv_at hl 12 rfl) ?_
                refine lv_i2l (v := oJ r26) hx hb d_L11_350 (oI_l ok27) ?_
                refine lv_lload hx hb d_L11_351 (lv_at hl 0 rfl) ?_
                refine lv_lconst (v := oJ 1) hx hb d_L11_353 (by decide +kernel) ?_
                refine lv_ladd hx hb d_L11_354 ?_
                refine nrmL (oJ_add _ _) ?_
                obtain ⟨ok78, h⟩ := ck_e h
                refine W.lcmp hx hb d_L11_355 ?_
                refine nrm (cmp_val (a := r26) (b := (v75 + 1)) (rg_ij ok27) ok78) ?_
                refine lv_if_ne (tgt := 363) hx hb d_L11_356 (by decide) (fun c9 => ?_) (fun c9 => ?_)
                · have h := ite_f (fun q => c9 ((cmp_eq r26 (v75 + 1)).mpr q)) h
                  refine lv_iconst (v := oI 0) hx hb d_L11_363 (by decide +kernel) ?_
                  refine lv_istore (lv' := [(11, .int (oI 0)), (14, .long (oJ v75)), (0, .ref (ad67 1)), (1, .ref (ad67 1)), (2, .int (oI x2)), (3, .ref (ad67 q3)), (4, .long (oJ x4)), (6, .int (oI x6)), (7, .int (oI x7)), (8, .int (oI x8)), (9, .long (oJ (x9 + r26))), (12, .int (oI x12)), (13, .int (oI r26))]) hx hb d_L11_364 hl (by decide) rfl (fun ls hl => ?_)
                  refine lv_iinc (v := oI (x12 + 1)) (lv' := [(12, .int (oI (x12 + 1))), (11, .int (oI 0)), (14, .long (oJ v75)), (0, .ref (ad67 1)), (1, .ref (ad67 1)), (2, .int (oI x2)), (3, .ref (ad67 q3)), (4, .long (oJ x4)), (6, .int (oI x6)), (7, .int (oI x7)), (8, .int (oI x8)), (9, .long (oJ (x9 + r26))), (13, .int (oI r26))]) hx hb d_L11_366 hl (k := 11) rfl (oI_add x12 1) (by decide) rfl (fun ls hl => ?_)
                  refine lv_goto (tgt := 151) hx hb d_L11_369 (by decide) ?_
                  obtain ⟨rfl, rfl, rfl, rfl, rfl, rfl⟩ := in6 h
                  exact W.wide (by omega) (by omega) (k0 ad67 hag0 hE0 rfl H locs ls hP hD hS (lv_sub hl [3, 4, 5, 6, 7, 8, 9, 10, 11, 1, 0] rfl))
                · have h := ite_t ((cmp_eq r26 (v75 + 1)).mp c9) h
                  refine lv_iconst (v := oI 1) hx hb d_L11_359 (by decide +kernel) ?_
                  refine lv_goto (tgt := 364) hx hb d_L11_360 (by decide) ?_
                  refine lv_istore (lv' := [(11, .int (oI 1)), (14, .long (oJ v75)), (0, .ref (ad67 1)), (1, .ref (ad67 1)), (2, .int (oI x2)), (3, .ref (ad67 q3)), (4, .long (oJ x4)), (6, .int (oI x6)), (7, .int (oI x7)), (8, .int (oI x8)), (9, .long (oJ (x9 + r26))), (12, .int (oI x12)), (13, .int (oI r26))]) hx hb d_L11_364 hl (by decide) rfl (fun ls hl => ?_)
                  refine lv_iinc (v := oI (x12 + 1)) (lv' := [(12, .int (oI (x12 + 1))), (11, .int (oI 1)), (14, .long (oJ v75)), (0, .ref (ad67 1)), (1, .ref (ad67 1)), (2, .int (oI x2)), (3, .ref (ad67 q3)), (4, .long (oJ x4)), (6, .int (oI x6)), (7, .int (oI x7)), (8, .int (oI x8)), (9, .long (oJ (x9 + r26))), (13, .int (oI r26))]) hx hb d_L11_366 hl (k := 11) rfl (oI_add x12 1) (by decide) rfl (fun ls hl => ?_)
                  refine lv_goto (tgt := 151) hx hb d_L11_369 (by decide) ?_
                  obtain ⟨rfl, rfl, rfl, rfl, rfl, rfl⟩ := in6 h
                  exact W.wide (by omega) (by omega) (k0 ad67 hag0 hE0 rfl H locs ls hP hD hS (lv_sub hl [3, 4, 5, 6, 7, 8, 9, 10, 11, 1, 0] rfl))
      · have h := ite_f (fun q => c9 ((oI_gt0 ok66).mpr q)) h
        refine lv_iload hx hb d_L11_185 (lv_at hl 1 rfl) ?_
        refine lv_if_ne (tgt := 194) hx hb d_L11_187 (by decide) (fun c9 => ?_) (fun c9 => ?_)
        · have h := ite_f (fun q => c9 ((oI_eq0 ok27).mpr q)) h
          refine lv_iconst (v := oI 0) hx hb d_L11_194 (by decide +kernel) ?_
          refine lv_istore (lv' := [(11, .int (oI 0)), (9, .long (oJ (x9 + r26))), (13, .int (oI r26)), (0, .ref (ad 1)), (1, .ref (ad 1)), (2, .int (oI x2)), (3, .ref (ad q3)), (4, .long (oJ x4)), (6, .int (oI x6)), (7, .int (oI x7)), (8, .int (oI x8)), (12, .int (oI x12))]) hx hb d_L11_195 hl (by decide) rfl (fun ls hl => ?_)
          refine lv_iconst (v := oI 0) hx hb d_L11_197 (by decide +kernel) ?_
          refine lv_istore (lv' := [(14, .int (oI 0)), (11, .int (oI 0)), (9, .long (oJ (x9 + r26))), (13, .int (oI r26)), (0, .ref (ad 1)), (1, .ref (ad 1)), (2, .int (oI x2)), (3, .ref (ad q3)), (4, .long (oJ x4)), (6, .int (oI x6)), (7, .int (oI x7)), (8, .int (oI x8)), (12, .int (oI x12))]) hx hb d_L11_198 hl (by decide) rfl (fun ls hl => ?_)
          obtain ⟨⟨t79, v79_11, v79_14, E79, M79⟩, g79, h⟩ := bd_e h
          obtain ⟨hgw79, h⟩ := ck_e h
          obtain ⟨hL79, h⟩ := ck_e h
          obtain ⟨ok79, h⟩ := ck_e h
          refine s_La_seats_200 l z E ad x2 q3 x4 x6 x7 x8 (x9 + r26) x12 r26 hx hb hml hts hown hlocks hA hG hZ mc ms (c0 + 0) (s0 + 0) (by omega) (by omega) 5000 _ _ ad E M 0 0 t79 v79_11 v79_14 E79 M79 (by omega) (by omega) (fun _ _ => rfl) (Nat.le_refl _) g79 (fun ad79 hag79 hEE79 e79 H locs ls hP hD hS hl => ?_) H locs ls hP hD hS (lv_sub hl [4, 5, 6, 7, 8, 9, 10, 11, 2, 1, 12, 3, 0] rfl)
          have hag0 : ∀ i, i < nE E0 → ad79 i = ad0 i := fun i hi => (hag79 i (Nat.lt_of_lt_of_le hi hE0)).trans (hag0 i hi)
          have hE0 : nE E0 ≤ nE E79 := Nat.le_trans hE0 hgw79.1
          have hL : Lay E79 := hL79
          have h_q3 : isIA E79 q3 := isA_up hgw79 h_q3
          refine lv_iload hx hb d_L11_307 (lv_at hl 5 rfl) ?_
          refine lv_iconst (v := oI 5) hx hb d_L11_309 (by decide +kernel) ?_
          obtain ⟨ok80, h⟩ := ck_e h
          refine lv_icmp_ne (tgt := 366) hx hb d_L11_310 (by decide) (fun c9 => ?_) (fun c9 => ?_)
          · have h := ite_f (fun q => c9 ((oI_eq (a := x6) (b := (5 : Int)) ok80 (by decide)).mpr q)) h
            refine lv_iinc (v := oI (x12 + 1)) (lv' := [(12, .int (oI (x12 + 1))), (0, .ref (ad79 1)), (1, .ref (ad79 1)), (2, .int (oI x2)), (3, .ref (ad79 q3)), (4, .long (oJ x4)), (6, .int (oI x6)), (7, .int (oI x7)), (8, .int (oI x8)), (9, .long (oJ (x9 + r26))), (11, .int (oI v79_11)), (13, .int (oI r26))]) hx hb d_L11_366 hl (k := 10) rfl (oI_add x12 1) (by decide) rfl (fun ls hl => ?_)
            refine lv_goto (tgt := 151) hx hb d_L11_369 (by decide) ?_
            obtain ⟨rfl, rfl, rfl, rfl, rfl, rfl⟩ := in6 h
            exact W.wide (by omega) (by omega) (k0 ad79 hag0 hE0 rfl H locs ls hP hD hS (lv_sub hl [1, 2, 3, 4, 5, 6, 7, 8, 9, 10, 0] rfl))
          · have h := ite_t ((oI_eq (a := x6) (b := (5 : Int)) ok80 (by decide)).mp c9) h
            refine lv_lload hx hb d_L11_313 (lv_at hl 4 rfl) ?_
            refine lv_lconst (v := oJ 0) hx hb d_L11_315 (by decide +kernel) ?_
            obtain ⟨ok81, h⟩ := ck_e h
            refine W.lcmp hx hb d_L11_316 ?_
            refine nrm (cmp_val (a := x4) (b := (0 : Int)) ok81 (by decide)) ?_
            refine lv_if_le (tgt := 366) hx hb d_L11_317 (by decide) (fun c9 => ?_) (fun c9 => ?_)
            · have h := ite_t ((cmp_le x4 (0 : Int)).mp c9) h
              refine lv_iinc (v := oI (x12 + 1)) (lv' := [(12, .int (oI (x12 + 1))), (0, .ref (ad79 1)), (1, .ref (ad79 1)), (2, .int (oI x2)), (3, .ref (ad79 q3)), (4, .long (oJ x4)), (6, .int (oI x6)), (7, .int (oI x7)), (8, .int (oI x8)), (9, .long (oJ (x9 + r26))), (11, .int (oI v79_11)), (13, .int (oI r26))]) hx hb d_L11_366 hl (k := 10) rfl (oI_add x12 1) (by decide) rfl (fun ls hl => ?_)
              refine lv_goto (tgt := 151) hx hb d_L11_369 (by decide) ?_
              obtain ⟨rfl, rfl, rfl, rfl, rfl, rfl⟩ := in6 h
              exact W.wide (by omega) (by omega) (k0 ad79 hag0 hE0 rfl H locs ls hP hD hS (lv_sub hl [1, 2, 3, 4, 5, 6, 7, 8, 9, 10, 0] rfl))
            · have h := ite_f (fun q => c9 ((cmp_le x4 (0 : Int)).mpr q)) h
              refine lv_aload_n hx hb d_L11_320 rfl (lv_at hl 3 rfl) ?_
              refine lv_iload hx hb d_L11_321 (lv_at hl 10 rfl) ?_
              obtain ⟨ok82, h⟩ := ck_e h
              refine m_ia hx hb hG hP h_q3.1 (isIA_T h_q3) ok82 d_L11_323 ?_
              obtain ⟨ok83, h⟩ := ck_e h
              refine lv_i2l (v := oJ (M79 q3 x12.toNat)) hx hb d_L11_324 (oI_l ok83) ?_
              refine lv_iload hx hb d_L11_325 (lv_at hl 6 rfl) ?_
              obtain ⟨ok84, h⟩ := ck_e h
              refine lv_i2l (v := oJ x7) hx hb d_L11_327 (oI_l ok84) ?_
              refine lv_lmul hx hb d_L11_328 ?_
              refine nrmL (oJ_mul _ _) ?_
              refine lv_lload hx hb d_L11_329 (lv_at hl 4 rfl) ?_
              obtain ⟨ok85, h⟩ := ck_e h
              obtain ⟨ok86, h⟩ := ck_e h
              refine lv_ldiv hx hb d_L11_331 (oJ_nz ok86.1 ok86.2) ?_
              refine nrmL (oJ_div (a := ((M79 q3 x12.toNat) * x7)) (b := x4) ok85.1 ok85.2 ok86.1 ok86.2) ?_
              obtain ⟨v87, e87, h⟩ := nb_e h
              refine nrmL (congrArg oJ e87.symm) ?_
              refine lv_lstore (lv' := [(14, .long (oJ v87)), (0, .ref (ad79 1)), (1, .ref (ad79 1)), (2, .int (oI x2)), (3, .ref (ad79 q3)), (4, .long (oJ x4)), (6, .int (oI x6)), (7, .int (oI x7)), (8, .int (oI x8)), (9, .long (oJ (x9 + r26))), (11, .int (oI v79_11)), (12, .int (oI x12)), (13, .int (oI r26))]) hx hb d_L11_332 hl (by decide) rfl (fun ls hl => ?_)
              refine lv_iload hx hb d_L11_334 (lv_at hl 10 rfl) ?_
              obtain ⟨ok88, h⟩ := ck_e h
              refine lv_if_eq (tgt := 363) hx hb d_L11_336 (by decide) (fun c9 => ?_) (fun c9 => ?_)
              · have h := ite_t ((oI_eq0 ok88).mp c9) h
                refine lv_iconst (v := oI 0) hx hb d_L11_363 (by decide +kernel) ?_
                refine lv_istore (lv' := [(11, .int (oI 0)), (14, .long (oJ v87)), (0, .ref (ad79 1)), (1, .ref (ad79 1)), (2, .int (oI x2)), (3, .ref (ad79 q3)), (4, .long (oJ x4)), (6, .int (oI x6)), (7, .int (oI x7)), (8, .int (oI x8)), (9, .long (oJ (x9 + r26))), (12, .int (oI x12)), (13, .int (oI r26))]) hx hb d_L11_364 hl (by decide) rfl (fun ls hl => ?_)
                refine lv_iinc (v := oI (x12 + 1)) (lv' := [(12, .int (oI (x12 + 1))), (11, .int (oI 0)), (14, .long (oJ v87)), (0, .ref (ad79 1)), (1, .ref (ad79 1)), (2, .int (oI x2)), (3, .ref (ad79 q3)), (4, .long (oJ x4)), (6, .int (oI x6)), (7, .int (oI x7)), (8, .int (oI x8)), (9, .long (oJ (x9 + r26))), (13, .int (oI r26))]) hx hb d_L11_366 hl (k := 11) rfl (oI_add x12 1) (by decide) rfl (fun ls hl => ?_)
                refine lv_goto (tgt := 151) hx hb d_L11_369 (by decide) ?_
                obtain ⟨rfl, rfl, rfl, rfl, rfl, rfl⟩ := in6 h
                exact W.wide (by omega) (by omega) (k0 ad79 hag0 hE0 rfl H locs ls hP hD hS (lv_sub hl [3, 4, 5, 6, 7, 8, 9, 10, 11, 1, 0] rfl))
              · have h := ite_f (fun q => c9 ((oI_eq0 ok88).mpr q)) h
                refine lv_iload hx hb d_L11_339 (lv_at hl 12 rfl) ?_
                refine lv_i2l (v := oJ r26) hx hb d_L11_341 (oI_l ok27) ?_
                refine lv_lload hx hb d_L11_342 (lv_at hl 0 rfl) ?_
                obtain ⟨ok89, h⟩ := ck_e h
                refine W.lcmp hx hb d_L11_344 ?_
                refine nrm (cmp_val (a := r26) (b := v87) (rg_ij ok27) ok89) ?_
                refine lv_if_eq (tgt := 359) hx hb d_L11_345 (by decide) (fun c9 => ?_) (fun c9 => ?_)
                · have h := ite_t ((cmp_eq r26 v87).mp c9) h
                  refine lv_iconst (v := oI 1) hx hb d_L11_359 (by decide +kernel) ?_
                  refine lv_goto (tgt := 364) hx hb d_L11_360 (by decide) ?_
                  refine lv_istore (lv' := [(11, .int (oI 1)), (14, .long (oJ v87)), (0, .ref (ad79 1)), (1, .ref (ad79 1)), (2, .int (oI x2)), (3, .ref (ad79 q3)), (4, .long (oJ x4)), (6, .int (oI x6)), (7, .int (oI x7)), (8, .int (oI x8)), (9, .long (oJ (x9 + r26))), (12, .int (oI x12)), (13, .int (oI r26))]) hx hb d_L11_364 hl (by decide) rfl (fun ls hl => ?_)
                  refine lv_iinc (v := oI (x12 + 1)) (lv' := [(12, .int (oI (x12 + 1))), (11, .int (oI 1)), (14, .long (oJ v87)), (0, .ref (ad79 1)), (1, .ref (ad79 1)), (2, .int (oI x2)), (3, .ref (ad79 q3)), (4, .long (oJ x4)), (6, .int (oI x6)), (7, .int (oI x7)), (8, .int (oI x8)), (9, .long (oJ (x9 + r26))), (13, .int (oI r26))]) hx hb d_L11_366 hl (k := 11) rfl (oI_add x12 1) (by decide) rfl (fun ls hl => ?_)
                  refine lv_goto (tgt := 151) hx hb d_L11_369 (by decide) ?_
                  obtain ⟨rfl, rfl, rfl, rfl, rfl, rfl⟩ := in6 h
                  exact W.wide (by omega) (by omega) (k0 ad79 hag0 hE0 rfl H locs ls hP hD hS (lv_sub hl [3, 4, 5, 6, 7, 8, 9, 10, 11, 1, 0] rfl))
                · have h := ite_f (fun q => c9 ((cmp_eq r26 v87).mpr q)) h
                  refine lv_iload hx hb d_L11_348 (lv_at hl 12 rfl) ?_
                  refine lv_i2l (v := oJ r26) hx hb d_L11_350 (oI_l ok27) ?_
                  refine lv_lload hx hb d_L11_351 (lv_at hl 0 rfl) ?_
                  refine lv_lconst (v := oJ 1) hx hb d_L11_353 (by decide +kernel) ?_
                  refine lv_ladd hx hb d_L11_354 ?_
                  refine nrmL (oJ_add _ _) ?_
                  obtain ⟨ok90, h⟩ := ck_e h
                  refine W.lcmp hx hb d_L11_355 ?_
                  refine nrm (cmp_val (a := r26) (b := (v87 + 1)) (rg_ij ok27) ok90) ?_
                  refine lv_if_ne (tgt := 363) hx hb d_L11_356 (by decide) (fun c9 => ?_) (fun c9 => ?_)
                  · have h := ite_f (fun q => c9 ((cmp_eq r26 (v87 + 1)).mpr q)) h
                    refine lv_iconst (v := oI 0) hx hb d_L11_363 (by decide +kernel) ?_
                    refine lv_istore (lv' := [(11, .int (oI 0)), (14, .long (oJ v87)), (0, .ref (ad79 1)), (1, .ref (ad79 1)), (2, .int (oI x2)), (3, .ref (ad79 q3)), (4, .long (oJ x4)), (6, .int (oI x6)), (7, .int (oI x7)), (8, .int (oI x8)), (9, .long (oJ (x9 + r26))), (12, .int (oI x12)), (13, .int (oI r26))]) hx hb d_L11_364 hl (by decide) rfl (fun ls hl => ?_)
                    refine lv_iinc (v := oI (x12 + 1)) (lv' := [(12, .int (oI (x12 + 1))), (11, .int (oI 0)), (14, .long (oJ v87)), (0, .ref (ad79 1)), (1, .ref (ad79 1)), (2, .int (oI x2)), (3, .ref (ad79 q3)), (4, .long (oJ x4)), (6, .int (oI x6)), (7, .int (oI x7)), (8, .int (oI x8)), (9, .long (oJ (x9 + r26))), (13, .int (oI r26))]) hx hb d_L11_366 hl (k := 11) rfl (oI_add x12 1) (by decide) rfl (fun ls hl => ?_)
                    refine lv_goto (tgt := 151) hx hb d_L11_369 (by decide) ?_
                    obtain ⟨rfl, rfl, rfl, rfl, rfl, rfl⟩ := in6 h
                    exact W.wide (by omega) (by omega) (k0 ad79 hag0 hE0 rfl H locs ls hP hD hS (lv_sub hl [3, 4, 5, 6, 7, 8, 9, 10, 11, 1, 0] rfl))
                  · have h := ite_t ((cmp_eq r26 (v87 + 1)).mp c9) h
                    refine lv_iconst (v := oI 1) hx hb d_L11_359 (by decide +kernel) ?_
                    refine lv_goto (tgt := 364) hx hb d_L11_360 (by decide) ?_
                    refine lv_istore (lv' := [(11, .int (oI 1)), (14, .long (oJ v87)), (0, .ref (ad79 1)), (1, .ref (ad79 1)), (2, .int (oI x2)), (3, .ref (ad79 q3)), (4, .long (oJ x4)), (6, .int (oI x6)), (7, .int (oI x7)), (8, .int (oI x8)), (9, .long (oJ (x9 + r26))), (12, .int (oI x12)), (13, .int (oI r26))]) hx hb d_L11_364 hl (by decide) rfl (fun ls hl => ?_)
                    refine lv_iinc (v := oI (x12 + 1)) (lv' := [(12, .int (oI (x12 + 1))), (11, .int (oI 1)), (14, .long (oJ v87)), (0, .ref (ad79 1)), (1, .ref (ad79 1)), (2, .int (oI x2)), (3, .ref (ad79 q3)), (4, .long (oJ x4)), (6, .int (oI x6)), (7, .int (oI x7)), (8, .int (oI x8)), (9, .long (oJ (x9 + r26))), (13, .int (oI r26))]) hx hb d_L11_366 hl (k := 11) rfl (oI_add x12 1) (by decide) rfl (fun ls hl => ?_)
                    refine lv_goto (tgt := 151) hx hb d_L11_369 (by decide) ?_
                    obtain ⟨rfl, rfl, rfl, rfl, rfl, rfl⟩ := in6 h
                    exact W.wide (by omega) (by omega) (k0 ad79 hag0 hE0 rfl H locs ls hP hD hS (lv_sub hl [3, 4, 5, 6, 7, 8, 9, 10, 11, 1, 0] rfl))
        · have h := ite_t ((oI_eq0 ok27).mp c9) h
          refine lv_iconst (v := oI 1) hx hb d_L11_190 (by decide +kernel) ?_
          refine lv_goto (tgt := 195) hx hb d_L11_191 (by decide) ?_
          refine lv_istore (lv' := [(11, .int (oI 1)), (9, .long (oJ (x9 + r26))), (13, .int (oI r26)), (0, .ref (ad 1)), (1, .ref (ad 1)), (2, .int (oI x2)), (3, .ref (ad q3)), (4, .long (oJ x4)), (6, .int (oI x6)), (7, .int (oI x7)), (8, .int (oI x8)), (12, .int (oI x12))]) hx hb d_L11_195 hl (by decide) rfl (fun ls hl => ?_)
          refine lv_iconst (v := oI 0) hx hb d_L11_197 (by decide +kernel) ?_
          refine lv_istore (lv' := [(14, .int (oI 0)), (11, .int (oI 1)), (9, .long (oJ (x9 + r26))), (13, .int (oI r26)), (0, .ref (ad 1)), (1, .ref (ad 1)), (2, .int (oI x2)), (3, .ref (ad q3)), (4, .long (oJ x4)), (6, .int (oI x6)), (7, .int (oI x7)), (8, .int (oI x8)), (12, .int (oI x12))]) hx hb d_L11_198 hl (by decide) rfl (fun ls hl => ?_)
          obtain ⟨⟨t91, v91_11, v91_14, E91, M91⟩, g91, h⟩ := bd_e h
          obtain ⟨hgw91, h⟩ := ck_e h
          obtain ⟨hL91, h⟩ := ck_e h
          obtain ⟨ok91, h⟩ := ck_e h
          refine s_La_seats_200 l z E ad x2 q3 x4 x6 x7 x8 (x9 + r26) x12 r26 hx hb hml hts hown hlocks hA hG hZ mc ms (c0 + 0) (s0 + 0) (by omega) (by omega) 5000 _ _ ad E M 1 0 t91 v91_11 v91_14 E91 M91 (by omega) (by omega) (fun _ _ => rfl) (Nat.le_refl _) g91 (fun ad91 hag91 hEE91 e91 H locs ls hP hD hS hl => ?_) H locs ls hP hD hS (lv_sub hl [4, 5, 6, 7, 8, 9, 10, 11, 2, 1, 12, 3, 0] rfl)
          have hag0 : ∀ i, i < nE E0 → ad91 i = ad0 i := fun i hi => (hag91 i (Nat.lt_of_lt_of_le hi hE0)).trans (hag0 i hi)
          have hE0 : nE E0 ≤ nE E91 := Nat.le_trans hE0 hgw91.1
          have hL : Lay E91 := hL91
          have h_q3 : isIA E91 q3 := isA_up hgw91 h_q3
          refine lv_iload hx hb d_L11_307 (lv_at hl 5 rfl) ?_
          refine lv_iconst (v := oI 5) hx hb d_L11_309 (by decide +kernel) ?_
          obtain ⟨ok92, h⟩ := ck_e h
          refine lv_icmp_ne (tgt := 366) hx hb d_L11_310 (by decide) (fun c9 => ?_) (fun c9 => ?_)
          · have h := ite_f (fun q => c9 ((oI_eq (a := x6) (b := (5 : Int)) ok92 (by decide)).mpr q)) h
            refine lv_iinc (v := oI (x12 + 1)) (lv' := [(12, .int (oI (x12 + 1))), (0, .ref (ad91 1)), (1, .ref (ad91 1)), (2, .int (oI x2)), (3, .ref (ad91 q3)), (4, .long (oJ x4)), (6, .int (oI x6)), (7, .int (oI x7)), (8, .int (oI x8)), (9, .long (oJ (x9 + r26))), (11, .int (oI v91_11)), (13, .int (oI r26))]) hx hb d_L11_366 hl (k := 10) rfl (oI_add x12 1) (by decide) rfl (fun ls hl => ?_)
            refine lv_goto (tgt := 151) hx hb d_L11_369 (by decide) ?_
            obtain ⟨rfl, rfl, rfl, rfl, rfl, rfl⟩ := in6 h
            exact W.wide (by omega) (by omega) (k0 ad91 hag0 hE0 rfl H locs ls hP hD hS (lv_sub hl [1, 2, 3, 4, 5, 6, 7, 8, 9, 10, 0] rfl))
          · have h := ite_t ((oI_eq (a := x6) (b := (5 : Int)) ok92 (by decide)).mp c9) h
            refine lv_lload hx hb d_L11_313 (lv_at hl 4 rfl) ?_
            refine lv_lconst (v := oJ 0) hx hb d_L11_315 (by decide +kernel) ?_
            obtain ⟨ok93, h⟩ := ck_e h
            refine W.lcmp hx hb d_L11_316 ?_
            refine nrm (cmp_val (a := x4) (b := (0 : Int)) ok93 (by decide)) ?_
            refine lv_if_le (tgt := 366) hx hb d_L11_317 (by decide) (fun c9 => ?_) (fun c9 => ?_)
            · have h := ite_t ((cmp_le x4 (0 : Int)).mp c9) h
              refine lv_iinc (v := oI (x12 + 1)) (lv' := [(12, .int (oI (x12 + 1))), (0, .ref (ad91 1)), (1, .ref (ad91 1)), (2, .int (oI x2)), (3, .ref (ad91 q3)), (4, .long (oJ x4)), (6, .int (oI x6)), (7, .int (oI x7)), (8, .int (oI x8)), (9, .long (oJ (x9 + r26))), (11, .int (oI v91_11)), (13, .int (oI r26))]) hx hb d_L11_366 hl (k := 10) rfl (oI_add x12 1) (by decide) rfl (fun ls hl => ?_)
              refine lv_goto (tgt := 151) hx hb d_L11_369 (by decide) ?_
              obtain ⟨rfl, rfl, rfl, rfl, rfl, rfl⟩ := in6 h
              exact W.wide (by omega) (by omega) (k0 ad91 hag0 hE0 rfl H locs ls hP hD hS (lv_sub hl [1, 2, 3, 4, 5, 6, 7, 8, 9, 10, 0] rfl))
            · have h := ite_f (fun q => c9 ((cmp_le x4 (0 : Int)).mpr q)) h
              refine lv_aload_n hx hb d_L11_320 rfl (lv_at hl 3 rfl) ?_
              refine lv_iload hx hb d_L11_321 (lv_at hl 10 rfl) ?_
              obtain ⟨ok94, h⟩ := ck_e h
              refine m_ia hx hb hG hP h_q3.1 (isIA_T h_q3) ok94 d_L11_323 ?_
              obtain ⟨ok95, h⟩ := ck_e h
              refine lv_i2l (v := oJ (M91 q3 x12.toNat)) hx hb d_L11_324 (oI_l ok95) ?_
              refine lv_iload hx hb d_L11_325 (lv_at hl 6 rfl) ?_
              obtain ⟨ok96, h⟩ := ck_e h
              refine lv_i2l (v := oJ x7) hx hb d_L11_327 (oI_l ok96) ?_
              refine lv_lmul hx hb d_L11_328 ?_
              refine nrmL (oJ_mul _ _) ?_
              refine lv_lload hx hb d_L11_329 (lv_at hl 4 rfl) ?_
              obtain ⟨ok97, h⟩ := ck_e h
              obtain ⟨ok98, h⟩ := ck_e h
              refine lv_ldiv hx hb d_L11_331 (oJ_nz ok98.1 ok98.2) ?_
              refine nrmL (oJ_div (a := ((M91 q3 x12.toNat) * x7)) (b := x4) ok97.1 ok97.2 ok98.1 ok98.2) ?_
              obtain ⟨v99, e99, h⟩ := nb_e h
              refine nrmL (congrArg oJ e99.symm) ?_
              refine lv_lstore (lv' := [(14, .long (oJ v99)), (0, .ref (ad91 1)), (1, .ref (ad91 1)), (2, .int (oI x2)), (3, .ref (ad91 q3)), (4, .long (oJ x4)), (6, .int (oI x6)), (7, .int (oI x7)), (8, .int (oI x8)), (9, .long (oJ (x9 + r26))), (11, .int (oI v91_11)), (12, .int (oI x12)), (13, .int (oI r26))]) hx hb d_L11_332 hl (by decide) rfl (fun ls hl => ?_)
              refine lv_iload hx hb d_L11_334 (lv_at hl 10 rfl) ?_
              obtain ⟨ok100, h⟩ := ck_e h
              refine lv_if_eq (tgt := 363) hx hb d_L11_336 (by decide) (fun c9 => ?_) (fun c9 => ?_)
              · have h := ite_t ((oI_eq0 ok100).mp c9) h
                refine lv_iconst (v := oI 0) hx hb d_L11_363 (by decide +kernel) ?_
                refine lv_istore (lv' := [(11, .int (oI 0)), (14, .long (oJ v99)), (0, .ref (ad91 1)), (1, .ref (ad91 1)), (2, .int (oI x2)), (3, .ref (ad91 q3)), (4, .long (oJ x4)), (6, .int (oI x6)), (7, .int (oI x7)), (8, .int (oI x8)), (9, .long (oJ (x9 + r26))), (12, .int (oI x12)), (13, .int (oI r26))]) hx hb d_L11_364 hl (by decide) rfl (fun ls hl => ?_)
                refine lv_iinc (v := oI (x12 + 1)) (lv' := [(12, .int (oI (x12 + 1))), (11, .int (oI 0)), (14, .long (oJ v99)), (0, .ref (ad91 1)), (1, .ref (ad91 1)), (2, .int (oI x2)), (3, .ref (ad91 q3)), (4, .long (oJ x4)), (6, .int (oI x6)), (7, .int (oI x7)), (8, .int (oI x8)), (9, .long (oJ (x9 + r26))), (13, .int (oI r26))]) hx hb d_L11_366 hl (k := 11) rfl (oI_add x12 1) (by decide) rfl (fun ls hl => ?_)
                refine lv_goto (tgt := 151) hx hb d_L11_369 (by decide) ?_
                obtain ⟨rfl, rfl, rfl, rfl, rfl, rfl⟩ := in6 h
                exact W.wide (by omega) (by omega) (k0 ad91 hag0 hE0 rfl H locs ls hP hD hS (lv_sub hl [3, 4, 5, 6, 7, 8, 9, 10, 11, 1, 0] rfl))
              · have h := ite_f (fun q => c9 ((oI_eq0 ok100).mpr q)) h
                refine lv_iload hx hb d_L11_339 (lv_at hl 12 rfl) ?_
                refine lv_i2l (v := oJ r26) hx hb d_L11_341 (oI_l ok27) ?_
                refine lv_lload hx hb d_L11_342 (lv_at hl 0 rfl) ?_
                obtain ⟨ok101, h⟩ := ck_e h
                refine W.lcmp hx hb d_L11_344 ?_
                refine nrm (cmp_val (a := r26) (b := v99) (rg_ij ok27) ok101) ?_
                refine lv_if_eq (tgt := 359) hx hb d_L11_345 (by decide) (fun c9 => ?_) (fun c9 => ?_)
                · have h := ite_t ((cmp_eq r26 v99).mp c9) h
                  refine lv_iconst (v := oI 1) hx hb d_L11_359 (by decide +kernel) ?_
                  refine lv_goto (tgt := 364) hx hb d_L11_360 (by decide) ?_
                  refine lv_istore (lv' := [(11, .int (oI 1)), (14, .long (oJ v99)), (0, .ref (ad91 1)), (1, .ref (ad91 1)), (2, .int (oI x2)), (3, .ref (ad91 q3)), (4, .long (oJ x4)), (6, .int (oI x6)), (7, .int (oI x7)), (8, .int (oI x8)), (9, .long (oJ (x9 + r26))), (12, .int (oI x12)), (13, .int (oI r26))]) hx hb d_L11_364 hl (by decide) rfl (fun ls hl => ?_)
                  refine lv_iinc (v := oI (x12 + 1)) (lv' := [(12, .int (oI (x12 + 1))), (11, .int (oI 1)), (14, .long (oJ v99)), (0, .ref (ad91 1)), (1, .ref (ad91 1)), (2, .int (oI x2)), (3, .ref (ad91 q3)), (4, .long (oJ x4)), (6, .int (oI x6)), (7, .int (oI x7)), (8, .int (oI x8)), (9, .long (oJ (x9 + r26))), (13, .int (oI r26))]) hx hb d_L11_366 hl (k := 11) rfl (oI_add x12 1) (by decide) rfl (fun ls hl => ?_)
                  refine lv_goto (tgt := 151) hx hb d_L11_369 (by decide) ?_
                  obtain ⟨rfl, rfl, rfl, rfl, rfl, rfl⟩ := in6 h
                  exact W.wide (by omega) (by omega) (k0 ad91 hag0 hE0 rfl H locs ls hP hD hS (lv_sub hl [3, 4, 5, 6, 7, 8, 9, 10, 11, 1, 0] rfl))
                · have h := ite_f (fun q => c9 ((cmp_eq r26 v99).mpr q)) h
                  refine lv_iload hx hb d_L11_348 (lv_at hl 12 rfl) ?_
                  refine lv_i2l (v := oJ r26) hx hb d_L11_350 (oI_l ok27) ?_
                  refine lv_lload hx hb d_L11_351 (lv_at hl 0 rfl) ?_
                  refine lv_lconst (v := oJ 1) hx hb d_L11_353 (by decide +kernel) ?_
                  refine lv_ladd hx hb d_L11_354 ?_
                  refine nrmL (oJ_add _ _) ?_
                  obtain ⟨ok102, h⟩ := ck_e h
                  refine W.lcmp hx hb d_L11_355 ?_
                  refine nrm (cmp_val (a := r26) (b := (v99 + 1)) (rg_ij ok27) ok102) ?_
                  refine lv_if_ne (tgt := 363) hx hb d_L11_356 (by decide) (fun c9 => ?_) (fun c9 => ?_)
                  · have h := ite_f (fun q => c9 ((cmp_eq r26 (v99 + 1)).mpr q)) h
                    refine lv_iconst (v := oI 0) hx hb d_L11_363 (by decide +kernel) ?_
                    refine lv_istore (lv' := [(11, .int (oI 0)), (14, .long (oJ v99)), (0, .ref (ad91 1)), (1, .ref (ad91 1)), (2, .int (oI x2)), (3, .ref (ad91 q3)), (4, .long (oJ x4)), (6, .int (oI x6)), (7, .int (oI x7)), (8, .int (oI x8)), (9, .long (oJ (x9 + r26))), (12, .int (oI x12)), (13, .int (oI r26))]) hx hb d_L11_364 hl (by decide) rfl (fun ls hl => ?_)
                    refine lv_iinc (v := oI (x12 + 1)) (lv' := [(12, .int (oI (x12 + 1))), (11, .int (oI 0)), (14, .long (oJ v99)), (0, .ref (ad91 1)), (1, .ref (ad91 1)), (2, .int (oI x2)), (3, .ref (ad91 q3)), (4, .long (oJ x4)), (6, .int (oI x6)), (7, .int (oI x7)), (8, .int (oI x8)), (9, .long (oJ (x9 + r26))), (13, .int (oI r26))]) hx hb d_L11_366 hl (k := 11) rfl (oI_add x12 1) (by decide) rfl (fun ls hl => ?_)
                    refine lv_goto (tgt := 151) hx hb d_L11_369 (by decide) ?_
                    obtain ⟨rfl, rfl, rfl, rfl, rfl, rfl⟩ := in6 h
                    exact W.wide (by omega) (by omega) (k0 ad91 hag0 hE0 rfl H locs ls hP hD hS (lv_sub hl [3, 4, 5, 6, 7, 8, 9, 10, 11, 1, 0] rfl))
                  · have h := ite_t ((cmp_eq r26 (v99 + 1)).mp c9) h
                    refine lv_iconst (v := oI 1) hx hb d_L11_359 (by decide +kernel) ?_
                    refine lv_goto (tgt := 364) hx hb d_L11_360 (by decide) ?_
                    refine lv_istore (lv' := [(11, .int (oI 1)), (14, .long (oJ v99)), (0, .ref (ad91 1)), (1, .ref (ad91 1)), (2, .int (oI x2)), (3, .ref (ad91 q3)), (4, .long (oJ x4)), (6, .int (oI x6)), (7, .int (oI x7)), (8, .int (oI x8)), (9, .long (oJ (x9 + r26))), (12, .int (oI x12)), (13, .int (oI r26))]) hx hb d_L11_364 hl (by decide) rfl (fun ls hl => ?_)
                    refine lv_iinc (v := oI (x12 + 1)) (lv' := [(12, .int (oI (x12 + 1))), (11, .int (oI 1)), (14, .long (oJ v99)), (0, .ref (ad91 1)), (1, .ref (ad91 1)), (2, .int (oI x2)), (3, .ref (ad91 q3)), (4, .long (oJ x4)), (6, .int (oI x6)), (7, .int (oI x7)), (8, .int (oI x8)), (9, .long (oJ (x9 + r26))), (13, .int (oI r26))]) hx hb d_L11_366 hl (k := 11) rfl (oI_add x12 1) (by decide) rfl (fun ls hl => ?_)
                    refine lv_goto (tgt := 151) hx hb d_L11_369 (by decide) ?_
                    obtain ⟨rfl, rfl, rfl, rfl, rfl, rfl⟩ := in6 h
                    exact W.wide (by omega) (by omega) (k0 ad91 hag0 hE0 rfl H locs ls hP hD hS (lv_sub hl [3, 4, 5, 6, 7, 8, 9, 10, 11, 1, 0] rfl))
set_option maxRecDepth 100000 in
set_option maxHeartbeats 4000000 in
theorem s_La_seats_151 (l : Launch) (z : Zz) (E0 : Ev) (ad0 : Nat → Nat) (x2 : Int) (q3 : Nat) (x4 : Int) (x6 : Int) (x7 : Int) (x8 : Int) {Q : State → Prop} {p : Program} {e : Env} {s : State} {m : MethodId} {below : List Frame} {meth : Method} {c : Code} {A : Nat → Prop} {args : Array Value} (hx : p.tables.exec = Jvm.exec) (hb : c.code = method_11_code) (hml : c.maxLocals = 20) (hts : ∀ w ∈ WG, w.before args s = true) (hown : s.vm.findClass "BallothallLaw" = some m.cls) (hlocks : meth.locks = false) (hA : ∀ q, s.heap.size ≤ q → A q) (hG : KG z s) (hZ : FZ z A s) (mc ms c1 s1 : Nat) (hm : c1 ≤ mc) (hm2 : s1 ≤ ms) : ∀ (fu c0 s0 : Nat) (ad : Nat → Nat) (E : Ev) (M : Mm) (x9 : Int) (x11 : Int) (x12 : Int) (t : Nat) (w9 : Int) (w11 : Int) (w12 : Int) (F : Ev) (N : Mm), c0 + fu * 0 ≤ c1 → s0 + fu * 0 ≤ s1 → (∀ i, i < nE E0 → ad i = ad0 i) → nE E0 ≤ nE E → l_La_seats_151 x2 q3 x4 x6 x7 x8 fu E M x9 x11 x12 = some (t, w9, w11, w12, F, N) → (∀ (ad1 : Nat → Nat), (∀ i, i < nE E0 → ad1 i = ad0 i) → nE E0 ≤ nE F → t = 1 → ∀ (H : Heap) (locs : List Loc) (ls : Array Slot), va_P z.1 classes (wv z ad1 F N) H → va_D A (wv z ad1 F N) → va_S A s.heap H locs → lv_has ls 20 [(0, .ref (ad1 1)), (1, .ref (ad1 1)), (2, .int (oI x2)), (6, .int (oI x6)), (7, .int (oI x7)), (8, .int (oI x8)), (9, .long (oJ w9)), (11, .int (oI w11))] → W p l e (rmK 7 190 mc ms) s m args below meth c H locs c1 s1 Q (F0 m 372 ls [])) → ∀ (H : Heap) (locs : List Loc) (ls : Array Slot), va_P z.1 classes (wv z ad E M) H → va_D A (wv z ad E M) → va_S A s.heap H locs → lv_has ls 20 [(0, .ref (ad 1)), (1, .ref (ad 1)), (2, .int (oI x2)), (3, .ref (ad q3)), (4, .long (oJ x4)), (6, .int (oI x6)), (7, .int (oI x7)), (8, .int (oI x8)), (9, .long (oJ x9)), (11, .int (oI x11)), (12, .int (oI x12))] → W p l e (rmK 7 190 mc ms) s m args below meth c H locs c0 s0 Q (F0 m 151 ls []) := by
  intro fu
  induction fu with
  | zero =>
    intro c0 s0 ad E M x9 x11 x12 t w9 w11 w12 F N hc hs hag0 hE0 h
    have h : (none : Option (Nat × Int × Int × Int × Ev × Mm)) = some _ := h
    cases h
  | succ fu ih =>
    intro c0 s0 ad E M x9 x11 x12 t w9 w11 w12 F N hc hs hag0 hE0 h k1 H locs ls hP hD hS hl
    obtain ⟨⟨t0, w90, w110, w120, F9, N9⟩, g0, h⟩ := bd_e h
    refine W.wide (Nat.le_refl _) (Nat.le_refl _) (b_La_seats_151b l z E0 ad0 ad E M x2 q3 x4 x6 x7 x8 x9 x11 x12 t0 w90 w110 w120 F9 N9 hx hb hml hts hown hlocks hA hG hZ mc ms c0 s0 (c0 + 0) (s0 + 0) (Nat.le_refl _) (Nat.le_refl _) (by omega) (by omega) hag0 hE0 g0 (fun ad1 ha he e0 => ?_) (fun ad1 ha he e0 => ?_) H locs ls hP hD hS hl)
    · subst e0
      have h := ite_t rfl h
      exact ih (c0 + 0) (s0 + 0) ad1 F9 N9 w90 w110 w120 t w9 w11 w12 F N (by omega) (by omega) ha he h k1
    · subst e0
      have h := ite_f (by decide) h
      obtain ⟨rfl, rfl, rfl, rfl, rfl, rfl⟩ := in6 h
      exact fun H locs ls hP hD hS hl => W.wide (by omega) (by omega) (k1 ad1 ha he rfl H locs ls hP hD hS hl)
set_option maxRecDepth 100000 in
set_option maxHeartbeats 4000000 in
theorem b_La_seats_410b (l : Launch) (z : Zz) (E0 : Ev) (ad0 : Nat → Nat) (ad : Nat → Nat) (E : Ev) (M : Mm) (x2 : Int) (x6 : Int) (x7 : Int) (x9 : Int) (x11 : Int) (q12 : Nat) (x13 : Int) (t : Nat) (w13 : Int) (F : Ev) (N : Mm) {Q : State → Prop} {p : Program} {e : Env} {s : State} {m : MethodId} {below : List Frame} {meth : Method} {c : Code} {A : Nat → Prop} {args : Array Value} (hx : p.tables.exec = Jvm.exec) (hb : c.code = method_11_code) (hml : c.maxLocals = 20) (hts : ∀ w ∈ WG, w.before args s = true) (hown : s.vm.findClass "BallothallLaw" = some m.cls) (hlocks : meth.locks = false) (hA : ∀ q, s.heap.size ≤ q → A q) (hG : KG z s) (hZ : FZ z A s) (mc ms c0 s0 c1 s1 : Nat) (hc : c0 + 0 ≤ c1) (hs : s0 + 0 ≤ s1) (hm : c1 ≤ mc) (hm2 : s1 ≤ ms) (hag0 : ∀ i, i < nE E0 → ad i = ad0 i) (hE0 : nE E0 ≤ nE E) (h : La_seats_410b E M x2 x6 x7 x9 x11 q12 x13 = some (t, w13, F, N)) (k0 : ∀ (ad1 : Nat → Nat), (∀ i, i < nE E0 → ad1 i = ad0 i) → nE E0 ≤ nE F → t = 0 → ∀ (H : Heap) (locs : List Loc) (ls : Array Slot), va_P z.1 classes (wv z ad1 F N) H → va_D A (wv z ad1 F N) → va_S A s.heap H locs → lv_has ls 20 [(0, .ref (ad1 1)), (1, .ref (ad1 1)), (2, .int (oI x2)), (6, .int (oI x6)), (7, .int (oI x7)), (9, .long (oJ x9)), (11, .int (oI x11)), (12, .ref (ad1 q12)), (13, .int (oI w13))] → W p l e (rmK 7 190 mc ms) s m args below meth c H locs c1 s1 Q (F0 m 410 ls [])) (k1 : ∀ (ad1 : Nat → Nat), (∀ i, i < nE E0 → ad1 i = ad0 i) → nE E0 ≤ nE F → t = 1 → ∀ (H : Heap) (locs : List Loc) (ls : Array Slot), va_P z.1 classes (wv z ad1 F N) H → va_D A (wv z ad1 F N) → va_S A s.heap H locs → lv_has ls 20 [(0, .ref (ad1 1)), (1, .ref (ad1 1)), (2, .int (oI x2)), (6, .int (oI x6)), (7, .int (oI x7)), (9, .long (oJ x9)), (11, .int (oI x11)), (12, .ref (ad1 q12))] → W p l e (rmK 7 190 mc ms) s m args below meth c H locs c1 s1 Q (F0 m 438 ls [])) : ∀ (H : Heap) (locs : List Loc) (ls : Array Slot), va_P z.1 classes (wv z ad E M) H → va_D A (wv z ad E M) → va_S A s.heap H locs → lv_has ls 20 [(0, .ref (ad 1)), (1, .ref (ad 1)), (2, .int (oI x2)), (6, .int (oI x6)), (7, .int (oI x7)), (9, .long (oJ x9)), (11, .int (oI x11)), (12, .ref (ad q12)), (13, .int (oI x13))] → W p l e (rmK 7 190 mc ms) s m args below meth c H locs c0 s0 Q (F0 m 410 ls []) := by
  intro H locs ls hP hD hS hl
  unfold La_seats_410b at h
  obtain ⟨hL, h⟩ := ck_e h
  obtain ⟨h_q12, h⟩ := ck_e h
  refine lv_iload hx hb d_L11_410 (lv_at hl 8 rfl) ?_
  obtain ⟨ok107, h⟩ := ck_e h
  refine lv_i2l (v := oJ x13) hx hb d_L11_412 (oI_l ok107) ?_
  refine lv_lload hx hb d_L11_413 (lv_at hl 5 rfl) ?_
  obtain ⟨ok108, h⟩ := ck_e h
  refine W.lcmp hx hb d_L11_415 ?_
  refine nrm (cmp_val (a := x13) (b := x9) (rg_ij ok107) ok108) ?_
  refine lv_if_ge (tgt := 438) hx hb d_L11_416 (by decide) (fun c9 => ?_) (fun c9 => ?_)
  · have h := ite_t ((cmp_ge x13 x9).mp c9) h
    obtain ⟨rfl, rfl, rfl, rfl⟩ := in4 h
    exact W.wide (by omega) (by omega) (k1 ad hag0 hE0 rfl H locs ls hP hD hS (lv_sub hl [0, 1, 2, 3, 4, 5, 6, 7] rfl))
  · have h := ite_f (fun q => c9 ((cmp_ge x13 x9).mpr q)) h
    refine lv_aload hx hb d_L11_419 (lv_at hl 7 rfl) ?_
    refine lv_aload_n hx hb d_L11_421 rfl (lv_at hl 1 rfl) ?_
    refine lv_iload hx hb d_L11_422 (lv_at hl 8 rfl) ?_
    obtain ⟨r109, g109, h⟩ := bd_e h
    refine kV (As := [.int (oI x13)]) (rest := [.ref (ad q12)]) (s_B_seatAt l z ad E M x13 r109 hL g109) hx hb hml hown hts w_1598 w_1595 w_1596 w_1597 w_1 md_4f41a0 ⟨Nat.le_of_ble_eq_true rfl, Nat.le_of_ble_eq_true rfl⟩ hG hZ hP hD hS hA 1 (wv_o (ci := 11) (yi_1 hL) (yt_1 hL)) rfl rfl rfl hl.1 rfl (Nat.le_of_ble_eq_true rfl) d_L11_424 ⟨(show _ ≤ mc by omega), (show _ ≤ ms by omega)⟩ (fun _ H locs hP hD hS => ?_)
    have hP : va_P z.1 classes (wv z ad E M) H := hP
    have hD : va_D A (wv z ad E M) := hD
    refine W.eq (g2 := F0 m 427 ls [.int (oI r109), .ref (ad q12)]) rfl ?_
    refine lv_dup2_11 hx hb d_L11_427 rfl rfl ?_
    obtain ⟨ok110, h⟩ := ck_e h
    refine m_ia hx hb hG hP h_q12.1 (isIA_T h_q12) ok110 d_L11_428 ?_
    refine lv_iconst (v := oI 1) hx hb d_L11_429 (by decide +kernel) ?_
    refine lv_iadd hx hb d_L11_430 ?_
    refine nrm (oI_add _ _) ?_
    refine m_is hx hb hG hP hD hS h_q12.1 (isIA_T h_q12) ok110 d_L11_431 (fun H locs hP hD hS => ?_)
    have hP : va_P z.1 classes (wv z ad E (u2 M q12 r109.toNat ((M q12 r109.toNat) + 1))) H := hP
    have hD : va_D A (wv z ad E (u2 M q12 r109.toNat ((M q12 r109.toNat) + 1))) := hD
    refine lv_iinc (v := oI (x13 + 1)) (lv' := [(13, .int (oI (x13 + 1))), (0, .ref (ad 1)), (1, .ref (ad 1)), (2, .int (oI x2)), (6, .int (oI x6)), (7, .int (oI x7)), (9, .long (oJ x9)), (11, .int (oI x11)), (12, .ref (ad q12))]) hx hb d_L11_432 hl (k := 8) rfl (oI_add x13 1) (by decide) rfl (fun ls hl => ?_)
    refine lv_goto (tgt := 410) hx hb d_L11_435 (by decide) ?_
    obtain ⟨rfl, rfl, rfl, rfl⟩ := in4 h
    exact W.wide (by omega) (by omega) (k0 ad hag0 hE0 rfl H locs ls hP hD hS (lv_sub hl [1, 2, 3, 4, 5, 6, 7, 8, 0] rfl))
set_option maxRecDepth 100000 in
set_option maxHeartbeats 4000000 in
theorem s_La_seats_410 (l : Launch) (z : Zz) (E0 : Ev) (ad0 : Nat → Nat) (x2 : Int) (x6 : Int) (x7 : Int) (x9 : Int) (x11 : Int) (q12 : Nat) {Q : State → Prop} {p : Program} {e : Env} {s : State} {m : MethodId} {below : List Frame} {meth : Method} {c : Code} {A : Nat → Prop} {args : Array Value} (hx : p.tables.exec = Jvm.exec) (hb : c.code = method_11_code) (hml : c.maxLocals = 20) (hts : ∀ w ∈ WG, w.before args s = true) (hown : s.vm.findClass "BallothallLaw" = some m.cls) (hlocks : meth.locks = false) (hA : ∀ q, s.heap.size ≤ q → A q) (hG : KG z s) (hZ : FZ z A s) (mc ms c1 s1 : Nat) (hm : c1 ≤ mc) (hm2 : s1 ≤ ms) : ∀ (fu c0 s0 : Nat) (ad : Nat → Nat) (E : Ev) (M : Mm) (x13 : Int) (t : Nat) (w13 : Int) (F : Ev) (N : Mm), c0 + fu * 0 ≤ c1 → s0 + fu * 0 ≤ s1 → (∀ i, i < nE E0 → ad i = ad0 i) → nE E0 ≤ nE E → l_La_seats_410 x2 x6 x7 x9 x11 q12 fu E M x13 = some (t, w13, F, N) → (∀ (ad1 : Nat → Nat), (∀ i, i < nE E0 → ad1 i = ad0 i) → nE E0 ≤ nE F → t = 1 → ∀ (H : Heap) (locs : List Loc) (ls : Array Slot), va_P z.1 classes (wv z ad1 F N) H → va_D A (wv z ad1 F N) → va_S A s.heap H locs → lv_has ls 20 [(0, .ref (ad1 1)), (1, .ref (ad1 1)), (2, .int (oI x2)), (6, .int (oI x6)), (7, .int (oI x7)), (9, .long (oJ x9)), (11, .int (oI x11)), (12, .ref (ad1 q12))] → W p l e (rmK 7 190 mc ms) s m args below meth c H locs c1 s1 Q (F0 m 438 ls [])) → ∀ (H : Heap) (locs : List Loc) (ls : Array Slot), va_P z.1 classes (wv z ad E M) H → va_D A (wv z ad E M) → va_S A s.heap H locs → lv_has ls 20 [(0, .ref (ad 1)), (1, .ref (ad 1)), (2, .int (oI x2)), (6, .int (oI x6)), (7, .int (oI x7)), (9, .long (oJ x9)), (11, .int (oI x11)), (12, .ref (ad q12)), (13, .int (oI x13))] → W p l e (rmK 7 190 mc ms) s m args below meth c H locs c0 s0 Q (F0 m 410 ls []) := by
  intro fu
  induction fu with
  | zero =>
    intro c0 s0 ad E M x13 t w13 F N hc hs hag0 hE0 h
    have h : (none : Option (Nat × Int × Ev × Mm)) = some _ := h
    cases h
  | succ fu ih =>
    intro c0 s0 ad E M x13 t w13 F N hc hs hag0 hE0 h k1 H locs ls hP hD hS hl
    obtain ⟨⟨t0, w130, F9, N9⟩, g0, h⟩ := bd_e h
    refine W.wide (Nat.le_refl _) (Nat.le_refl _) (b_La_seats_410b l z E0 ad0 ad E M x2 x6 x7 x9 x11 q12 x13 t0 w130 F9 N9 hx hb hml hts hown hlocks hA hG hZ mc ms c0 s0 (c0 + 0) (s0 + 0) (Nat.le_refl _) (Nat.le_refl _) (by omega) (by omega) hag0 hE0 g0 (fun ad1 ha he e0 => ?_) (fun ad1 ha he e0 => ?_) H locs ls hP hD hS hl)
    · subst e0
      have h := ite_t rfl h
      exact ih (c0 + 0) (s0 + 0) ad1 F9 N9 w130 t w13 F N (by omega) (by omega) ha he h k1
    · subst e0
      have h := ite_f (by decide) h
      obtain ⟨rfl, rfl, rfl, rfl⟩ := in4 h
      exact fun H locs ls hP hD hS hl => W.wide (by omega) (by omega) (k1 ad1 ha he rfl H locs ls hP hD hS hl)
set_option maxRecDepth 100000 in
set_option maxHeartbeats 4000000 in
theorem b_La_seats_441b (l : Launch) (z : Zz) (E0 : Ev) (ad0 : Nat → Nat) (ad : Nat → Nat) (E : Ev) (M : Mm) (x2 : Int) (x6 : Int) (x7 : Int) (x9 : Int) (q12 : Nat) (x11 : Int) (x13 : Int) (t : Nat) (w11 : Int) (w13 : Int) (F : Ev) (N : Mm) {Q : State → Prop} {p : Program} {e : Env} {s : State} {m : MethodId} {below : List Frame} {meth : Method} {c : Code} {A : Nat → Prop} {args : Array Value} (hx : p.tables.exec = Jvm.exec) (hb : c.code = method_11_code) (hml : c.maxLocals = 20) (hts : ∀ w ∈ WG, w.before args s = true) (hown : s.vm.findClass "BallothallLaw" = some m.cls) (hlocks : meth.locks = false) (hA : ∀ q, s.heap.size ≤ q → A q) (hG : KG z s) (hZ : FZ z A s) (mc ms c0 s0 c1 s1 : Nat) (hc : c0 + 0 ≤ c1) (hs : s0 + 0 ≤ s1) (hm : c1 ≤ mc) (hm2 : s1 ≤ ms) (hag0 : ∀ i, i < nE E0 → ad i = ad0 i) (hE0 : nE E0 ≤ nE E) (h : La_seats_441b E M x2 x6 x7 x9 q12 x11 x13 = some (t, w11, w13, F, N)) (k0 : ∀ (ad1 : Nat → Nat), (∀ i, i < nE E0 → ad1 i = ad0 i) → nE E0 ≤ nE F → t = 0 → ∀ (H : Heap) (locs : List Loc) (ls : Array Slot), va_P z.1 classes (wv z ad1 F N) H → va_D A (wv z ad1 F N) → va_S A s.heap H locs → lv_has ls 20 [(0, .ref (ad1 1)), (1, .ref (ad1 1)), (2, .int (oI x2)), (6, .int (oI x6)), (7, .int (oI x7)), (9, .long (oJ x9)), (11, .int (oI w11)), (12, .ref (ad1 q12)), (13, .int (oI w13))] → W p l e (rmK 7 190 mc ms) s m args below meth c H locs c1 s1 Q (F0 m 441 ls [])) (k1 : ∀ (ad1 : Nat → Nat), (∀ i, i < nE E0 → ad1 i = ad0 i) → nE E0 ≤ nE F → t = 1 → ∀ (H : Heap) (locs : List Loc) (ls : Array Slot), va_P z.1 classes (wv z ad1 F N) H → va_D A (wv z ad1 F N) → va_S A s.heap H locs → lv_has ls 20 [(0, .ref (ad1 1)), (1, .ref (ad1 1)), (2, .int (oI x2)), (6, .int (oI x6)), (7, .int (oI x7)), (9, .long (oJ x9)), (11, .int (oI w11))] → W p l e (rmK 7 190 mc ms) s m args below meth c H locs c1 s1 Q (F0 m 479 ls [])) : ∀ (H : Heap) (locs : List Loc) (ls : Array Slot), va_P z.1 classes (wv z ad E M) H → va_D A (wv z ad E M) → va_S A s.heap H locs → lv_has ls 20 [(0, .ref (ad 1)), (1, .ref (ad 1)), (2, .int (oI x2)), (6, .int (oI x6)), (7, .int (oI x7)), (9, .long (oJ x9)), (11, .int (oI x11)), (12, .ref (ad q12)), (13, .int (oI x13))] → W p l e (rmK 7 190 mc ms) s m args below meth c H locs c0 s0 Q (F0 m 441 ls []) := by
  intro H locs ls hP hD hS hl
  unfold La_seats_441b at h
  obtain ⟨hL, h⟩ := ck_e h
  obtain ⟨h_q12, h⟩ := ck_e h
  refine lv_iload hx hb d_L11_441 (lv_at hl 8 rfl) ?_
  refine lv_iload_n hx hb d_L11_443 rfl (lv_at hl 2 rfl) ?_
  obtain ⟨ok112, h⟩ := ck_e h
  obtain ⟨ok113, h⟩ := ck_e h
  refine lv_icmp_ge (tgt := 479) hx hb d_L11_444 (by decide) (fun c9 => ?_) (fun c9 => ?_)
  · have h := ite_t ((oI_le (a := x2) (b := x13) ok113 ok112).mp c9) h
    obtain ⟨rfl, rfl, rfl, rfl, rfl⟩ := in5 h
    exact W.wide (by omega) (by omega) (k1 ad hag0 hE0 rfl H locs ls hP hD hS (lv_sub hl [0, 1, 2, 3, 4, 5, 6] rfl))
  · have h := ite_f (fun q => c9 ((oI_le (a := x2) (b := x13) ok113 ok112).mpr q)) h
    refine lv_iload hx hb d_L11_447 (lv_at hl 6 rfl) ?_
    obtain ⟨ok114, h⟩ := ck_e h
    refine lv_if_eq (tgt := 470) hx hb d_L11_449 (by decide) (fun c9 => ?_) (fun c9 => ?_)
    · have h := ite_t ((oI_eq0 ok114).mp c9) h
      refine lv_iconst (v := oI 0) hx hb d_L11_470 (by decide +kernel) ?_
      refine lv_istore (lv' := [(11, .int (oI 0)), (0, .ref (ad 1)), (1, .ref (ad 1)), (2, .int (oI x2)), (6, .int (oI x6)), (7, .int (oI x7)), (9, .long (oJ x9)), (12, .ref (ad q12)), (13, .int (oI x13))]) hx hb d_L11_471 hl (by decide) rfl (fun ls hl => ?_)
      refine lv_iinc (v := oI (x13 + 1)) (lv' := [(13, .int (oI (x13 + 1))), (11, .int (oI 0)), (0, .ref (ad 1)), (1, .ref (ad 1)), (2, .int (oI x2)), (6, .int (oI x6)), (7, .int (oI x7)), (9, .long (oJ x9)), (12, .ref (ad q12))]) hx hb d_L11_473 hl (k := 8) rfl (oI_add x13 1) (by decide) rfl (fun ls hl => ?_)
      refine lv_goto (tgt := 441) hx hb d_L11_476 (by decide) ?_
      obtain ⟨rfl, rfl, rfl, rfl, rfl⟩ := in5 h
      exact W.wide (by omega) (by omega) (k0 ad hag0 hE0 rfl H locs ls hP hD hS (lv_sub hl [2, 3, 4, 5, 6, 7, 1, 8, 0] rfl))
    · have h := ite_f (fun q => c9 ((oI_eq0 ok114).mpr q)) h
      refine lv_aload hx hb d_L11_452 (lv_at hl 7 rfl) ?_
      refine lv_iload hx hb d_L11_454 (lv_at hl 8 rfl) ?_
      obtain ⟨ok115, h⟩ := ck_e h
      refine m_ia hx hb hG hP h_q12.1 (isIA_T h_q12) ok115 d_L11_456 ?_
      refine lv_aload_n hx hb d_L11_457 rfl (lv_at hl 1 rfl) ?_
      refine lv_iload hx hb d_L11_458 (lv_at hl 8 rfl) ?_
      obtain ⟨r116, g116, h⟩ := bd_e h
      refine kV (As := [.int (oI x13)]) (rest := [.int (oI (M q12 x13.toNat))]) (s_B_seatsOf l z ad E M x13 r116 hL g116) hx hb hml hown hts w_1590 w_1587 w_1588 w_1589 w_1 md_6fdd17 ⟨Nat.le_of_ble_eq_true rfl, Nat.le_of_ble_eq_true rfl⟩ hG hZ hP hD hS hA 1 (wv_o (ci := 11) (yi_1 hL) (yt_1 hL)) rfl rfl rfl hl.1 rfl (Nat.le_of_ble_eq_true rfl) d_L11_460 ⟨(show _ ≤ mc by omega), (show _ ≤ ms by omega)⟩ (fun _ H locs hP hD hS => ?_)
      have hP : va_P z.1 classes (wv z ad E M) H := hP
      have hD : va_D A (wv z ad E M) := hD
      refine W.eq (g2 := F0 m 463 ls [.int (oI r116), .int (oI (M q12 x13.toNat))]) rfl ?_
      obtain ⟨ok117, h⟩ := ck_e h
      obtain ⟨ok118, h⟩ := ck_e h
      refine lv_icmp_ne (tgt := 470) hx hb d_L11_463 (by decide) (fun c9 => ?_) (fun c9 => ?_)
      · have h := ite_f (fun q => c9 ((oI_eq (a := (M q12 x13.toNat)) (b := r116) ok117 ok118).mpr q)) h
        refine lv_iconst (v := oI 0) hx hb d_L11_470 (by decide +kernel) ?_
        refine lv_istore (lv' := [(11, .int (oI 0)), (0, .ref (ad 1)), (1, .ref (ad 1)), (2, .int (oI x2)), (6, .int (oI x6)), (7, .int (oI x7)), (9, .long (oJ x9)), (12, .ref (ad q12)), (13, .int (oI x13))]) hx hb d_L11_471 hl (by decide) rfl (fun ls hl => ?_)
        refine lv_iinc (v := oI (x13 + 1)) (lv' := [(13, .int (oI (x13 + 1))), (11, .int (oI 0)), (0, .ref (ad 1)), (1, .ref (ad 1)), (2, .int (oI x2)), (6, .int (oI x6)), (7, .int (oI x7)), (9, .long (oJ x9)), (12, .ref (ad q12))]) hx hb d_L11_473 hl (k := 8) rfl (oI_add x13 1) (by decide) rfl (fun ls hl => ?_)
        refine lv_goto (tgt := 441) hx hb d_L11_476 (by decide) ?_
        obtain ⟨rfl, rfl, rfl, rfl, rfl⟩ := in5 h
        exact W.wide (by omega) (by omega) (k0 ad hag0 hE0 rfl H locs ls hP hD hS (lv_sub hl [2, 3, 4, 5, 6, 7, 1, 8, 0] rfl))
      · have h := ite_t ((oI_eq (a := (M q12 x13.toNat)) (b := r116) ok117 ok118).mp c9) h
        refine lv_iconst (v := oI 1) hx hb d_L11_466 (by decide +kernel) ?_
        refine lv_goto (tgt := 471) hx hb d_L11_467 (by decide) ?_
        refine lv_istore (lv' := [(11, .int (oI 1)), (0, .ref (ad 1)), (1, .ref (ad 1)), (2, .int (oI x2)), (6, .int (oI x6)), (7, .int (oI x7)), (9, .long (oJ x9)), (12, .ref (ad q12)), (13, .int (oI x13))]) hx hb d_L11_471 hl (by decide) rfl (fun ls hl => ?_)
        refine lv_iinc (v := oI (x13 + 1)) (lv' := [(13, .int (oI (x13 + 1))), (11, .int (oI 1)), (0, .ref (ad 1)), (1, .ref (ad 1)), (2, .int (oI x2)), (6, .int (oI x6)), (7, .int (oI x7)), (9, .long (oJ x9)), (12, .ref (ad q12))]) hx hb d_L11_473 hl (k := 8) rfl (oI_add x13 1) (by decide) rfl (fun ls hl => ?_)
        refine lv_goto (tgt := 441) hx hb d_L11_476 (by decide) ?_
        obtain ⟨rfl, rfl, rfl, rfl, rfl⟩ := in5 h
        exact W.wide (by omega) (by omega) (k0 ad hag0 hE0 rfl H locs ls hP hD hS (lv_sub hl [2, 3, 4, 5, 6, 7, 1, 8, 0] rfl))
set_option maxRecDepth 100000 in
set_option maxHeartbeats 4000000 in
theorem s_La_seats_441 (l : Launch) (z : Zz) (E0 : Ev) (ad0 : Nat → Nat) (x2 : Int) (x6 : Int) (x7 : Int) (x9 : Int) (q12 : Nat) {Q : State → Prop} {p : Program} {e : Env} {s : State} {m : MethodId} {below : List Frame} {meth : Method} {c : Code} {A : Nat → Prop} {args : Array Value} (hx : p.tables.exec = Jvm.exec) (hb : c.code = method_11_code) (hml : c.maxLocals = 20) (hts : ∀ w ∈ WG, w.before args s = true) (hown : s.vm.findClass "BallothallLaw" = some m.cls) (hlocks : meth.locks = false) (hA : ∀ q, s.heap.size ≤ q → A q) (hG : KG z s) (hZ : FZ z A s) (mc ms c1 s1 : Nat) (hm : c1 ≤ mc) (hm2 : s1 ≤ ms) : ∀ (fu c0 s0 : Nat) (ad : Nat → Nat) (E : Ev) (M : Mm) (x11 : Int) (x13 : Int) (t : Nat) (w11 : Int) (w13 : Int) (F : Ev) (N : Mm), c0 + fu * 0 ≤ c1 → s0 + fu * 0 ≤ s1 → (∀ i, i < nE E0 → ad i = ad0 i) → nE E0 ≤ nE E → l_La_seats_441 x2 x6 x7 x9 q12 fu E M x11 x13 = some (t, w11, w13, F, N) → (∀ (ad1 : Nat → Nat), (∀ i, i < nE E0 → ad1 i = ad0 i) → nE E0 ≤ nE F → t = 1 → ∀ (H : Heap) (locs : List Loc) (ls : Array Slot), va_P z.1 classes (wv z ad1 F N) H → va_D A (wv z ad1 F N) → va_S A s.heap H locs → lv_has ls 20 [(0, .ref (ad1 1)), (1, .ref (ad1 1)), (2, .int (oI x2)), (6, .int (oI x6)), (7, .int (oI x7)), (9, .long (oJ x9)), (11, .int (oI w11))] → W p l e (rmK 7 190 mc ms) s m args below meth c H locs c1 s1 Q (F0 m 479 ls [])) → ∀ (H : Heap) (locs : List Loc) (ls : Array Slot), va_P z.1 classes (wv z ad E M) H → va_D A (wv z ad E M) → va_S A s.heap H locs → lv_has ls 20 [(0, .ref (ad 1)), (1, .ref (ad 1)), (2, .int (oI x2)), (6, .int (oI x6)), (7, .int (oI x7)), (9, .long (oJ x9)), (11, .int (oI x11)), (12, .ref (ad q12)), (13, .int (oI x13))] → W p l e (rmK 7 190 mc ms) s m args below meth c H locs c0 s0 Q (F0 m 441 ls []) := by
  intro fu
  induction fu with
  | zero =>
    intro c0 s0 ad E M x11 x13 t w11 w13 F N hc hs hag0 hE0 h
    have h : (none : Option (Nat × Int × Int × Ev × Mm)) = some _ := h
    cases h
  | succ fu ih =>
    intro c0 s0 ad E M x11 x13 t w11 w13 F N hc hs hag0 hE0 h k1 H locs ls hP hD hS hl
    obtain ⟨⟨t0, w110, w130, F9, N9⟩, g0, h⟩ := bd_e h
    refine W.wide (Nat.le_refl _) (Nat.le_refl _) (b_La_seats_441b l z E0 ad0 ad E M x2 x6 x7 x9 q12 x11 x13 t0 w110 w130 F9 N9 hx hb hml hts hown hlocks hA hG hZ mc ms c0 s0 (c0 + 0) (s0 + 0) (Nat.le_refl _) (Nat.le_refl _) (by omega) (by omega) hag0 hE0 g0 (fun ad1 ha he e0 => ?_) (fun ad1 ha he e0 => ?_) H locs ls hP hD hS hl)
    · subst e0
      have h := ite_t rfl h
      exact ih (c0 + 0) (s0 + 0) ad1 F9 N9 w110 w130 t w11 w13 F N (by omega) (by omega) ha he h k1
    · subst e0
      have h := ite_f (by decide) h
      obtain ⟨rfl, rfl, rfl, rfl, rfl⟩ := in5 h
      exact fun H locs ls hP hD hS hl => W.wide (by omega) (by omega) (k1 ad1 ha he rfl H locs ls hP hD hS hl)
set_option maxRecDepth 100000 in
set_option maxHeartbeats 4000000 in
theorem b_La_seats_527b (l : Launch) (z : Zz) (E0 : Ev) (ad0 : Nat → Nat) (ad : Nat → Nat) (E : Ev) (M : Mm) (x2 : Int) (x9 : Int) (x11 : Int) (x17 : Int) (x19 : Int) (t : Nat) (w17 : Int) (w19 : Int) (F : Ev) (N : Mm) {Q : State → Prop} {p : Program} {e : Env} {s : State} {m : MethodId} {below : List Frame} {meth : Method} {c : Code} {A : Nat → Prop} {args : Array Value} (hx : p.tables.exec = Jvm.exec) (hb : c.code = method_11_code) (hml : c.maxLocals = 20) (hts : ∀ w ∈ WG, w.before args s = true) (hown : s.vm.findClass "BallothallLaw" = some m.cls) (hlocks : meth.locks = false) (hA : ∀ q, s.heap.size ≤ q → A q) (hG : KG z s) (hZ : FZ z A s) (mc ms c0 s0 c1 s1 : Nat) (hc : c0 + 0 ≤ c1) (hs : s0 + 0 ≤ s1) (hm : c1 ≤ mc) (hm2 : s1 ≤ ms) (hag0 : ∀ i, i < nE E0 → ad i = ad0 i) (hE0 : nE E0 ≤ nE E) (h : La_seats_527b E M x2 x9 x11 x17 x19 = some (t, w17, w19, F, N)) (k0 : ∀ (ad1 : Nat → Nat), (∀ i, i < nE E0 → ad1 i = ad0 i) → nE E0 ≤ nE F → t = 0 → ∀ (H : Heap) (locs : List Loc) (ls : Array Slot), va_P z.1 classes (wv z ad1 F N) H → va_D A (wv z ad1 F N) → va_S A s.heap H locs → lv_has ls 20 [(1, .ref (ad1 1)), (2, .int (oI x2)), (9, .long (oJ x9)), (11, .int (oI x11)), (17, .long (oJ w17)), (19, .int (oI w19))] → W p l e (rmK 7 190 mc ms) s m args below meth c H locs c1 s1 Q (F0 m 527 ls [])) (k1 : ∀ (ad1 : Nat → Nat), (∀ i, i < nE E0 → ad1 i = ad0 i) → nE E0 ≤ nE F → t = 1 → ∀ (H : Heap) (locs : List Loc) (ls : Array Slot), va_P z.1 classes (wv z ad1 F N) H → va_D A (wv z ad1 F N) → va_S A s.heap H locs → lv_has ls 20 [(1, .ref (ad1 1)), (9, .long (oJ x9)), (11, .int (oI x11)), (17, .long (oJ w17))] → W p l e (rmK 7 190 mc ms) s m args below meth c H locs c1 s1 Q (F0 m 551 ls [])) : ∀ (H : Heap) (locs : List Loc) (ls : Array Slot), va_P z.1 classes (wv z ad E M) H → va_D A (wv z ad E M) → va_S A s.heap H locs → lv_has ls 20 [(1, .ref (ad 1)), (2, .int (oI x2)), (9, .long (oJ x9)), (11, .int (oI x11)), (17, .long (oJ x17)), (19, .int (oI x19))] → W p l e (rmK 7 190 mc ms) s m args below meth c H locs c0 s0 Q (F0 m 527 ls []) := by
  intro H locs ls hP hD hS hl
  unfold La_seats_527b at h
  obtain ⟨hL, h⟩ := ck_e h
  refine lv_iload hx hb d_L11_527 (lv_at hl 5 rfl) ?_
  refine lv_iload_n hx hb d_L11_529 rfl (lv_at hl 1 rfl) ?_
  obtain ⟨ok125, h⟩ := ck_e h
  obtain ⟨ok126, h⟩ := ck_e h
  refine lv_icmp_ge (tgt := 551) hx hb d_L11_530 (by decide) (fun c9 => ?_) (fun c9 => ?_)
  · have h := ite_t ((oI_le (a := x2) (b := x19) ok126 ok125).mp c9) h
    obtain ⟨rfl, rfl, rfl, rfl, rfl⟩ := in5 h
    exact W.wide (by omega) (by omega) (k1 ad hag0 hE0 rfl H locs ls hP hD hS (lv_sub hl [0, 2, 3, 4] rfl))
  · have h := ite_f (fun q => c9 ((oI_le (a := x2) (b := x19) ok126 ok125).mpr q)) h
    refine lv_lload hx hb d_L11_533 (lv_at hl 4 rfl) ?_
    refine lv_aload_n hx hb d_L11_535 rfl (lv_at hl 0 rfl) ?_
    refine lv_iload hx hb d_L11_536 (lv_at hl 5 rfl) ?_
    obtain ⟨r127, g127, h⟩ := bd_e h
    refine kV (As := [.int (oI x19)]) (rest := [.long (oJ x17)]) (s_B_seatsOf l z ad E M x19 r127 hL g127) hx hb hml hown hts w_1590 w_1587 w_1588 w_1589 w_1 md_6fdd17 ⟨Nat.le_of_ble_eq_true rfl, Nat.le_of_ble_eq_true rfl⟩ hG hZ hP hD hS hA 1 (wv_o (ci := 11) (yi_1 hL) (yt_1 hL)) rfl rfl rfl hl.1 rfl (Nat.le_of_ble_eq_true rfl) d_L11_538 ⟨(show _ ≤ mc by omega), (show _ ≤ ms by omega)⟩ (fun _ H locs hP hD hS => ?_)
    have hP : va_P z.1 classes (wv z ad E M) H := hP
    have hD : va_D A (wv z ad E M) := hD
    refine W.eq (g2 := F0 m 541 ls [.int (oI r127), .long (oJ x17)]) rfl ?_
    obtain ⟨ok128, h⟩ := ck_e h
    refine lv_i2l (v := oJ r127) hx hb d_L11_541 (oI_l ok128) ?_
    refine lv_ladd hx hb d_L11_542 ?_
    refine nrmL (oJ_add _ _) ?_
    refine lv_lstore (lv' := [(17, .long (oJ (x17 + r127))), (1, .ref (ad 1)), (2, .int (oI x2)), (9, .long (oJ x9)), (11, .int (oI x11)), (19, .int (oI x19))]) hx hb d_L11_543 hl (by decide) rfl (fun ls hl => ?_)
    refine lv_iinc (v := oI (x19 + 1)) (lv' := [(19, .int (oI (x19 + 1))), (17, .long (oJ (x17 + r127))), (1, .ref (ad 1)), (2, .int (oI x2)), (9, .long (oJ x9)), (11, .int (oI x11))]) hx hb d_L11_545 hl (k := 5) rfl (oI_add x19 1) (by decide) rfl (fun ls hl => ?_)
    refine lv_goto (tgt := 527) hx hb d_L11_548 (by decide) ?_
    obtain ⟨rfl, rfl, rfl, rfl, rfl⟩ := in5 h
    exact W.wide (by omega) (by omega) (k0 ad hag0 hE0 rfl H locs ls hP hD hS (lv_sub hl [2, 3, 4, 5, 1, 0] rfl))
set_option maxRecDepth 100000 in
set_option maxHeartbeats 4000000 in
theorem s_La_seats_527 (l : Launch) (z : Zz) (E0 : Ev) (ad0 : Nat → Nat) (x2 : Int) (x9 : Int) (x11 : Int) {Q : State → Prop} {p : Program} {e : Env} {s : State} {m : MethodId} {below : List Frame} {meth : Method} {c : Code} {A : Nat → Prop} {args : Array Value} (hx : p.tables.exec = Jvm.exec) (hb : c.code = method_11_code) (hml : c.maxLocals = 20) (hts : ∀ w ∈ WG, w.before args s = true) (hown : s.vm.findClass "BallothallLaw" = some m.cls) (hlocks : meth.locks = false) (hA : ∀ q, s.heap.size ≤ q → A q) (hG : KG z s) (hZ : FZ z A s) (mc ms c1 s1 : Nat) (hm : c1 ≤ mc) (hm2 : s1 ≤ ms) : ∀ (fu c0 s0 : Nat) (ad : Nat → Nat) (E : Ev) (M : Mm) (x17 : Int) (x19 : Int) (t : Nat) (w17 : Int) (w19 : Int) (F : Ev) (N : Mm), c0 + fu * 0 ≤ c1 → s0 + fu * 0 ≤ s1 → (∀ i, i < nE E0 → ad i = ad0 i) → nE E0 ≤ nE E → l_La_seats_527 x2 x9 x11 fu E M x17 x19 = some (t, w17, w19, F, N) → (∀ (ad1 : Nat → Nat), (∀ i, i < nE E0 → ad1 i = ad0 i) → nE E0 ≤ nE F → t = 1 → ∀ (H : Heap) (locs : List Loc) (ls : Array Slot), va_P z.1 classes (wv z ad1 F N) H → va_D A (wv z ad1 F N) → va_S A s.heap H locs → lv_has ls 20 [(1, .ref (ad1 1)), (9, .long (oJ x9)), (11, .int (oI x11)), (17, .long (oJ w17))] → W p l e (rmK 7 190 mc ms) s m args below meth c H locs c1 s1 Q (F0 m 551 ls [])) → ∀ (H : Heap) (locs : List Loc) (ls : Array Slot), va_P z.1 classes (wv z ad E M) H → va_D A (wv z ad E M) → va_S A s.heap H locs → lv_has ls 20 [(1, .ref (ad 1)), (2, .int (oI x2)), (9, .long (oJ x9)), (11, .int (oI x11)), (17, .long (oJ x17)), (19, .int (oI x19))] → W p l e (rmK 7 190 mc ms) s m args below meth c H locs c0 s0 Q (F0 m 527 ls []) := by
  intro fu
  induction fu with
  | zero =>
    intro c0 s0 ad E M x17 x19 t w17 w19 F N hc hs hag0 hE0 h
    have h : (none : Option (Nat × Int × Int × Ev × Mm)) = some _ := h
    cases h
  | succ fu ih =>
    intro c0 s0 ad E M x17 x19 t w17 w19 F N hc hs hag0 hE0 h k1 H locs ls hP hD hS hl
    obtain ⟨⟨t0, w170, w190, F9, N9⟩, g0, h⟩ := bd_e h
    refine W.wide (Nat.le_refl _) (Nat.le_refl _) (b_La_seats_527b l z E0 ad0 ad E M x2 x9 x11 x17 x19 t0 w170 w190 F9 N9 hx hb hml hts hown hlocks hA hG hZ mc ms c0 s0 (c0 + 0) (s0 + 0) (Nat.le_refl _) (Nat.le_refl _) (by omega) (by omega) hag0 hE0 g0 (fun ad1 ha he e0 => ?_) (fun ad1 ha he e0 => ?_) H locs ls hP hD hS hl)
    · subst e0
      have h := ite_t rfl h
      exact ih (c0 + 0) (s0 + 0) ad1 F9 N9 w170 w190 t w17 w19 F N (by omega) (by omega) ha he h k1
    · subst e0
      have h := ite_f (by decide) h
      obtain ⟨rfl, rfl, rfl, rfl, rfl⟩ := in5 h
      exact fun H locs ls hP hD hS hl => W.wide (by omega) (by omega) (k1 ad1 ha he rfl H locs ls hP hD hS hl)
set_option maxRecDepth 100000 in
set_option maxHeartbeats 4000000 in
theorem b_La_seats_j390 (l : Launch) (z : Zz) (E0 : Ev) (ad0 : Nat → Nat) (ad : Nat → Nat) (E : Ev) (M : Mm) (x2 : Int) (x6 : Int) (x7 : Int) (x9 : Int) (y0 : Int) (y1 : Int) (r : Int) (F : Ev) (N : Mm) {p : Program} {e : Env} {s : State} {m : MethodId} {below : List Frame} {meth : Method} {c : Code} {A : Nat → Prop} {args : Array Value} (hx : p.tables.exec = Jvm.exec) (hb : c.code = method_11_code) (hml : c.maxLocals = 20) (hts : ∀ w ∈ WG, w.before args s = true) (hown : s.vm.findClass "BallothallLaw" = some m.cls) (hlocks : meth.locks = false) (hA : ∀ q, s.heap.size ≤ q → A q) (hG : KG z s) (hZ : FZ z A s) (hr : meth.sig.returnType = (some .boolean)) (mc ms c0 s0 c1 s1 : Nat) (hc : c0 + 1 ≤ c1) (hs : s0 + 64 ≤ s1) (hm : c1 ≤ mc) (hm2 : s1 ≤ ms) (hag0 : ∀ i, i < nE E0 → ad i = ad0 i) (hE0 : nE E0 ≤ nE E) (h : La_seats_j390 E M x2 x6 x7 x9 y0 y1 = some (r, F, N)) : ∀ (H : Heap) (locs : List Loc) (ls : Array Slot), va_P z.1 classes (wv z ad E M) H → va_D A (wv z ad E M) → va_S A s.heap H locs → lv_has ls 20 [(0, .ref (ad 1)), (1, .ref (ad 1)), (2, .int (oI x2)), (6, .int (oI x6)), (7, .int (oI x7)), (9, .long (oJ x9))] → W p l e (rmK 7 190 mc ms) s m args below meth c H locs c0 s0 (MQ below (QK z A (fun u => some (.int (oI r))) (fun u => wv z (adj E0 ad0 u) F N)) args s c1 s1 A) (F0 m 390 ls [.int (oI y0), .long (oJ y1)]) := by
  intro H locs ls hP hD hS hl
  unfold La_seats_j390 at h
  obtain ⟨hL, h⟩ := ck_e h
  obtain ⟨ok136, h⟩ := ck_e h
  refine lv_i2l (v := oJ y0) hx hb d_L11_390 (oI_l ok136) ?_
  obtain ⟨ok137, h⟩ := ck_e h
  refine W.lcmp hx hb d_L11_391 ?_
  refine nrm (cmp_val (a := y1) (b := y0) ok137 (rg_ij ok136)) ?_
  refine lv_if_ne (tgt := 399) hx hb d_L11_392 (by decide) (fun c9 => ?_) (fun c9 => ?_)
  · have h := ite_f (fun q => c9 ((cmp_eq y1 y0).mpr q)) h
    refine lv_iconst (v := oI 0) hx hb d_L11_399 (by decide +kernel) ?_
    refine lv_istore (lv' := [(11, .int (oI 0)), (0, .ref (ad 1)), (1, .ref (ad 1)), (2, .int (oI x2)), (6, .int (oI x6)), (7, .int (oI x7)), (9, .long (oJ x9))]) hx hb d_L11_400 hl (by decide) rfl (fun ls hl => ?_)
    refine lv_iload_n hx hb d_L11_402 rfl (lv_at hl 3 rfl) ?_
    obtain ⟨ok138, h⟩ := ck_e h
    obtain ⟨p139, ep139, h⟩ := nb_e h
    obtain ⟨E139, eE139, h⟩ := nb_e h
    obtain ⟨M139, eM139, h⟩ := nb_e h
    refine m_newI (x := x2) (N := 64) hx hb ok138.1 ok138.2 (by decide) (hts _ w_100) hG hP hD hS hA (show _ ≤ mc by omega) (show _ ≤ ms by omega) d_L11_403 (fun ad139 H hag139 hP hD hS => ?_)
    have hP : va_P z.1 classes (wv z ad139 E139 M139) H := by rw [eE139, eM139]; exact hP
    have hD : va_D A (wv z ad139 E139 M139) := by rw [eE139, eM139]; exact hD
    refine W.eq (g2 := F0 m 405 ls (.ref (ad139 p139) :: [])) (by rw [ep139] <;> rfl) ?_
    have hl : lv_has ls 20 [(11, .int (oI 0)), (0, .ref (ad139 1)), (1, .ref (ad139 1)), (2, .int (oI x2)), (6, .int (oI x6)), (7, .int (oI x7)), (9, .long (oJ x9))] := by rw [hag139 1 (yi_1 hL)]; exact hl
    have hgw139 : Gw E E139 := by rw [eE139]; exact gw_new _ _
    have hL139 : Lay E139 := by rw [eE139]; exact lay_new hL
    have hag0 : ∀ i, i < nE E0 → ad139 i = ad0 i := fun i hi => (hag139 i (Nat.lt_of_lt_of_le hi hE0)).trans (hag0 i hi)
    have hE0 : nE E0 ≤ nE E139 := Nat.le_trans hE0 hgw139.1
    have hL : Lay E139 := hL139
    have h_p139 : isIA E139 p139 := by rw [ep139, eE139]; exact ⟨new_i _ _, by rw [new_T]⟩
    refine lv_astore (lv' := [(12, .ref (ad139 p139)), (11, .int (oI 0)), (0, .ref (ad139 1)), (1, .ref (ad139 1)), (2, .int (oI x2)), (6, .int (oI x6)), (7, .int (oI x7)), (9, .long (oJ x9))]) hx hb d_L11_405 hl (by decide) rfl (fun ls hl => ?_)
    refine lv_iconst (v := oI 0) hx hb d_L11_407 (by decide +kernel) ?_
    refine lv_istore (lv' := [(13, .int (oI 0)), (12, .ref (ad139 p139)), (11, .int (oI 0)), (0, .ref (ad139 1)), (1, .ref (ad139 1)), (2, .int (oI x2)), (6, .int (oI x6)), (7, .int (oI x7)), (9, .long (oJ x9))]) hx hb d_L11_408 hl (by decide) rfl (fun ls hl => ?_)
    obtain ⟨⟨t140, v140_13, E140, M140⟩, g140, h⟩ := bd_e h
    obtain ⟨hgw140, h⟩ := ck_e h
    obtain ⟨hL140, h⟩ := ck_e h
    obtain ⟨ok140, h⟩ := ck_e h
    refine s_La_seats_410 l z E139 ad139 x2 x6 x7 x9 0 p139 hx hb hml hts hown hlocks hA hG hZ mc ms (c0 + 1) (s0 + 64) (by omega) (by omega) 5000 _ _ ad139 E139 M139 0 t140 v140_13 E140 M140 (by omega) (by omega) (fun _ _ => rfl) (Nat.le_refl _) g140 (fun ad140 hag140 hEE140 e140 H locs ls hP hD hS hl => ?_) H locs ls hP hD hS (lv_sub hl [3, 4, 5, 6, 7, 8, 2, 1, 0] rfl)
    have hag0 : ∀ i, i < nE E0 → ad140 i = ad0 i := fun i hi => (hag140 i (Nat.lt_of_lt_of_le hi hE0)).trans (hag0 i hi)
    have hE0 : nE E0 ≤ nE E140 := Nat.le_trans hE0 hgw140.1
    have hL : Lay E140 := hL140
    have h_p139 : isIA E140 p139 := isA_up hgw140 h_p139
    refine lv_iconst (v := oI 0) hx hb d_L11_438 (by decide +kernel) ?_
    refine lv_istore (lv' := [(13, .int (oI 0)), (0, .ref (ad140 1)), (1, .ref (ad140 1)), (2, .int (oI x2)), (6, .int (oI x6)), (7, .int (oI x7)), (9, .long (oJ x9)), (11, .int (oI 0)), (12, .ref (ad140 p139))]) hx hb d_L11_439 hl (by decide) rfl (fun ls hl => ?_)
    obtain ⟨⟨t141, v141_11, v141_13, E141, M141⟩, g141, h⟩ := bd_e h
    obtain ⟨hgw141, h⟩ := ck_e h
    obtain ⟨hL141, h⟩ := ck_e h
    obtain ⟨ok141, h⟩ := ck_e h
    refine s_La_seats_441 l z E140 ad140 x2 x6 x7 x9 p139 hx hb hml hts hown hlocks hA hG hZ mc ms (c0 + 1) (s0 + 64) (by omega) (by omega) 5000 _ _ ad140 E140 M140 0 0 t141 v141_11 v141_13 E141 M141 (by omega) (by omega) (fun _ _ => rfl) (Nat.le_refl _) g141 (fun ad141 hag141 hEE141 e141 H locs ls hP hD hS hl => ?_) H locs ls hP hD hS (lv_sub hl [1, 2, 3, 4, 5, 6, 7, 8, 0] rfl)
    have hag0 : ∀ i, i < nE E0 → ad141 i = ad0 i := fun i hi => (hag141 i (Nat.lt_of_lt_of_le hi hE0)).trans (hag0 i hi)
    have hE0 : nE E0 ≤ nE E141 := Nat.le_trans hE0 hgw141.1
    have hL : Lay E141 := hL141
    refine lv_aload_n hx hb d_L11_479 rfl (lv_at hl 0 rfl) ?_
    refine lv_iload_n hx hb d_L11_480 rfl (lv_at hl 2 rfl) ?_
    obtain ⟨⟨r142, M142⟩, g142, h⟩ := bd_e h
    refine kS (As := [.ref (ad141 1), .int (oI x2)]) (rest := []) (s_La_next l z ad141 E141 M141 1 x2 r142 M142 hL g142) hx hb hml hown hts w_797 w_795 w_796 w_0 md_199d8f ⟨Nat.le_of_ble_eq_true rfl, Nat.le_of_ble_eq_true rfl⟩ hG hZ hP hD hS hA rfl hl.1 rfl (Nat.le_of_ble_eq_true rfl) d_L11_481 ⟨(show _ ≤ mc by omega), (show _ ≤ ms by omega)⟩ (fun _ H locs hP hD hS => ?_)
    have hP : va_P z.1 classes (wv z ad141 E141 M142) H := hP
    have hD : va_D A (wv z ad141 E141 M142) := hD
    refine W.eq (g2 := F0 m 484 ls [.int (oI r142)]) rfl ?_
    refine lv_istore (lv' := [(13, .int (oI r142)), (0, .ref (ad141 1)), (1, .ref (ad141 1)), (2, .int (oI x2)), (6, .int (oI x6)), (7, .int (oI x7)), (9, .long (oJ x9)), (11, .int (oI v141_11))]) hx hb d_L11_484 hl (by decide) rfl (fun ls hl => ?_)
    refine lv_aload_n hx hb d_L11_486 rfl (lv_at hl 1 rfl) ?_
    refine lv_iload_n hx hb d_L11_487 rfl (lv_at hl 3 rfl) ?_
    obtain ⟨⟨r143, M143⟩, g143, h⟩ := bd_e h
    refine kS (As := [.ref (ad141 1), .int (oI x2)]) (rest := []) (s_La_next l z ad141 E141 M142 1 x2 r143 M143 hL g143) hx hb hml hown hts w_797 w_795 w_796 w_0 md_199d8f ⟨Nat.le_of_ble_eq_true rfl, Nat.le_of_ble_eq_true rfl⟩ hG hZ hP hD hS hA rfl hl.1 rfl (Nat.le_of_ble_eq_true rfl) d_L11_488 ⟨(show _ ≤ mc by omega), (show _ ≤ ms by omega)⟩ (fun _ H locs hP hD hS => ?_)
    have hP : va_P z.1 classes (wv z ad141 E141 M143) H := hP
    have hD : va_D A (wv z ad141 E141 M143) := hD
    refine W.eq (g2 := F0 m 491 ls [.int (oI r143)]) rfl ?_
    refine lv_istore (lv' := [(14, .int (oI r143)), (13, .int (oI r142)), (0, .ref (ad141 1)), (1, .ref (ad141 1)), (2, .int (oI x2)), (6, .int (oI x6)), (7, .int (oI x7)), (9, .long (oJ x9)), (11, .int (oI v141_11))]) hx hb d_L11_491 hl (by decide) rfl (fun ls hl => ?_)
    refine lv_aload_n hx hb d_L11_493 rfl (lv_at hl 3 rfl) ?_
    refine lv_iload hx hb d_L11_494 (lv_at hl 1 rfl) ?_
    refine lv_iconst (v := oI 1) hx hb d_L11_496 (by decide +kernel) ?_
    obtain ⟨⟨r144, M144⟩, g144, h⟩ := bd_e h
    refine kV (As := [.int (oI r142), .int (oI 1)]) (rest := []) (s_B_ally l z ad141 E141 M143 r142 1 r144 M144 hL g144) hx hb hml hown hts w_1602 w_1599 w_1600 w_1601 w_1 md_1f245a ⟨Nat.le_of_ble_eq_true rfl, Nat.le_of_ble_eq_true rfl⟩ hG hZ hP hD hS hA 1 (wv_o (ci := 11) (yi_1 hL) (yt_1 hL)) rfl rfl rfl hl.1 rfl (Nat.le_of_ble_eq_true rfl) d_L11_497 ⟨(show _ ≤ mc by omega), (show _ ≤ ms by omega)⟩ (fun _ H locs hP hD hS => ?_)
    have hP : va_P z.1 classes (wv z ad141 E141 M144) H := hP
    have hD : va_D A (wv z ad141 E141 M144) := hD
    refine W.eq (g2 := F0 m 500 ls [.int (oI r144)]) rfl ?_
    refine lv_aload_n hx hb d_L11_500 rfl (lv_at hl 3 rfl) ?_
    refine lv_iload hx hb d_L11_501 (lv_at hl 0 rfl) ?_
    refine lv_iconst (v := oI 1) hx hb d_L11_503 (by decide +kernel) ?_
    obtain ⟨⟨r145, M145⟩, g145, h⟩ := bd_e h
    refine kV (As := [.int (oI r143), .int (oI 1)]) (rest := [.int (oI r144)]) (s_B_ally l z ad141 E141 M144 r143 1 r145 M145 hL g145) hx hb hml hown hts w_1602 w_1599 w_1600 w_1601 w_1 md_1f245a ⟨Nat.le_of_ble_eq_true rfl, Nat.le_of_ble_eq_true rfl⟩ hG hZ hP hD hS hA 1 (wv_o (ci := 11) (yi_1 hL) (yt_1 hL)) rfl rfl rfl hl.1 rfl (Nat.le_of_ble_eq_true rfl) d_L11_504 ⟨(show _ ≤ mc by omega), (show _ ≤ ms by omega)⟩ (fun _ H locs hP hD hS => ?_)
    have hP : va_P z.1 classes (wv z ad141 E141 M145) H := hP
    have hD : va_D A (wv z ad141 E141 M145) := hD
    refine W.eq (g2 := F0 m 507 ls [.int (oI r145), .int (oI r144)]) rfl ?_
    refine lv_iadd hx hb d_L11_507 ?_
    refine nrm (oI_add _ _) ?_
    refine lv_istore (lv' := [(15, .int (oI (r144 + r145))), (14, .int (oI r143)), (13, .int (oI r142)), (0, .ref (ad141 1)), (1, .ref (ad141 1)), (2, .int (oI x2)), (6, .int (oI x6)), (7, .int (oI x7)), (9, .long (oJ x9)), (11, .int (oI v141_11))]) hx hb d_L11_508 hl (by decide) rfl (fun ls hl => ?_)
    refine lv_aload_n hx hb d_L11_510 rfl (lv_at hl 4 rfl) ?_
    refine lv_iload hx hb d_L11_511 (lv_at hl 6 rfl) ?_
    refine lv_iload hx hb d_L11_513 (lv_at hl 7 rfl) ?_
    refine lv_iconst (v := oI 0) hx hb d_L11_515 (by decide +kernel) ?_
    obtain ⟨⟨r146, M146⟩, g146, h⟩ := bd_e h
    refine kV (As := [.int (oI x6), .int (oI x7), .int (oI 0)]) (rest := []) (s_B_seats l z ad141 E141 M145 x6 x7 0 r146 M146 hL g146) hx hb hml hown hts w_1520 w_1517 w_1518 w_1519 w_1 md_fbc403 ⟨Nat.le_of_ble_eq_true rfl, Nat.le_of_ble_eq_true rfl⟩ hG hZ hP hD hS hA 1 (wv_o (ci := 11) (yi_1 hL) (yt_1 hL)) rfl rfl rfl hl.1 rfl (Nat.le_of_ble_eq_true rfl) d_L11_516 ⟨(show _ ≤ mc by omega), (show _ ≤ ms by omega)⟩ (fun _ H locs hP hD hS => ?_)
    have hP : va_P z.1 classes (wv z ad141 E141 M146) H := hP
    have hD : va_D A (wv z ad141 E141 M146) := hD
    refine W.eq (g2 := F0 m 519 ls [.int (oI r146)]) rfl ?_
    refine lv_istore (lv' := [(16, .int (oI r146)), (15, .int (oI (r144 + r145))), (14, .int (oI r143)), (13, .int (oI r142)), (0, .ref (ad141 1)), (1, .ref (ad141 1)), (2, .int (oI x2)), (6, .int (oI x6)), (7, .int (oI x7)), (9, .long (oJ x9)), (11, .int (oI v141_11))]) hx hb d_L11_519 hl (by decide) rfl (fun ls hl => ?_)
    refine lv_lconst (v := oJ 0) hx hb d_L11_521 (by decide +kernel) ?_
    refine lv_lstore (lv' := [(17, .long (oJ 0)), (16, .int (oI r146)), (15, .int (oI (r144 + r145))), (14, .int (oI r143)), (13, .int (oI r142)), (0, .ref (ad141 1)), (1, .ref (ad141 1)), (2, .int (oI x2)), (6, .int (oI x6)), (7, .int (oI x7)), (9, .long (oJ x9)), (11, .int (oI v141_11))]) hx hb d_L11_522 hl (by decide) rfl (fun ls hl => ?_)
    refine lv_iconst (v := oI 0) hx hb d_L11_524 (by decide +kernel) ?_
    refine lv_istore (lv' := [(19, .int (oI 0)), (17, .long (oJ 0)), (16, .int (oI r146)), (15, .int (oI (r144 + r145))), (14, .int (oI r143)), (13, .int (oI r142)), (0, .ref (ad141 1)), (1, .ref (ad141 1)), (2, .int (oI x2)), (6, .int (oI x6)), (7, .int (oI x7)), (9, .long (oJ x9)), (11, .int (oI v141_11))]) hx hb d_L11_525 hl (by decide) rfl (fun ls hl => ?_)
    obtain ⟨⟨t147, v147_17, v147_19, E147, M147⟩, g147, h⟩ := bd_e h
    obtain ⟨hgw147, h⟩ := ck_e h
    obtain ⟨hL147, h⟩ := ck_e h
    obtain ⟨ok147, h⟩ := ck_e h
    refine s_La_seats_527 l z E141 ad141 x2 x9 v141_11 hx hb hml hts hown hlocks hA hG hZ mc ms (c0 + 1) (s0 + 64) (by omega) (by omega) 5000 _ _ ad141 E141 M146 0 0 t147 v147_17 v147_19 E147 M147 (by omega) (by omega) (fun _ _ => rfl) (Nat.le_refl _) g147 (fun ad147 hag147 hEE147 e147 H locs ls hP hD hS hl => ?_) H locs ls hP hD hS (lv_sub hl [7, 8, 11, 12, 1, 0] rfl)
    have hag0 : ∀ i, i < nE E0 → ad147 i = ad0 i := fun i hi => (hag147 i (Nat.lt_of_lt_of_le hi hE0)).trans (hag0 i hi)
    have hE0 : nE E0 ≤ nE E147 := Nat.le_trans hE0 hgw147.1
    have hL : Lay E147 := hL147
    refine lv_iload hx hb d_L11_551 (lv_at hl 2 rfl) ?_
    obtain ⟨ok148, h⟩ := ck_e h
    refine lv_if_eq (tgt := 575) hx hb d_L11_553 (by decide) (fun c9 => ?_) (fun c9 => ?_)
    · have h := ite_t ((oI_eq0 ok148).mp c9) h
      refine lv_iconst (v := oI 0) hx hb d_L11_575 (by decide +kernel) ?_
      refine W.wide (k := c1) (n := s1) (by omega) (by omega) ?_
      obtain ⟨rfl, rfl, rfl⟩ := in3 h
      exact W.zret hx hb hr rfl (fun t ht hW => qkA hP hD hS ad147 (congrArg (fun q => wv z q E147 M147) (adj_self hag0).symm) rfl ht) hS.2.2 d_L11_576
    · have h := ite_f (fun q => c9 ((oI_eq0 ok148).mpr q)) h
      refine lv_lload hx hb d_L11_556 (lv_at hl 3 rfl) ?_
      refine lv_lload hx hb d_L11_558 (lv_at hl 1 rfl) ?_
      obtain ⟨ok149, h⟩ := ck_e h
      obtain ⟨ok150, h⟩ := ck_e h
      refine W.lcmp hx hb d_L11_560 ?_
      refine nrm (cmp_val (a := v147_17) (b := x9) ok149 ok150) ?_
      refine lv_if_ne (tgt := 575) hx hb d_L11_561 (by decide) (fun c9 => ?_) (fun c9 => ?_)
      · have h := ite_f (fun q => c9 ((cmp_eq v147_17 x9).mpr q)) h
        refine lv_iconst (v := oI 0) hx hb d_L11_575 (by decide +kernel) ?_
        refine W.wide (k := c1) (n := s1) (by omega) (by omega) ?_
        obtain ⟨rfl, rfl, rfl⟩ := in3 h
        exact W.zret hx hb hr rfl (fun t ht hW => qkA hP hD hS ad147 (congrArg (fun q => wv z q E147 M147) (adj_self hag0).symm) rfl ht) hS.2.2 d_L11_576
      · have h := ite_t ((cmp_eq v147_17 x9).mp c9) h
        refine lv_aload_n hx hb d_L11_564 rfl (lv_at hl 0 rfl) ?_
        obtain ⟨⟨r151, M151⟩, g151, h⟩ := bd_e h
        refine kV (As := []) (rest := []) (s_B_errors l z ad147 E147 M147 r151 M151 hL g151) hx hb hml hown hts w_576 w_573 w_574 w_575 w_1 md_d65014 ⟨Nat.le_of_ble_eq_true rfl, Nat.le_of_ble_eq_true rfl⟩ hG hZ hP hD hS hA 1 (wv_o (ci := 11) (yi_1 hL) (yt_1 hL)) rfl rfl rfl hl.1 rfl (Nat.le_of_ble_eq_true rfl) d_L11_565 ⟨(show _ ≤ mc by omega), (show _ ≤ ms by omega)⟩ (fun _ H locs hP hD hS => ?_)
        have hP : va_P z.1 classes (wv z ad147 E147 M151) H := hP
        have hD : va_D A (wv z ad147 E147 M151) := hD
        refine W.eq (g2 := F0 m 568 ls [.int (oI r151)]) rfl ?_
        obtain ⟨ok152, h⟩ := ck_e h
        refine lv_if_ne (tgt := 575) hx hb d_L11_568 (by decide) (fun c9 => ?_) (fun c9 => ?_)
        · have h := ite_f (fun q => c9 ((oI_eq0 ok152).mpr q)) h
          refine lv_iconst (v := oI 0) hx hb d_L11_575 (by decide +kernel) ?_
          refine W.wide (k := c1) (n := s1) (by omega) (by omega) ?_
          obtain ⟨rfl, rfl, rfl⟩ := in3 h
          exact W.zret hx hb hr rfl (fun t ht hW => qkA hP hD hS ad147 (congrArg (fun q => wv z q E147 M151) (adj_self hag0).symm) rfl ht) hS.2.2 d_L11_576
        · have h := ite_t ((oI_eq0 ok152).mp c9) h
          refine lv_iconst (v := oI 1) hx hb d_L11_571 (by decide +kernel) ?_
          refine lv_goto (tgt := 576) hx hb d_L11_572 (by decide) ?_
          refine W.wide (k := c1) (n := s1) (by omega) (by omega) ?_
          obtain ⟨rfl, rfl, rfl⟩ := in3 h
          exact W.zret hx hb hr rfl (fun t ht hW => qkA hP hD hS ad147 (congrArg (fun q => wv z q E147 M151) (adj_self hag0).symm) rfl ht) hS.2.2 d_L11_576
  · have h := ite_t ((cmp_eq y1 y0).mp c9) h
    refine lv_iconst (v := oI 1) hx hb d_L11_395 (by decide +kernel) ?_
    refine lv_goto (tgt := 400) hx hb d_L11_396 (by decide) ?_
    refine lv_istore (lv' := [(11, .int (oI 1)), (0, .ref (ad 1)), (1, .ref (ad 1)), (2, .int (oI x2)), (6, .int (oI x6)), (7, .int (oI x7)), (9, .long (oJ x9))]) hx hb d_L11_400 hl (by decide) rfl (fun ls hl => ?_)
    refine lv_iload_n hx hb d_L11_402 rfl (lv_at hl 3 rfl) ?_
    obtain ⟨ok153, h⟩ := ck_e h
    obtain ⟨p154, ep154, h⟩ := nb_e h
    obtain ⟨E154, eE154, h⟩ := nb_e h
    obtain ⟨M154, eM154, h⟩ := nb_e h
    refine m_newI (x := x2) (N := 64) hx hb ok153.1 ok153.2 (by decide) (hts _ w_100) hG hP hD hS hA (show _ ≤ mc by omega) (show _ ≤ ms by omega) d_L11_403 (fun ad154 H hag154 hP hD hS => ?_)
    have hP : va_P z.1 classes (wv z ad154 E154 M154) H := by rw [eE154, eM154]; exact hP
    have hD : va_D A (wv z ad154 E154 M154) := by rw [eE154, eM154]; exact hD
    refine W.eq (g2 := F0 m 405 ls (.ref (ad154 p154) :: [])) (by rw [ep154] <;> rfl) ?_
    have hl : lv_has ls 20 [(11, .int (oI 1)), (0, .ref (ad154 1)), (1, .ref (ad154 1)), (2, .int (oI x2)), (6, .int (oI x6)), (7, .int (oI x7)), (9, .long (oJ x9))] := by rw [hag154 1 (yi_1 hL)]; exact hl
    have hgw154 : Gw E E154 := by rw [eE154]; exact gw_new _ _
    have hL154 : Lay E154 := by rw [eE154]; exact lay_new hL
    have hag0 : ∀ i, i < nE E0 → ad154 i = ad0 i := fun i hi => (hag154 i (Nat.lt_of_lt_of_le hi hE0)).trans (hag0 i hi)
    have hE0 : nE E0 ≤ nE E154 := Nat.le_trans hE0 hgw154.1
    have hL : Lay E154 := hL154
    have h_p154 : isIA E154 p154 := by rw [ep154, eE154]; exact ⟨new_i _ _, by rw [new_T]⟩
    refine lv_astore (lv' := [(12, .ref (ad154 p154)), (11, .int (oI 1)), (0, .ref (ad154 1)), (1, .ref (ad154 1)), (2, .int (oI x2)), (6, .int (oI x6)), (7, .int (oI x7)), (9, .long (oJ x9))]) hx hb d_L11_405 hl (by decide) rfl (fun ls hl => ?_)
    refine lv_iconst (v := oI 0) hx hb d_L11_407 (by decide +kernel) ?_
    refine lv_istore (lv' := [(13, .int (oI 0)), (12, .ref (ad154 p154)), (11, .int (oI 1)), (0, .ref (ad154 1)), (1, .ref (ad154 1)), (2, .int (oI x2)), (6, .int (oI x6)), (7, .int (oI x7)), (9, .long (oJ x9))]) hx hb d_L11_408 hl (by decide) rfl (fun ls hl => ?_)
    obtain ⟨⟨t155, v155_13, E155, M155⟩, g155, h⟩ := bd_e h
    obtain ⟨hgw155, h⟩ := ck_e h
    obtain ⟨hL155, h⟩ := ck_e h
    obtain ⟨ok155, h⟩ := ck_e h
    refine s_La_seats_410 l z E154 ad154 x2 x6 x7 x9 1 p154 hx hb hml hts hown hlocks hA hG hZ mc ms (c0 + 1) (s0 + 64) (by omega) (by omega) 5000 _ _ ad154 E154 M154 0 t155 v155_13 E155 M155 (by omega) (by omega) (fun _ _ => rfl) (Nat.le_refl _) g155 (fun ad155 hag155 hEE155 e155 H locs ls hP hD hS hl => ?_) H locs ls hP hD hS (lv_sub hl [3, 4, 5, 6, 7, 8, 2, 1, 0] rfl)
    have hag0 : ∀ i, i < nE E0 → ad155 i = ad0 i := fun i hi => (hag155 i (Nat.lt_of_lt_of_le hi hE0)).trans (hag0 i hi)
    have hE0 : nE E0 ≤ nE E155 := Nat.le_trans hE0 hgw155.1
    have hL : Lay E155 := hL155
    have h_p154 : isIA E155 p154 := isA_up hgw155 h_p154
    refine lv_iconst (v := oI 0) hx hb d_L11_438 (by decide +kernel) ?_
    refine lv_istore (lv' := [(13, .int (oI 0)), (0, .ref (ad155 1)), (1, .ref (ad155 1)), (2, .int (oI x2)), (6, .int (oI x6)), (7, .int (oI x7)), (9, .long (oJ x9)), (11, .int (oI 1)), (12, .ref (ad155 p154))]) hx hb d_L11_439 hl (by decide) rfl (fun ls hl => ?_)
    obtain ⟨⟨t156, v156_11, v156_13, E156, M156⟩, g156, h⟩ := bd_e h
    obtain ⟨hgw156, h⟩ := ck_e h
    obtain ⟨hL156, h⟩ := ck_e h
    obtain ⟨ok156, h⟩ := ck_e h
    refine s_La_seats_441 l z E155 ad155 x2 x6 x7 x9 p154 hx hb hml hts hown hlocks hA hG hZ mc ms (c0 + 1) (s0 + 64) (by omega) (by omega) 5000 _ _ ad155 E155 M155 1 0 t156 v156_11 v156_13 E156 M156 (by omega) (by omega) (fun _ _ => rfl) (Nat.le_refl _) g156 (fun ad156 hag156 hEE156 e156 H locs ls hP hD hS hl => ?_) H locs ls hP hD hS (lv_sub hl [1, 2, 3, 4, 5, 6, 7, 8, 0] rfl)
    have hag0 : ∀ i, i < nE E0 → ad156 i = ad0 i := fun i hi => (hag156 i (Nat.lt_of_lt_of_le hi hE0)).trans (hag0 i hi)
    have hE0 : nE E0 ≤ nE E156 := Nat.le_trans hE0 hgw156.1
    have hL : Lay E156 := hL156
    refine lv_aload_n hx hb d_L11_479 rfl (lv_at hl 0 rfl) ?_
    refine lv_iload_n hx hb d_L11_480 rfl (lv_at hl 2 rfl) ?_
    obtain ⟨⟨r157, M157⟩, g157, h⟩ := bd_e h
    refine kS (As := [.ref (ad156 1), .int (oI x2)]) (rest := []) (s_La_next l z ad156 E156 M156 1 x2 r157 M157 hL g157) hx hb hml hown hts w_797 w_795 w_796 w_0 md_199d8f ⟨Nat.le_of_ble_eq_true rfl, Nat.le_of_ble_eq_true rfl⟩ hG hZ hP hD hS hA rfl hl.1 rfl (Nat.le_of_ble_eq_true rfl) d_L11_481 ⟨(show _ ≤ mc by omega), (show _ ≤ ms by omega)⟩ (fun _ H locs hP hD hS => ?_)
    have hP : va_P z.1 classes (wv z ad156 E156 M157) H := hP
    have hD : va_D A (wv z ad156 E156 M157) := hD
    refine W.eq (g2 := F0 m 484 ls [.int (oI r157)]) rfl ?_
    refine lv_istore (lv' := [(13, .int (oI r157)), (0, .ref (ad156 1)), (1, .ref (ad156 1)), (2, .int (oI x2)), (6, .int (oI x6)), (7, .int (oI x7)), (9, .long (oJ x9)), (11, .int (oI v156_11))]) hx hb d_L11_484 hl (by decide) rfl (fun ls hl => ?_)
    refine lv_aload_n hx hb d_L11_486 rfl (lv_at hl 1 rfl) ?_
    refine lv_iload_n hx hb d_L11_487 rfl (lv_at hl 3 rfl) ?_
    obtain ⟨⟨r158, M158⟩, g158, h⟩ := bd_e h
    refine kS (As := [.ref (ad156 1), .int (oI x2)]) (rest := []) (s_La_next l z ad156 E156 M157 1 x2 r158 M158 hL g158) hx hb hml hown hts w_797 w_795 w_796 w_0 md_199d8f ⟨Nat.le_of_ble_eq_true rfl, Nat.le_of_ble_eq_true rfl⟩ hG hZ hP hD hS hA rfl hl.1 rfl (Nat.le_of_ble_eq_true rfl) d_L11_488 ⟨(show _ ≤ mc by omega), (show _ ≤ ms by omega)⟩ (fun _ H locs hP hD hS => ?_)
    have hP : va_P z.1 classes (wv z ad156 E156 M158) H := hP
    have hD : va_D A (wv z ad156 E156 M158) := hD
    refine W.eq (g2 := F0 m 491 ls [.int (oI r158)]) rfl ?_
    refine lv_istore (lv' := [(14, .int (oI r158)), (13, .int (oI r157)), (0, .ref (ad156 1)), (1, .ref (ad156 1)), (2, .int (oI x2)), (6, .int (oI x6)), (7, .int (oI x7)), (9, .long (oJ x9)), (11, .int (oI v156_11))]) hx hb d_L11_491 hl (by decide) rfl (fun ls hl => ?_)
    refine lv_aload_n hx hb d_L11_493 rfl (lv_at hl 3 rfl) ?_
    refine lv_iload hx hb d_L11_494 (lv_at hl 1 rfl) ?_
    refine lv_iconst (v := oI 1) hx hb d_L11_496 (by decide +kernel) ?_
    obtain ⟨⟨r159, M159⟩, g159, h⟩ := bd_e h
    refine kV (As := [.int (oI r157), .int (oI 1)]) (rest := []) (s_B_ally l z ad156 E156 M158 r157 1 r159 M159 hL g159) hx hb hml hown hts w_1602 w_1599 w_1600 w_1601 w_1 md_1f245a ⟨Nat.le_of_ble_eq_true rfl, Nat.le_of_ble_eq_true rfl⟩ hG hZ hP hD hS hA 1 (wv_o (ci := 11) (yi_1 hL) (yt_1 hL)) rfl rfl rfl hl.1 rfl (Nat.le_of_ble_eq_true rfl) d_L11_497 ⟨(show _ ≤ mc by omega), (show _ ≤ ms by omega)⟩ (fun _ H locs hP hD hS => ?_)
    have hP : va_P z.1 classes (wv z ad156 E156 M159) H := hP
    have hD : va_D A (wv z ad156 E156 M159) := hD
    refine W.eq (g2 := F0 m 500 ls [.int (oI r159)]) rfl ?_
    refine lv_aload_n hx hb d_L11_500 rfl (lv_at hl 3 rfl) ?_
    refine lv_iload hx hb d_L11_501 (lv_at hl 0 rfl) ?_
    refine lv_iconst (v := oI 1) hx hb d_L11_503 (by decide +kernel) ?_
    obtain ⟨⟨r160, M160⟩, g160, h⟩ := bd_e h
    refine kV (As := [.int (oI r158), .int (oI 1)]) (rest := [.int (oI r159)]) (s_B_ally l z ad156 E156 M159 r158 1 r160 M160 hL g160) hx hb hml hown hts w_1602 w_1599 w_1600 w_1601 w_1 md_1f245a ⟨Nat.le_of_ble_eq_true rfl, Nat.le_of_ble_eq_true rfl⟩ hG hZ hP hD hS hA 1 (wv_o (ci := 11) (yi_1 hL) (yt_1 hL)) rfl rfl rfl hl.1 rfl (Nat.le_of_ble_eq_true rfl) d_L11_504 ⟨(show _ ≤ mc by omega), (show _ ≤ ms by omega)⟩ (fun _ H locs hP hD hS => ?_)
    have hP : va_P z.1 classes (wv z ad156 E156 M160) H := hP
    have hD : va_D A (wv z ad156 E156 M160) := hD
    refine W.eq (g2 := F0 m 507 ls [.int (oI r160), .int (oI r159)]) rfl ?_
    refine lv_iadd hx hb d_L11_507 ?_
    refine nrm (oI_add _ _) ?_
    refine lv_istore (lv' := [(15, .int (oI (r159 + r160))), (14, .int (oI r158)), (13, .int (oI r157)), (0, .ref (ad156 1)), (1, .ref (ad156 1)), (2, .int (oI x2)), (6, .int (oI x6)), (7, .int (oI x7)), (9, .long (oJ x9)), (11, .int (oI v156_11))]) hx hb d_L11_508 hl (by decide) rfl (fun ls hl => ?_)
    refine lv_aload_n hx hb d_L11_510 rfl (lv_at hl 4 rfl) ?_
    refine lv_iload hx hb d_L11_511 (lv_at hl 6 rfl) ?_
    refine lv_iload hx hb d_L11_513 (lv_at hl 7 rfl) ?_
    refine lv_iconst (v := oI 0) hx hb d_L11_515 (by decide +kernel) ?_
    obtain ⟨⟨r161, M161⟩, g161, h⟩ := bd_e h
    refine kV (As := [.int (oI x6), .int (oI x7), .int (oI 0)]) (rest := []) (s_B_seats l z ad156 E156 M160 x6 x7 0 r161 M161 hL g161) hx hb hml hown hts w_1520 w_1517 w_1518 w_1519 w_1 md_fbc403 ⟨Nat.le_of_ble_eq_true rfl, Nat.le_of_ble_eq_true rfl⟩ hG hZ hP hD hS hA 1 (wv_o (ci := 11) (yi_1 hL) (yt_1 hL)) rfl rfl rfl hl.1 rfl (Nat.le_of_ble_eq_true rfl) d_L11_516 ⟨(show _ ≤ mc by omega), (show _ ≤ ms by omega)⟩ (fun _ H locs hP hD hS => ?_)
    have hP : va_P z.1 classes (wv z ad156 E156 M161) H := hP
    have hD : va_D A (wv z ad156 E156 M161) := hD
    refine W.eq (g2 := F0 m 519 ls [.int (oI r161)]) rfl ?_
    refine lv_istore (lv' := [(16, .int (oI r161)), (15, .int (oI (r159 + r160))), (14, .int (oI r158)), (13, .int (oI r157)), (0, .ref (ad156 1)), (1, .ref (ad156 1)), (2, .int (oI x2)), (6, .int (oI x6)), (7, .int (oI x7)), (9, .long (oJ x9)), (11, .int (oI v156_11))]) hx hb d_L11_519 hl (by decide) rfl (fun ls hl => ?_)
    refine lv_lconst (v := oJ 0) hx hb d_L11_521 (by decide +kernel) ?_
    refine lv_lstore (lv' := [(17, .long (oJ 0)), (16, .int (oI r161)), (15, .int (oI (r159 + r160))), (14, .int (oI r158)), (13, .int (oI r157)), (0, .ref (ad156 1)), (1, .ref (ad156 1)), (2, .int (oI x2)), (6, .int (oI x6)), (7, .int (oI x7)), (9, .long (oJ x9)), (11, .int (oI v156_11))]) hx hb d_L11_522 hl (by decide) rfl (fun ls hl => ?_)
    refine lv_iconst (v := oI 0) hx hb d_L11_524 (by decide +kernel) ?_
    refine lv_istore (lv' := [(19, .int (oI 0)), (17, .long (oJ 0)), (16, .int (oI r161)), (15, .int (oI (r159 + r160))), (14, .int (oI r158)), (13, .int (oI r157)), (0, .ref (ad156 1)), (1, .ref (ad156 1)), (2, .int (oI x2)), (6, .int (oI x6)), (7, .int (oI x7)), (9, .long (oJ x9)), (11, .int (oI v156_11))]) hx hb d_L11_525 hl (by decide) rfl (fun ls hl => ?_)
    obtain ⟨⟨t162, v162_17, v162_19, E162, M162⟩, g162, h⟩ := bd_e h
    obtain ⟨hgw162, h⟩ := ck_e h
    obtain ⟨hL162, h⟩ := ck_e h
    obtain ⟨ok162, h⟩ := ck_e h
    refine s_La_seats_527 l z E156 ad156 x2 x9 v156_11 hx hb hml hts hown hlocks hA hG hZ mc ms (c0 + 1) (s0 + 64) (by omega) (by omega) 5000 _ _ ad156 E156 M161 0 0 t162 v162_17 v162_19 E162 M162 (by omega) (by omega) (fun _ _ => rfl) (Nat.le_refl _) g162 (fun ad162 hag162 hEE162 e162 H locs ls hP hD hS hl => ?_) H locs ls hP hD hS (lv_sub hl [7, 8, 11, 12, 1, 0] rfl)
    have hag0 : ∀ i, i < nE E0 → ad162 i = ad0 i := fun i hi => (hag162 i (Nat.lt_of_lt_of_le hi hE0)).trans (hag0 i hi)
    have hE0 : nE E0 ≤ nE E162 := Nat.le_trans hE0 hgw162.1
    have hL : Lay E162 := hL162
    refine lv_iload hx hb d_L11_551 (lv_at hl 2 rfl) ?_
    obtain ⟨ok163, h⟩ := ck_e h
    refine lv_if_eq (tgt := 575) hx hb d_L11_553 (by decide) (fun c9 => ?_) (fun c9 => ?_)
    · have h := ite_t ((oI_eq0 ok163).mp c9) h
      refine lv_iconst (v := oI 0) hx hb d_L11_575 (by decide +kernel) ?_
      refine W.wide (k := c1) (n := s1) (by omega) (by omega) ?_
      obtain ⟨rfl, rfl, rfl⟩ := in3 h
      exact W.zret hx hb hr rfl (fun t ht hW => qkA hP hD hS ad162 (congrArg (fun q => wv z q E162 M162) (adj_self hag0).symm) rfl ht) hS.2.2 d_L11_576
    · have h := ite_f (fun q => c9 ((oI_eq0 ok163).mpr q)) h
      refine lv_lload hx hb d_L11_556 (lv_at hl 3 rfl) ?_
      refine lv_lload hx hb d_L11_558 (lv_at hl 1 rfl) ?_
      obtain ⟨ok164, h⟩ := ck_e h
      obtain ⟨ok165, h⟩ := ck_e h
      refine W.lcmp hx hb d_L11_560 ?_
      refine nrm (cmp_val (a := v162_17) (b := x9) ok164 ok165) ?_
      refine lv_if_ne (tgt := 575) hx hb d_L11_561 (by decide) (fun c9 => ?_) (fun c9 => ?_)
      · have h := ite_f (fun q => c9 ((cmp_eq v162_17 x9).mpr q)) h
        refine lv_iconst (v := oI 0) hx hb d_L11_575 (by decide +kernel) ?_
        refine W.wide (k := c1) (n := s1) (by omega) (by omega) ?_
        obtain ⟨rfl, rfl, rfl⟩ := in3 h
        exact W.zret hx hb hr rfl (fun t ht hW => qkA hP hD hS ad162 (congrArg (fun q => wv z q E162 M162) (adj_self hag0).symm) rfl ht) hS.2.2 d_L11_576
      · have h := ite_t ((cmp_eq v162_17 x9).mp c9) h
        refine lv_aload_n hx hb d_L11_564 rfl (lv_at hl 0 rfl) ?_
        obtain ⟨⟨r166, M166⟩, g166, h⟩ := bd_e h
        refine kV (As := []) (rest := []) (s_B_errors l z ad162 E162 M162 r166 M166 hL g166) hx hb hml hown hts w_576 w_573 w_574 w_575 w_1 md_d65014 ⟨Nat.le_of_ble_eq_true rfl, Nat.le_of_ble_eq_true rfl⟩ hG hZ hP hD hS hA 1 (wv_o (ci := 11) (yi_1 hL) (yt_1 hL)) rfl rfl rfl hl.1 rfl (Nat.le_of_ble_eq_true rfl) d_L11_565 ⟨(show _ ≤ mc by omega), (show _ ≤ ms by omega)⟩ (fun _ H locs hP hD hS => ?_)
        have hP : va_P z.1 classes (wv z ad162 E162 M166) H := hP
        have hD : va_D A (wv z ad162 E162 M166) := hD
        refine W.eq (g2 := F0 m 568 ls [.int (oI r166)]) rfl ?_
        obtain ⟨ok167, h⟩ := ck_e h
        refine lv_if_ne (tgt := 575) hx hb d_L11_568 (by decide) (fun c9 => ?_) (fun c9 => ?_)
        · have h := ite_f (fun q => c9 ((oI_eq0 ok167).mpr q)) h
          refine lv_iconst (v := oI 0) hx hb d_L11_575 (by decide +kernel) ?_
          refine W.wide (k := c1) (n := s1) (by omega) (by omega) ?_
          obtain ⟨rfl, rfl, rfl⟩ := in3 h
          exact W.zret hx hb hr rfl (fun t ht hW => qkA hP hD hS ad162 (congrArg (fun q => wv z q E162 M166) (adj_self hag0).symm) rfl ht) hS.2.2 d_L11_576
        · have h := ite_t ((oI_eq0 ok167).mp c9) h
          refine lv_iconst (v := oI 1) hx hb d_L11_571 (by decide +kernel) ?_
          refine lv_goto (tgt := 576) hx hb d_L11_572 (by decide) ?_
          refine W.wide (k := c1) (n := s1) (by omega) (by omega) ?_
          obtain ⟨rfl, rfl, rfl⟩ := in3 h
          exact W.zret hx hb hr rfl (fun t ht hW => qkA hP hD hS ad162 (congrArg (fun q => wv z q E162 M166) (adj_self hag0).symm) rfl ht) hS.2.2 d_L11_576
