set_option maxRecDepth 100000 in
set_option maxHeartbeats 4000000 in
theorem s_B_countErrors_36 (l : Launch) (z : Zz) (ad : Nat → Nat) (E : Ev) (q1 : Nat) (x2 : Int) {Q : State → Prop} {p : Program} {e : Env} {s : State} {m : MethodId} {below : List Frame} {meth : Method} {c : Code} {A : Nat → Prop} {args : Array Value} (hx : p.tables.exec = Jvm.exec) (hb : c.code = prog_1_method_65_code) (hml : c.maxLocals = 7) (hts : ∀ w ∈ WG, w.before args s = true) (hown : s.vm.findClass "Ballothall" = some m.cls) (hlocks : meth.locks = false) (hA : ∀ q, s.heap.size ≤ q → A q) (hG : KG z s) (hZ : FZ z A s) (hL : Lay E) : ∀ (fu : Nat) (M : Mm) (x3 : Int) (x4 : Int) (t : Nat) (w3 : Int) (w4 : Int) (N : Mm), l_B_countErrors_36 E q1 x2 fu M x3 x4 = some (t, w3, w4, N) → (t = 1 → ∀ (H : Heap) (locs : List Loc) (ls : Array Slot), va_P z.1 classes (wv z ad E N) H → va_D A (wv z ad E N) → va_S A s.heap H locs → lv_has ls 7 [(0, .ref (ad 1)), (1, .ref (ad q1)), (2, .int (oI x2)), (3, .int (oI w3))] → W p l e (rmK 5 130 0 0) s m args below meth c H locs 0 0 Q (F0 m 63 ls [])) → ∀ (H : Heap) (locs : List Loc) (ls : Array Slot), va_P z.1 classes (wv z ad E M) H → va_D A (wv z ad E M) → va_S A s.heap H locs → lv_has ls 7 [(0, .ref (ad 1)), (1, .ref (ad q1)), (2, .int (oI x2)), (3, .int (oI x3)), (4, .int (oI x4))] → W p l e (rmK 5 130 0 0) s m args below meth c H locs 0 0 Q (F0 m 36 ls []) := by
  intro fu
  induction fu with
  | zero =>
    intro M x3 x4 t w3 w4 N h
    have h : (none : Option (Nat × Int × Int × Mm)) = some _ := h
    cases h
  | succ fu ih =>
    intro M x3 x4 t w3 w4 N h k1 H locs ls hP hD hS hl
    obtain ⟨⟨t0, w30, w40, N9⟩, g0, h⟩ := bd_e h
    refine b_B_countErrors_36b l z ad E M q1 x2 x3 x4 t0 w30 w40 N9 hx hb hml hts hown hlocks hA hG hZ hL g0 (fun e0 => ?_) (fun e0 => ?_) H locs ls hP hD hS hl
    · subst e0
      have h := ite_t rfl h
      exact ih N9 w30 w40 t w3 w4 N h k1
    · subst e0
      have h := ite_f (by decide) h
      obtain ⟨rfl, rfl, rfl, rfl⟩ := in4 h
      exact k1 rfl
set_option maxRecDepth 100000 in
set_option maxHeartbeats 4000000 in
theorem b_B_countErrors_j128 (l : Launch) (z : Zz) (ad : Nat → Nat) (E : Ev) (M : Mm) (q1 : Nat) (x2 : Int) (x3 : Int) (x4 : Int) (x5 : Int) (y0 : Int) (t : Nat) (w4 : Int) (w5 : Int) (N : Mm) {Q : State → Prop} {p : Program} {e : Env} {s : State} {m : MethodId} {below : List Frame} {meth : Method} {c : Code} {A : Nat → Prop} {args : Array Value} (hx : p.tables.exec = Jvm.exec) (hb : c.code = prog_1_method_65_code) (hml : c.maxLocals = 7) (hts : ∀ w ∈ WG, w.before args s = true) (hown : s.vm.findClass "Ballothall" = some m.cls) (hlocks : meth.locks = false) (hA : ∀ q, s.heap.size ≤ q → A q) (hG : KG z s) (hZ : FZ z A s) (hL : Lay E) (h : B_countErrors_j128 E M q1 x2 x3 x4 x5 y0 = some (t, w4, w5, N)) (k0 : t = 0 → ∀ (H : Heap) (locs : List Loc) (ls : Array Slot), va_P z.1 classes (wv z ad E N) H → va_D A (wv z ad E N) → va_S A s.heap H locs → lv_has ls 7 [(0, .ref (ad 1)), (1, .ref (ad q1)), (2, .int (oI x2)), (3, .int (oI x3)), (4, .int (oI w4)), (5, .int (oI w5))] → W p l e (rmK 5 130 0 0) s m args below meth c H locs 0 0 Q (F0 m 92 ls [])) (k1 : t = 1 → ∀ (H : Heap) (locs : List Loc) (ls : Array Slot), va_P z.1 classes (wv z ad E N) H → va_D A (wv z ad E N) → va_S A s.heap H locs → lv_has ls 7 [(4, .int (oI w4))] → W p l e (rmK 5 130 0 0) s m args below meth c H locs 0 0 Q (F0 m 153 ls [])) : ∀ (H : Heap) (locs : List Loc) (ls : Array Slot), va_P z.1 classes (wv z ad E M) H → va_D A (wv z ad E M) → va_S A s.heap H locs → lv_has ls 7 [(0, .ref (ad 1)), (1, .ref (ad q1)), (2, .int (oI x2)), (3, .int (oI x3)), (4, .int (oI x4)), (5, .int (oI x5))] → W p l e (rmK 5 130 0 0) s m args below meth c H locs 0 0 Q (F0 m 128 ls [.int (oI y0)]) := by
  intro H locs ls hP hD hS hl
  unfold B_countErrors_j128 at h
  obtain ⟨h_q1, h⟩ := ck_e h
  refine lv_istore (lv' := [(6, .int (oI y0)), (0, .ref (ad 1)), (1, .ref (ad q1)), (2, .int (oI x2)), (3, .int (oI x3)), (4, .int (oI x4)), (5, .int (oI x5))]) hx hb d_1_65_128 hl (by decide) rfl (fun ls hl => ?_)
  refine lv_iload hx hb d_1_65_130 (lv_at hl 0 rfl) ?_
  obtain ⟨ok22, h⟩ := ck_e h
  refine lv_if_eq (tgt := 147) hx hb d_1_65_132 (by decide) (fun c9 => ?_) (fun c9 => ?_)
  · have h := ite_t ((oI_eq0 ok22).mp c9) h
    refine lv_iinc (v := oI (x5 + 1)) (lv' := [(5, .int (oI (x5 + 1))), (6, .int (oI y0)), (0, .ref (ad 1)), (1, .ref (ad q1)), (2, .int (oI x2)), (3, .int (oI x3)), (4, .int (oI x4))]) hx hb d_1_65_147 hl (k := 6) rfl (oI_add x5 1) (by decide) rfl (fun ls hl => ?_)
    refine lv_goto (tgt := 92) hx hb d_1_65_150 (by decide) ?_
    obtain ⟨rfl, rfl, rfl, rfl⟩ := in4 h
    exact k0 rfl H locs ls hP hD hS (lv_sub hl [2, 3, 4, 5, 6, 0] rfl)
  · have h := ite_f (fun q => c9 ((oI_eq0 ok22).mpr q)) h
    refine lv_iload hx hb d_1_65_135 (lv_at hl 6 rfl) ?_
    refine lv_iload_n hx hb d_1_65_137 rfl (lv_at hl 4 rfl) ?_
    refine lv_iconst (v := oI (-1)) hx hb d_1_65_138 (by decide +kernel) ?_
    refine lv_ixor hx hb d_1_65_139 ?_
    refine nrm (oI_not _) ?_
    obtain ⟨ok23, h⟩ := ck_e h
    obtain ⟨ok24, h⟩ := ck_e h
    refine lv_iand hx hb d_1_65_140 ?_
    refine nrm (oI_dif ok23.1 ok23.2 ok24.1 ok24.2) ?_
    refine lv_if_eq (tgt := 147) hx hb d_1_65_141 (by decide) (fun c9 => ?_) (fun c9 => ?_)
    · have h := ite_t ((oI_eq0 (rg_nn (df_nn ok23))).mp c9) h
      refine lv_iinc (v := oI (x5 + 1)) (lv' := [(5, .int (oI (x5 + 1))), (6, .int (oI y0)), (0, .ref (ad 1)), (1, .ref (ad q1)), (2, .int (oI x2)), (3, .int (oI x3)), (4, .int (oI x4))]) hx hb d_1_65_147 hl (k := 6) rfl (oI_add x5 1) (by decide) rfl (fun ls hl => ?_)
      refine lv_goto (tgt := 92) hx hb d_1_65_150 (by decide) ?_
      obtain ⟨rfl, rfl, rfl, rfl⟩ := in4 h
      exact k0 rfl H locs ls hP hD hS (lv_sub hl [2, 3, 4, 5, 6, 0] rfl)
    · have h := ite_f (fun q => c9 ((oI_eq0 (rg_nn (df_nn ok23))).mpr q)) h
      refine lv_iinc (v := oI (x4 + 1)) (lv' := [(4, .int (oI (x4 + 1))), (6, .int (oI y0)), (0, .ref (ad 1)), (1, .ref (ad q1)), (2, .int (oI x2)), (3, .int (oI x3)), (5, .int (oI x5))]) hx hb d_1_65_144 hl (k := 5) rfl (oI_add x4 1) (by decide) rfl (fun ls hl => ?_)
      refine lv_iinc (v := oI (x5 + 1)) (lv' := [(5, .int (oI (x5 + 1))), (4, .int (oI (x4 + 1))), (6, .int (oI y0)), (0, .ref (ad 1)), (1, .ref (ad q1)), (2, .int (oI x2)), (3, .int (oI x3))]) hx hb d_1_65_147 hl (k := 6) rfl (oI_add x5 1) (by decide) rfl (fun ls hl => ?_)
      refine lv_goto (tgt := 92) hx hb d_1_65_150 (by decide) ?_
      obtain ⟨rfl, rfl, rfl, rfl⟩ := in4 h
      exact k0 rfl H locs ls hP hD hS (lv_sub hl [3, 4, 5, 6, 1, 0] rfl)
set_option maxRecDepth 100000 in
set_option maxHeartbeats 4000000 in
theorem b_B_countErrors_92b (l : Launch) (z : Zz) (ad : Nat → Nat) (E : Ev) (M : Mm) (q1 : Nat) (x2 : Int) (x3 : Int) (x4 : Int) (x5 : Int) (t : Nat) (w4 : Int) (w5 : Int) (N : Mm) {Q : State → Prop} {p : Program} {e : Env} {s : State} {m : MethodId} {below : List Frame} {meth : Method} {c : Code} {A : Nat → Prop} {args : Array Value} (hx : p.tables.exec = Jvm.exec) (hb : c.code = prog_1_method_65_code) (hml : c.maxLocals = 7) (hts : ∀ w ∈ WG, w.before args s = true) (hown : s.vm.findClass "Ballothall" = some m.cls) (hlocks : meth.locks = false) (hA : ∀ q, s.heap.size ≤ q → A q) (hG : KG z s) (hZ : FZ z A s) (hL : Lay E) (h : B_countErrors_92b E M q1 x2 x3 x4 x5 = some (t, w4, w5, N)) (k0 : t = 0 → ∀ (H : Heap) (locs : List Loc) (ls : Array Slot), va_P z.1 classes (wv z ad E N) H → va_D A (wv z ad E N) → va_S A s.heap H locs → lv_has ls 7 [(0, .ref (ad 1)), (1, .ref (ad q1)), (2, .int (oI x2)), (3, .int (oI x3)), (4, .int (oI w4)), (5, .int (oI w5))] → W p l e (rmK 5 130 0 0) s m args below meth c H locs 0 0 Q (F0 m 92 ls [])) (k1 : t = 1 → ∀ (H : Heap) (locs : List Loc) (ls : Array Slot), va_P z.1 classes (wv z ad E N) H → va_D A (wv z ad E N) → va_S A s.heap H locs → lv_has ls 7 [(4, .int (oI w4))] → W p l e (rmK 5 130 0 0) s m args below meth c H locs 0 0 Q (F0 m 153 ls [])) : ∀ (H : Heap) (locs : List Loc) (ls : Array Slot), va_P z.1 classes (wv z ad E M) H → va_D A (wv z ad E M) → va_S A s.heap H locs → lv_has ls 7 [(0, .ref (ad 1)), (1, .ref (ad q1)), (2, .int (oI x2)), (3, .int (oI x3)), (4, .int (oI x4)), (5, .int (oI x5))] → W p l e (rmK 5 130 0 0) s m args below meth c H locs 0 0 Q (F0 m 92 ls []) := by
  intro H locs ls hP hD hS hl
  unfold B_countErrors_92b at h
  obtain ⟨h_q1, h⟩ := ck_e h
  refine lv_iload hx hb d_1_65_92 (lv_at hl 5 rfl) ?_
  refine lv_iload_n hx hb d_1_65_94 rfl (lv_at hl 2 rfl) ?_
  obtain ⟨ok13, h⟩ := ck_e h
  obtain ⟨ok14, h⟩ := ck_e h
  refine lv_icmp_gt (tgt := 153) hx hb d_1_65_95 (by decide) (fun c9 => ?_) (fun c9 => ?_)
  · have h := ite_t ((oI_lt (a := x2) (b := x5) ok14 ok13).mp c9) h
    obtain ⟨rfl, rfl, rfl, rfl⟩ := in4 h
    exact k1 rfl H locs ls hP hD hS (lv_sub hl [4] rfl)
  · have h := ite_f (fun q => c9 ((oI_lt (a := x2) (b := x5) ok14 ok13).mpr q)) h
    refine lv_aload_n hx hb d_1_65_98 rfl (lv_at hl 0 rfl) ?_
    refine m_gr (j := 2) (C := "Ballothall") (T := TX11) (N := 14) (ci := 11) (k := 0) hx hb hts iX11 hown hG hP (yi_1 hL) (yt_1 hL) rfl (by decide) w_397 (fun _ h9 => h9) rfl rfl (yr_1_0 hL) d_1_65_99 ?_
    refine m_grN (j := 40) (C := "Ballothall$BallotBox") (T := TX0) (N := 10) (ci := 0) (k := 9) hx hb hts iX0 hown hG hP (yi_2 hL) (yt_2 hL) rfl (by decide) n_78 rfl (fun _ h9 => h9) rfl rfl (yr_2_9 hL) d_1_65_102 ?_
    refine lv_iload hx hb d_1_65_105 (lv_at hl 5 rfl) ?_
    obtain ⟨ok15, h⟩ := ck_e h
    refine m_ia hx hb hG hP (yi_40 hL) (yt_40 hL) ok15 d_1_65_107 ?_
    refine lv_aload_n hx hb d_1_65_108 rfl (lv_at hl 1 rfl) ?_
    refine m_giN (C := "Ballothall$Count") (T := TX2) (N := 10) (ci := 2) (k := 0) hx hb hts iX2 hown hG hP (isCt_i h_q1) (isCt_T h_q1) rfl (by decide) n_1080 rfl (fun _ h9 => h9) rfl rfl d_1_65_109 ?_
    obtain ⟨ok16, h⟩ := ck_e h
    obtain ⟨ok17, h⟩ := ck_e h
    refine lv_idiv hx hb d_1_65_112 (oI_nz ok17.1 ok17.2) ?_
    refine nrm (oI_div (a := (M 40 x5.toNat)) (b := (M q1 0)) ok16.1 ok16.2 ok17.1 ok17.2) ?_
    refine lv_iload hx hb d_1_65_113 (lv_at hl 5 rfl) ?_
    refine lv_iload_n hx hb d_1_65_115 rfl (lv_at hl 3 rfl) ?_
    obtain ⟨ok18, h⟩ := ck_e h
    refine lv_iand hx hb d_1_65_116 ?_
    refine nrm (oI_and (a := x5) (b := x3) (inb_nn ok15).1 (inb_nn ok15).2 ok18.1 ok18.2) ?_
    obtain ⟨r19, g19, h⟩ := bd_e h
    refine kS (As := [.int (oI (andI x5 x3))]) (rest := [.int (oI ((M 40 x5.toNat) / (M q1 0)))]) (s_In_bitCount l z ad E M (andI x5 x3) r19 hL g19) hx hb hml hown hts w_657 w_655 w_656 w_30 md_eafe8c ⟨Nat.le_of_ble_eq_true rfl, Nat.le_of_ble_eq_true rfl⟩ hG hZ hP hD hS hA rfl hl.1 rfl (Nat.le_of_ble_eq_true rfl) d_1_65_117 ⟨Nat.le_of_ble_eq_true rfl, Nat.le_of_ble_eq_true rfl⟩ (fun _ H locs hP hD hS => ?_)
    have hP : va_P z.1 classes (wv z ad E M) H := hP
    have hD : va_D A (wv z ad E M) := hD
    refine W.eq (g2 := F0 m 120 ls [.int (oI r19), .int (oI ((M 40 x5.toNat) / (M q1 0)))]) rfl ?_
    obtain ⟨ok20, h⟩ := ck_e h
    obtain ⟨ok21, h⟩ := ck_e h
    refine lv_icmp_le (tgt := 127) hx hb d_1_65_120 (by decide) (fun c9 => ?_) (fun c9 => ?_)
    · have h := ite_t ((oI_le (a := ((M 40 x5.toNat) / (M q1 0))) (b := r19) ok20 ok21).mp c9) h
      refine lv_iconst (v := oI 0) hx hb d_1_65_127 (by decide +kernel) ?_
      exact b_B_countErrors_j128 l z ad E M q1 x2 x3 x4 x5 0 t w4 w5 N hx hb hml hts hown hlocks hA hG hZ hL h k0 k1 H locs ls hP hD hS (lv_sub hl [0, 1, 2, 3, 4, 5] rfl)
    · have h := ite_f (fun q => c9 ((oI_le (a := ((M 40 x5.toNat) / (M q1 0))) (b := r19) ok20 ok21).mpr q)) h
      refine lv_iconst (v := oI 1) hx hb d_1_65_123 (by decide +kernel) ?_
      refine lv_goto (tgt := 128) hx hb d_1_65_124 (by decide) ?_
      exact b_B_countErrors_j128 l z ad E M q1 x2 x3 x4 x5 1 t w4 w5 N hx hb hml hts hown hlocks hA hG hZ hL h k0 k1 H locs ls hP hD hS (lv_sub hl [0, 1, 2, 3, 4, 5] rfl)
set_option maxRecDepth 100000 in
set_option maxHeartbeats 4000000 in
theorem s_B_countErrors_92 (l : Launch) (z : Zz) (ad : Nat → Nat) (E : Ev) (q1 : Nat) (x2 : Int) (x3 : Int) {Q : State → Prop} {p : Program} {e : Env} {s : State} {m : MethodId} {below : List Frame} {meth : Method} {c : Code} {A : Nat → Prop} {args : Array Value} (hx : p.tables.exec = Jvm.exec) (hb : c.code = prog_1_method_65_code) (hml : c.maxLocals = 7) (hts : ∀ w ∈ WG, w.before args s = true) (hown : s.vm.findClass "Ballothall" = some m.cls) (hlocks : meth.locks = false) (hA : ∀ q, s.heap.size ≤ q → A q) (hG : KG z s) (hZ : FZ z A s) (hL : Lay E) : ∀ (fu : Nat) (M : Mm) (x4 : Int) (x5 : Int) (t : Nat) (w4 : Int) (w5 : Int) (N : Mm), l_B_countErrors_92 E q1 x2 x3 fu M x4 x5 = some (t, w4, w5, N) → (t = 1 → ∀ (H : Heap) (locs : List Loc) (ls : Array Slot), va_P z.1 classes (wv z ad E N) H → va_D A (wv z ad E N) → va_S A s.heap H locs → lv_has ls 7 [(4, .int (oI w4))] → W p l e (rmK 5 130 0 0) s m args below meth c H locs 0 0 Q (F0 m 153 ls [])) → ∀ (H : Heap) (locs : List Loc) (ls : Array Slot), va_P z.1 classes (wv z ad E M) H → va_D A (wv z ad E M) → va_S A s.heap H locs → lv_has ls 7 [(0, .ref (ad 1)), (1, .ref (ad q1)), (2, .int (oI x2)), (3, .int (oI x3)), (4, .int (oI x4)), (5, .int (oI x5))] → W p l e (rmK 5 130 0 0) s m args below meth c H locs 0 0 Q (F0 m 92 ls []) := by
  intro fu
  induction fu with
  | zero =>
    intro M x4 x5 t w4 w5 N h
    have h : (none : Option (Nat × Int × Int × Mm)) = some _ := h
    cases h
  | succ fu ih =>
    intro M x4 x5 t w4 w5 N h k1 H locs ls hP hD hS hl
    obtain ⟨⟨t0, w40, w50, N9⟩, g0, h⟩ := bd_e h
    refine b_B_countErrors_92b l z ad E M q1 x2 x3 x4 x5 t0 w40 w50 N9 hx hb hml hts hown hlocks hA hG hZ hL g0 (fun e0 => ?_) (fun e0 => ?_) H locs ls hP hD hS hl
    · subst e0
      have h := ite_t rfl h
      exact ih N9 w40 w50 t w4 w5 N h k1
    · subst e0
      have h := ite_f (by decide) h
      obtain ⟨rfl, rfl, rfl, rfl⟩ := in4 h
      exact k1 rfl
set_option maxRecDepth 100000 in
set_option maxHeartbeats 4000000 in
theorem s_B_countErrors (l : Launch) (z : Zz) (ad : Nat → Nat) (E : Ev) (M : Mm) (r : Int) (N : Mm) (hL : Lay E) (h : f_B_countErrors E M = some (r, N)) : CT l z ⟨"Ballothall", "countErrors", "()I"⟩ prog_1_method_65_code 7 (some .int) [.ref (ad 1)] (wv z ad E M) 5 130 0 0 (fun _ => some (.int (oI r))) (fun _ => (wv z ad E N)) := by
  refine CT.of (own := "Ballothall") (by decide +kernel) (Nat.le_of_ble_eq_true rfl) rfl (fun p e s m below meth c A ls hx hb hml hr hts hown hlocks hin hA hG hZ hP hD hS hl => ?_)
  have hl : lv_has ls 7 [(0, .ref (ad 1))] := hl
  have key : ∀ (H : Heap) (locs : List Loc) (args : Array Value), (∀ w ∈ WG, w.before args s = true) → va_P z.1 classes (wv z ad E M) H → va_S A s.heap H locs → W p l e (rmK 5 130 0 0) s m args below meth c H locs 0 0 (MQ below (QK z A (fun _ => some (.int (oI r))) (fun _ => (wv z ad E N))) args s 0 0 A) (F0 m 0 ls []) := by
    intro H locs args hts hP hS
    unfold f_B_countErrors at h
    refine lv_aload_n hx hb d_1_65_0 rfl (lv_at hl 0 rfl) ?_
    refine m_gr (j := 179) (C := "Ballothall") (T := TX11) (N := 14) (ci := 11) (k := 4) hx hb hts iX11 hown hG hP (yi_1 hL) (yt_1 hL) rfl (by decide) w_401 (fun _ h9 => h9) rfl rfl (yr_1_4 hL) d_1_65_1 ?_
    obtain ⟨r0, g0, h⟩ := bd_e h
    refine kVN (As := []) (rest := []) (s_Co_latest l z ad E M r0 hL g0) hx hb hml hown hts w_596 n_593 w_595 w_s_ad1675 w_8 md_6f7cc1 ⟨Nat.le_of_ble_eq_true rfl, Nat.le_of_ble_eq_true rfl⟩ hG hZ hP hD hS hA 179 (wv_o (ci := 3) (yi_179 hL) (yt_179 hL)) rfl rfl rfl hl.1 rfl (Nat.le_of_ble_eq_true rfl) d_1_65_4 ⟨Nat.le_of_ble_eq_true rfl, Nat.le_of_ble_eq_true rfl⟩ (fun _ H locs hP hD hS => ?_)
    have hP : va_P z.1 classes (wv z ad E M) H := hP
    have hD : va_D A (wv z ad E M) := hD
    cases r0 with
    | none =>
      refine W.eq (g2 := F0 m 7 ls [.null]) rfl ?_
      refine lv_astore_nN (lv' := [(1, .null), (0, .ref (ad 1))]) hx hb d_1_65_7 rfl hl (by decide) rfl (fun ls hl => ?_)
      refine lv_aload_nN hx hb d_1_65_8 rfl (lv_at hl 0 rfl) ?_
      refine lv_ifnullN (tgt := 20) hx hb d_1_65_9 (by decide) ?_
      refine lv_iconst (v := oI 0) hx hb d_1_65_20 (by decide +kernel) ?_
      obtain ⟨rfl, rfl⟩ := in2 h
      exact W.iret hx hb hr (fun t ht hW => qkA hP hD hS (fun k => k) rfl rfl ht) hS.2.2 d_1_65_21
    | some p0 =>
      obtain ⟨h_p0, h⟩ := ck_e h
      refine W.eq (g2 := F0 m 7 ls [.ref (ad p0)]) rfl ?_
      refine lv_astore_n (lv' := [(1, .ref (ad p0)), (0, .ref (ad 1))]) hx hb d_1_65_7 rfl hl (by decide) rfl (fun ls hl => ?_)
      refine lv_aload_n hx hb d_1_65_8 rfl (lv_at hl 0 rfl) ?_
      refine lv_ifnull hx hb d_1_65_9 ?_
      refine lv_aload_n hx hb d_1_65_12 rfl (lv_at hl 0 rfl) ?_
      refine m_giN (C := "Ballothall$Count") (T := TX2) (N := 10) (ci := 2) (k := 0) hx hb hts iX2 hown hG hP (isCt_i h_p0) (isCt_T h_p0) rfl (by decide) n_1080 rfl (fun _ h9 => h9) rfl rfl d_1_65_13 ?_
      refine lv_iconst (v := oI 1) hx hb d_1_65_16 (by decide +kernel) ?_
      obtain ⟨ok1, h⟩ := ck_e h
      refine lv_icmp_ge (tgt := 22) hx hb d_1_65_17 (by decide) (fun c9 => ?_) (fun c9 => ?_)
      · have h := ite_t ((oI_le (a := (1 : Int)) (b := (M p0 0)) (by decide) ok1).mp c9) h
        refine lv_iconst (v := oI 1) hx hb d_1_65_22 (by decide +kernel) ?_
        refine lv_aload_n hx hb d_1_65_23 rfl (lv_at hl 0 rfl) ?_
        refine m_giN (C := "Ballothall$Count") (T := TX2) (N := 10) (ci := 2) (k := 1) hx hb hts iX2 hown hG hP (isCt_i h_p0) (isCt_T h_p0) rfl (by decide) n_1082 rfl (fun _ h9 => h9) rfl rfl d_1_65_24 ?_
        obtain ⟨ok2, h⟩ := ck_e h
        refine lv_ishl hx hb d_1_65_27 ?_
        refine nrm (oI_one_shl ok2) ?_
        refine lv_iconst (v := oI 1) hx hb d_1_65_28 (by decide +kernel) ?_
        refine lv_isub hx hb d_1_65_29 ?_
        refine nrm (oI_sub _ _) ?_
        refine lv_istore_n (lv' := [(2, .int (oI ((2 ^ (M p0 1).toNat) - 1))), (1, .ref (ad p0)), (0, .ref (ad 1))]) hx hb d_1_65_30 rfl hl (by decide) rfl (fun ls hl => ?_)
        refine lv_iconst (v := oI 0) hx hb d_1_65_31 (by decide +kernel) ?_
        refine lv_istore_n (lv' := [(3, .int (oI 0)), (2, .int (oI ((2 ^ (M p0 1).toNat) - 1))), (1, .ref (ad p0)), (0, .ref (ad 1))]) hx hb d_1_65_32 rfl hl (by decide) rfl (fun ls hl => ?_)
        refine lv_iconst (v := oI 0) hx hb d_1_65_33 (by decide +kernel) ?_
        refine lv_istore (lv' := [(4, .int (oI 0)), (3, .int (oI 0)), (2, .int (oI ((2 ^ (M p0 1).toNat) - 1))), (1, .ref (ad p0)), (0, .ref (ad 1))]) hx hb d_1_65_34 hl (by decide) rfl (fun ls hl => ?_)
        obtain ⟨⟨t10, v10_3, v10_4, M10⟩, g10, h⟩ := bd_e h
        obtain ⟨ok10, h⟩ := ck_e h
        refine s_B_countErrors_36 l z ad E p0 ((2 ^ (M p0 1).toNat) - 1) hx hb hml hts hown hlocks hA hG hZ hL FU M 0 0 t10 v10_3 v10_4 M10 g10 (fun e10 H locs ls hP hD hS hl => ?_) H locs ls hP hD hS (lv_sub hl [4, 3, 2, 1, 0] rfl)
        refine lv_aload_n hx hb d_1_65_63 rfl (lv_at hl 0 rfl) ?_
        refine m_gr (j := 179) (C := "Ballothall") (T := TX11) (N := 14) (ci := 11) (k := 4) hx hb hts iX11 hown hG hP (yi_1 hL) (yt_1 hL) rfl (by decide) w_401 (fun _ h9 => h9) rfl rfl (yr_1_4 hL) d_1_65_64 ?_
        refine lv_aload_n hx hb d_1_65_67 rfl (lv_at hl 1 rfl) ?_
        obtain ⟨⟨r11, M11⟩, g11, h⟩ := bd_e h
        refine kVN (As := [.ref (ad p0)]) (rest := []) (s_Co_unbalancedSteps l z ad E M10 p0 r11 M11 hL g11) hx hb hml hown hts w_600 n_597 w_599 w_s_1f3306 w_8 md_8638f0 ⟨Nat.le_of_ble_eq_true rfl, Nat.le_of_ble_eq_true rfl⟩ hG hZ hP hD hS hA 179 (wv_o (ci := 3) (yi_179 hL) (yt_179 hL)) rfl rfl rfl hl.1 rfl (Nat.le_of_ble_eq_true rfl) d_1_65_68 ⟨Nat.le_of_ble_eq_true rfl, Nat.le_of_ble_eq_true rfl⟩ (fun _ H locs hP hD hS => ?_)
        have hP : va_P z.1 classes (wv z ad E M11) H := hP
        have hD : va_D A (wv z ad E M11) := hD
        refine W.eq (g2 := F0 m 71 ls [.int (oI r11)]) rfl ?_
        refine lv_istore (lv' := [(4, .int (oI r11)), (0, .ref (ad 1)), (1, .ref (ad p0)), (2, .int (oI ((2 ^ (M p0 1).toNat) - 1))), (3, .int (oI v10_3))]) hx hb d_1_65_71 hl (by decide) rfl (fun ls hl => ?_)
        refine lv_aload_n hx hb d_1_65_73 rfl (lv_at hl 1 rfl) ?_
        refine m_gr (j := 2) (C := "Ballothall") (T := TX11) (N := 14) (ci := 11) (k := 0) hx hb hts iX11 hown hG hP (yi_1 hL) (yt_1 hL) rfl (by decide) w_397 (fun _ h9 => h9) rfl rfl (yr_1_0 hL) d_1_65_74 ?_
        refine lv_aload_n hx hb d_1_65_77 rfl (lv_at hl 2 rfl) ?_
        refine m_grN (j := (p0 + 1)) (C := "Ballothall$Count") (T := TX2) (N := 10) (ci := 2) (k := 6) hx hb hts iX2 hown hG hP (isCt_i h_p0) (isCt_T h_p0) rfl (by decide) n_1092 rfl (fun _ h9 => h9) rfl rfl (isCt_r6 h_p0) d_1_65_78 ?_
        refine lv_aload_n hx hb d_1_65_81 rfl (lv_at hl 2 rfl) ?_
        refine m_giN (C := "Ballothall$Count") (T := TX2) (N := 10) (ci := 2) (k := 2) hx hb hts iX2 hown hG hP (isCt_i h_p0) (isCt_T h_p0) rfl (by decide) n_1084 rfl (fun _ h9 => h9) rfl rfl d_1_65_82 ?_
        refine lv_iload_n hx hb d_1_65_85 rfl (lv_at hl 3 rfl) ?_
        obtain ⟨M12, g12, h⟩ := bd_e h
        refine kVN (As := [.ref (ad (p0 + 1)), .int (oI (M11 p0 2)), .int (oI ((2 ^ (M p0 1).toNat) - 1))]) (rest := []) (s_Bx_findSupport l z ad E M11 (p0 + 1) (M11 p0 2) ((2 ^ (M p0 1).toNat) - 1) M12 hL g12) hx hb hml hown hts w_650 n_647 w_649 w_s_0b6f71 w_2 md_c007fa ⟨Nat.le_of_ble_eq_true rfl, Nat.le_of_ble_eq_true rfl⟩ hG hZ hP hD hS hA 2 (wv_o (ci := 0) (yi_2 hL) (yt_2 hL)) rfl rfl rfl hl.1 rfl (Nat.le_of_ble_eq_true rfl) d_1_65_86 ⟨Nat.le_of_ble_eq_true rfl, Nat.le_of_ble_eq_true rfl⟩ (fun _ H locs hP hD hS => ?_)
        have hP : va_P z.1 classes (wv z ad E M12) H := hP
        have hD : va_D A (wv z ad E M12) := hD
        refine W.eq (g2 := F0 m 89 ls []) rfl ?_
        refine lv_iconst (v := oI 1) hx hb d_1_65_89 (by decide +kernel) ?_
        refine lv_istore (lv' := [(5, .int (oI 1)), (4, .int (oI r11)), (0, .ref (ad 1)), (1, .ref (ad p0)), (2, .int (oI ((2 ^ (M p0 1).toNat) - 1))), (3, .int (oI v10_3))]) hx hb d_1_65_90 hl (by decide) rfl (fun ls hl => ?_)
        obtain ⟨⟨t25, v25_4, v25_5, M25⟩, g25, h⟩ := bd_e h
        obtain ⟨ok25, h⟩ := ck_e h
        refine s_B_countErrors_92 l z ad E p0 ((2 ^ (M p0 1).toNat) - 1) v10_3 hx hb hml hts hown hlocks hA hG hZ hL FU M12 r11 1 t25 v25_4 v25_5 M25 g25 (fun e25 H locs ls hP hD hS hl => ?_) H locs ls hP hD hS (lv_sub hl [2, 3, 4, 5, 1, 0] rfl)
        refine lv_iload hx hb d_1_65_153 (lv_at hl 0 rfl) ?_
        obtain ⟨rfl, rfl⟩ := in2 h
        exact W.iret hx hb hr (fun t ht hW => qkA hP hD hS (fun k => k) rfl rfl ht) hS.2.2 d_1_65_155
      · have h := ite_f (fun q => c9 ((oI_le (a := (1 : Int)) (b := (M p0 0)) (by decide) ok1).mpr q)) h
        refine lv_iconst (v := oI 0) hx hb d_1_65_20 (by decide +kernel) ?_
        obtain ⟨rfl, rfl⟩ := in2 h
        exact W.iret hx hb hr (fun t ht hW => qkA hP hD hS (fun k => k) rfl rfl ht) hS.2.2 d_1_65_21
  exact key _ _ _ hts hP hS
set_option maxRecDepth 100000 in
set_option maxHeartbeats 4000000 in
theorem s_B_countOf (l : Launch) (z : Zz) (ad : Nat → Nat) (E : Ev) (M : Mm) (x1 : Int) (r : Int)  (hL : Lay E) (h : f_B_countOf E M x1 = some r) : CT l z ⟨"Ballothall", "countOf", "(I)I"⟩ prog_1_method_7_code 2 (some .int) [.ref (ad 1), .int (oI x1)] (wv z ad E M) 1 41 0 0 (fun _ => some (.int (oI r))) (fun _ => (wv z ad E M)) := by
  refine CT.of (own := "Ballothall") (by decide +kernel) (Nat.le_of_ble_eq_true rfl) rfl (fun p e s m below meth c A ls hx hb hml hr hts hown hlocks hin hA hG hZ hP hD hS hl => ?_)
  have hl : lv_has ls 2 [(0, .ref (ad 1)), (1, .int (oI x1))] := hl
  have key : ∀ (H : Heap) (locs : List Loc) (args : Array Value), (∀ w ∈ WG, w.before args s = true) → va_P z.1 classes (wv z ad E M) H → va_S A s.heap H locs → W p l e (rmK 1 41 0 0) s m args below meth c H locs 0 0 (MQ below (QK z A (fun _ => some (.int (oI r))) (fun _ => (wv z ad E M))) args s 0 0 A) (F0 m 0 ls []) := by
    intro H locs args hts hP hS
    unfold f_B_countOf at h
    refine lv_iload_n hx hb d_1_7_0 rfl (lv_at hl 1 rfl) ?_
    refine lv_aload_n hx hb d_1_7_1 rfl (lv_at hl 0 rfl) ?_
    refine m_gr (j := 2) (C := "Ballothall") (T := TX11) (N := 14) (ci := 11) (k := 0) hx hb hts iX11 hown hG hP (yi_1 hL) (yt_1 hL) rfl (by decide) w_397 (fun _ h9 => h9) rfl rfl (yr_1_0 hL) d_1_7_2 ?_
    refine m_giN (C := "Ballothall$BallotBox") (T := TX0) (N := 10) (ci := 0) (k := 3) hx hb hts iX0 hown hG hP (yi_2 hL) (yt_2 hL) rfl (by decide) n_58 rfl (fun _ h9 => h9) rfl rfl d_1_7_5 ?_
    obtain ⟨_, g0, h⟩ := bd_e h
    refine kS (As := [.int (oI x1), .int (oI (M 2 3))]) (rest := []) (s_B_needIndex l z ad E M x1 (M 2 3) hL g0) hx hb hml hown hts w_529 w_527 w_528 w_1 md_6cb26b ⟨Nat.le_of_ble_eq_true rfl, Nat.le_of_ble_eq_true rfl⟩ hG hZ hP hD hS hA rfl hl.1 rfl (Nat.le_of_ble_eq_true rfl) d_1_7_8 ⟨Nat.le_of_ble_eq_true rfl, Nat.le_of_ble_eq_true rfl⟩ (fun _ H locs hP hD hS => ?_)
    have hP : va_P z.1 classes (wv z ad E M) H := hP
    have hD : va_D A (wv z ad E M) := hD
    refine W.eq (g2 := F0 m 11 ls []) rfl ?_
    refine lv_aload_n hx hb d_1_7_11 rfl (lv_at hl 0 rfl) ?_
    refine m_gr (j := 2) (C := "Ballothall") (T := TX11) (N := 14) (ci := 11) (k := 0) hx hb hts iX11 hown hG hP (yi_1 hL) (yt_1 hL) rfl (by decide) w_397 (fun _ h9 => h9) rfl rfl (yr_1_0 hL) d_1_7_12 ?_
    refine m_grN (j := 5) (C := "Ballothall$BallotBox") (T := TX0) (N := 10) (ci := 0) (k := 5) hx hb hts iX0 hown hG hP (yi_2 hL) (yt_2 hL) rfl (by decide) n_66 rfl (fun _ h9 => h9) rfl rfl (yr_2_5 hL) d_1_7_15 ?_
    refine lv_iload_n hx hb d_1_7_18 rfl (lv_at hl 1 rfl) ?_
    obtain ⟨ok1, h⟩ := ck_e h
    refine m_ia hx hb hG hP (yi_5 hL) (yt_5 hL) ok1 d_1_7_19 ?_
    obtain rfl := in1 h
    exact W.iret hx hb hr (fun t ht hW => qkA hP hD hS (fun k => k) rfl rfl ht) hS.2.2 d_1_7_20
  exact key _ _ _ hts hP hS
set_option maxRecDepth 100000 in
set_option maxHeartbeats 4000000 in
theorem s_Wa_greatestBehind (l : Launch) (z : Zz) (ad : Nat → Nat) (E : Ev) (M : Mm) (x1 : Int) (x2 : Int) (r : Int)  (hL : Lay E) (h : f_Wa_greatestBehind E M x1 x2 = some r) : CT l z ⟨"Ballothall$Wards", "greatestBehind", "(II)I"⟩ prog_12_method_5_code 3 (some .int) [.ref (ad 219), .int (oI x1), .int (oI x2)] (wv z ad E M) 0 20 0 0 (fun _ => some (.int (oI r))) (fun _ => (wv z ad E M)) := by
  refine CT.of (own := "Ballothall$Wards") (by decide +kernel) (Nat.le_of_ble_eq_true rfl) rfl (fun p e s m below meth c A ls hx hb hml hr hts hown hlocks hin hA hG hZ hP hD hS hl => ?_)
  have hl : lv_has ls 3 [(0, .ref (ad 219)), (1, .int (oI x1)), (2, .int (oI x2))] := hl
  have key : ∀ (H : Heap) (locs : List Loc) (args : Array Value), (∀ w ∈ WG, w.before args s = true) → va_P z.1 classes (wv z ad E M) H → va_S A s.heap H locs → W p l e (rmK 0 20 0 0) s m args below meth c H locs 0 0 (MQ below (QK z A (fun _ => some (.int (oI r))) (fun _ => (wv z ad E M))) args s 0 0 A) (F0 m 0 ls []) := by
    intro H locs args hts hP hS
    unfold f_Wa_greatestBehind at h
    refine lv_iload_n hx hb d_12_5_0 rfl (lv_at hl 1 rfl) ?_
    refine lv_iconst (v := oI 1) hx hb d_12_5_1 (by decide +kernel) ?_
    refine lv_iadd hx hb d_12_5_2 ?_
    refine nrm (oI_add _ _) ?_
    refine lv_aload_n hx hb d_12_5_3 rfl (lv_at hl 0 rfl) ?_
    refine m_gi (C := "Ballothall$Wards") (T := TX10) (N := 5) (ci := 10) (k := 0) hx hb hts iX10 hown hG hP (yi_219 hL) (yt_219 hL) rfl (by decide) w_358 (fun _ h9 => h9) rfl rfl d_12_5_4 ?_
    obtain ⟨ok0, h⟩ := ck_e h
    obtain ⟨ok1, h⟩ := ck_e h
    refine lv_icmp_ge (tgt := 33) hx hb d_12_5_7 (by decide) (fun c9 => ?_) (fun c9 => ?_)
    · have h := ite_t ((oI_le (a := (M 219 0)) (b := (x1 + 1)) ok1 ok0).mp c9) h
      refine lv_iconst (v := oI 0) hx hb d_12_5_33 (by decide +kernel) ?_
      obtain rfl := in1 h
      exact W.iret hx hb hr (fun t ht hW => qkA hP hD hS (fun k => k) rfl rfl ht) hS.2.2 d_12_5_34
    · have h := ite_f (fun q => c9 ((oI_le (a := (M 219 0)) (b := (x1 + 1)) ok1 ok0).mpr q)) h
      refine lv_iload_n hx hb d_12_5_10 rfl (lv_at hl 2 rfl) ?_
      refine lv_iconst (v := oI 1) hx hb d_12_5_11 (by decide +kernel) ?_
      obtain ⟨ok2, h⟩ := ck_e h
      refine lv_icmp_le (tgt := 30) hx hb d_12_5_12 (by decide) (fun c9 => ?_) (fun c9 => ?_)
      · have h := ite_t ((oI_le (a := x2) (b := (1 : Int)) ok2 (by decide)).mp c9) h
        refine lv_ldc hx hb hown (hts _ w_1626) d_12_5_30 ?_
        refine nrm (x1 := oI 1600001) (by decide +kernel) ?_
        obtain rfl := in1 h
        exact W.iret hx hb hr (fun t ht hW => qkA hP hD hS (fun k => k) rfl rfl ht) hS.2.2 d_12_5_32
      · have h := ite_f (fun q => c9 ((oI_le (a := x2) (b := (1 : Int)) ok2 (by decide)).mpr q)) h
        refine lv_aload_n hx hb d_12_5_15 rfl (lv_at hl 0 rfl) ?_
        refine m_gr (j := 224) (C := "Ballothall$Wards") (T := TX10) (N := 5) (ci := 10) (k := 3) hx hb hts iX10 hown hG hP (yi_219 hL) (yt_219 hL) rfl (by decide) w_362 (fun _ h9 => h9) rfl rfl (yr_219_3 hL) d_12_5_16 ?_
        refine lv_iload_n hx hb d_12_5_19 rfl (lv_at hl 2 rfl) ?_
        refine lv_iconst (v := oI 1) hx hb d_12_5_20 (by decide +kernel) ?_
        refine lv_isub hx hb d_12_5_21 ?_
        refine nrm (oI_sub _ _) ?_
        obtain ⟨ok3, h⟩ := ck_e h
        refine m_ar (k := (225 + (x2 - 1).toNat)) hx hb hG hP (yi_224 hL) (yt_224 hL) ok3 (ya_224 hL (inb_lt ok3)) d_12_5_22 ?_
        refine lv_iload_n hx hb d_12_5_23 rfl (lv_at hl 1 rfl) ?_
        refine lv_iconst (v := oI 1) hx hb d_12_5_24 (by decide +kernel) ?_
        refine lv_iadd hx hb d_12_5_25 ?_
        refine nrm (oI_add _ _) ?_
        obtain ⟨ok4, h⟩ := ck_e h
        refine m_ia hx hb hG hP (yg_224 hL ok3).1 (yg_224 hL ok3).2 ok4 d_12_5_26 ?_
        refine lv_goto (tgt := 32) hx hb d_12_5_27 (by decide) ?_
        obtain rfl := in1 h
        exact W.iret hx hb hr (fun t ht hW => qkA hP hD hS (fun k => k) rfl rfl ht) hS.2.2 d_12_5_32
  exact key _ _ _ hts hP hS
set_option maxRecDepth 100000 in
set_option maxHeartbeats 4000000 in
theorem b_Wa_greatestOf_9b (l : Launch) (z : Zz) (ad : Nat → Nat) (E : Ev) (M : Mm) (x1 : Int) (x3 : Int) (x4 : Int) (x5 : Int) (t : Nat) (w3 : Int) (w4 : Int) (w5 : Int)  {Q : State → Prop} {p : Program} {e : Env} {s : State} {m : MethodId} {below : List Frame} {meth : Method} {c : Code} {A : Nat → Prop} {args : Array Value} (hx : p.tables.exec = Jvm.exec) (hb : c.code = prog_12_method_4_code) (hml : c.maxLocals = 6) (hts : ∀ w ∈ WG, w.before args s = true) (hown : s.vm.findClass "Ballothall$Wards" = some m.cls) (hlocks : meth.locks = false) (hA : ∀ q, s.heap.size ≤ q → A q) (hG : KG z s) (hZ : FZ z A s) (hL : Lay E) (h : Wa_greatestOf_9b E M x1 x3 x4 x5 = some (t, w3, w4, w5)) (k0 : t = 0 → ∀ (H : Heap) (locs : List Loc) (ls : Array Slot), va_P z.1 classes (wv z ad E M) H → va_D A (wv z ad E M) → va_S A s.heap H locs → lv_has ls 6 [(0, .ref (ad 219)), (1, .int (oI x1)), (3, .int (oI w3)), (4, .int (oI w4)), (5, .int (oI w5))] → W p l e (rmK 1 42 0 0) s m args below meth c H locs 0 0 Q (F0 m 9 ls [])) (k1 : t = 1 → ∀ (H : Heap) (locs : List Loc) (ls : Array Slot), va_P z.1 classes (wv z ad E M) H → va_D A (wv z ad E M) → va_S A s.heap H locs → lv_has ls 6 [(3, .int (oI w3))] → W p l e (rmK 1 42 0 0) s m args below meth c H locs 0 0 Q (F0 m 55 ls [])) : ∀ (H : Heap) (locs : List Loc) (ls : Array Slot), va_P z.1 classes (wv z ad E M) H → va_D A (wv z ad E M) → va_S A s.heap H locs → lv_has ls 6 [(0, .ref (ad 219)), (1, .int (oI x1)), (3, .int (oI x3)), (4, .int (oI x4)), (5, .int (oI x5))] → W p l e (rmK 1 42 0 0) s m args below meth c H locs 0 0 Q (F0 m 9 ls []) := by
  intro H locs ls hP hD hS hl
  unfold Wa_greatestOf_9b at h
  refine lv_iload hx hb d_12_4_9 (lv_at hl 4 rfl) ?_
  refine lv_aload_n hx hb d_12_4_11 rfl (lv_at hl 0 rfl) ?_
  refine m_gi (C := "Ballothall$Wards") (T := TX10) (N := 5) (ci := 10) (k := 0) hx hb hts iX10 hown hG hP (yi_219 hL) (yt_219 hL) rfl (by decide) w_358 (fun _ h9 => h9) rfl rfl d_12_4_12 ?_
  refine lv_iload_n hx hb d_12_4_15 rfl (lv_at hl 1 rfl) ?_
  refine lv_isub hx hb d_12_4_16 ?_
  refine nrm (oI_sub _ _) ?_
  obtain ⟨ok0, h⟩ := ck_e h
  obtain ⟨ok1, h⟩ := ck_e h
  refine lv_icmp_gt (tgt := 55) hx hb d_12_4_17 (by decide) (fun c9 => ?_) (fun c9 => ?_)
  · have h := ite_t ((oI_lt (a := ((M 219 0) - x1)) (b := x5) ok1 ok0).mp c9) h
    obtain ⟨rfl, rfl, rfl, rfl⟩ := in4 h
    exact k1 rfl H locs ls hP hD hS (lv_sub hl [2] rfl)
  · have h := ite_f (fun q => c9 ((oI_lt (a := ((M 219 0) - x1)) (b := x5) ok1 ok0).mpr q)) h
    refine lv_iload hx hb d_12_4_20 (lv_at hl 3 rfl) ?_
    refine lv_aload_n hx hb d_12_4_22 rfl (lv_at hl 0 rfl) ?_
    refine m_gr (j := 220) (C := "Ballothall$Wards") (T := TX10) (N := 5) (ci := 10) (k := 1) hx hb hts iX10 hown hG hP (yi_219 hL) (yt_219 hL) rfl (by decide) w_360 (fun _ h9 => h9) rfl rfl (yr_219_1 hL) d_12_4_23 ?_
    refine lv_iload hx hb d_12_4_26 (lv_at hl 4 rfl) ?_
    obtain ⟨ok2, h⟩ := ck_e h
    refine m_ia hx hb hG hP (yi_220 hL) (yt_220 hL) ok2 d_12_4_28 ?_
    refine lv_iadd hx hb d_12_4_29 ?_
    refine nrm (oI_add _ _) ?_
    refine lv_istore (lv' := [(4, .int (oI (x4 + (M 220 x5.toNat)))), (0, .ref (ad 219)), (1, .int (oI x1)), (3, .int (oI x3)), (5, .int (oI x5))]) hx hb d_12_4_30 hl (by decide) rfl (fun ls hl => ?_)
    refine lv_iload_n hx hb d_12_4_32 rfl (lv_at hl 3 rfl) ?_
    refine lv_iload hx hb d_12_4_33 (lv_at hl 0 rfl) ?_
    refine lv_aload_n hx hb d_12_4_35 rfl (lv_at hl 1 rfl) ?_
    refine lv_iload hx hb d_12_4_36 (lv_at hl 4 rfl) ?_
    refine lv_iload_n hx hb d_12_4_38 rfl (lv_at hl 2 rfl) ?_
    obtain ⟨r3, g3, h⟩ := bd_e h
    refine kV (As := [.int (oI x5), .int (oI x1)]) (rest := [.int (oI (x4 + (M 220 x5.toNat))), .int (oI x3)]) (s_Wa_greatestBehind l z ad E M x5 x1 r3 hL g3) hx hb hml hown hts w_1630 w_1627 w_1629 w_s_f89072 w_10 md_2a0790 ⟨Nat.le_of_ble_eq_true rfl, Nat.le_of_ble_eq_true rfl⟩ hG hZ hP hD hS hA 219 (wv_o (ci := 10) (yi_219 hL) (yt_219 hL)) rfl rfl rfl hl.1 rfl (Nat.le_of_ble_eq_true rfl) d_12_4_39 ⟨Nat.le_of_ble_eq_true rfl, Nat.le_of_ble_eq_true rfl⟩ (fun _ H locs hP hD hS => ?_)
    have hP : va_P z.1 classes (wv z ad E M) H := hP
    have hD : va_D A (wv z ad E M) := hD
    refine W.eq (g2 := F0 m 42 ls [.int (oI r3), .int (oI (x4 + (M 220 x5.toNat))), .int (oI x3)]) rfl ?_
    obtain ⟨ok4, h⟩ := ck_e h
    obtain ⟨ok5, h⟩ := ck_e h
    refine va_mmax hx hb (by rw [hml]; exact hl.1.symm) hown (hts _ w_1631) (hts _ w_632) (hts _ w_17) (hts _ w_max) (Nat.le_of_ble_eq_true rfl) (Nat.le_of_ble_eq_true rfl) (Nat.le_of_ble_eq_true rfl) (Nat.le_of_ble_eq_true rfl) d_12_4_42 ?_
    refine nrm (mx_oI (a := (x4 + (M 220 x5.toNat))) (b := r3) ok4 ok5) ?_
    obtain ⟨v6, e6, h⟩ := nb_e h
    refine nrm (congrArg oI e6.symm) ?_
    obtain ⟨ok7, h⟩ := ck_e h
    refine va_mmin hx hb (by rw [hml]; exact hl.1.symm) hown (hts _ w_1632) (hts _ w_521) (hts _ w_17) (hts _ w_min) (Nat.le_of_ble_eq_true rfl) (Nat.le_of_ble_eq_true rfl) (Nat.le_of_ble_eq_true rfl) (Nat.le_of_ble_eq_true rfl) d_12_4_45 ?_
    refine nrm (mn_oI (a := x3) (b := v6) ok7 (e6 ▸ (rg_max (x := (x4 + (M 220 x5.toNat))) (y := r3) ok4 ok5))) ?_
    refine lv_istore_n (lv' := [(3, .int (oI (min x3 v6))), (4, .int (oI (x4 + (M 220 x5.toNat)))), (0, .ref (ad 219)), (1, .int (oI x1)), (5, .int (oI x5))]) hx hb d_12_4_48 rfl hl (by decide) rfl (fun ls hl => ?_)
    refine lv_iinc (v := oI (x5 + 1)) (lv' := [(5, .int (oI (x5 + 1))), (3, .int (oI (min x3 v6))), (4, .int (oI (x4 + (M 220 x5.toNat)))), (0, .ref (ad 219)), (1, .int (oI x1))]) hx hb d_12_4_49 hl (k := 4) rfl (oI_add x5 1) (by decide) rfl (fun ls hl => ?_)
    refine lv_goto (tgt := 9) hx hb d_12_4_52 (by decide) ?_
    obtain ⟨rfl, rfl, rfl, rfl⟩ := in4 h
    exact k0 rfl H locs ls hP hD hS (lv_sub hl [3, 4, 1, 2, 0] rfl)
set_option maxRecDepth 100000 in
set_option maxHeartbeats 4000000 in
theorem s_Wa_greatestOf_9 (l : Launch) (z : Zz) (ad : Nat → Nat) (E : Ev) (x1 : Int) {Q : State → Prop} {p : Program} {e : Env} {s : State} {m : MethodId} {below : List Frame} {meth : Method} {c : Code} {A : Nat → Prop} {args : Array Value} (hx : p.tables.exec = Jvm.exec) (hb : c.code = prog_12_method_4_code) (hml : c.maxLocals = 6) (hts : ∀ w ∈ WG, w.before args s = true) (hown : s.vm.findClass "Ballothall$Wards" = some m.cls) (hlocks : meth.locks = false) (hA : ∀ q, s.heap.size ≤ q → A q) (hG : KG z s) (hZ : FZ z A s) (hL : Lay E) : ∀ (fu : Nat) (M : Mm) (x3 : Int) (x4 : Int) (x5 : Int) (t : Nat) (w3 : Int) (w4 : Int) (w5 : Int), l_Wa_greatestOf_9 E x1 fu M x3 x4 x5 = some (t, w3, w4, w5) → (t = 1 → ∀ (H : Heap) (locs : List Loc) (ls : Array Slot), va_P z.1 classes (wv z ad E M) H → va_D A (wv z ad E M) → va_S A s.heap H locs → lv_has ls 6 [(3, .int (oI w3))] → W p l e (rmK 1 42 0 0) s m args below meth c H locs 0 0 Q (F0 m 55 ls [])) → ∀ (H : Heap) (locs : List Loc) (ls : Array Slot), va_P z.1 classes (wv z ad E M) H → va_D A (wv z ad E M) → va_S A s.heap H locs → lv_has ls 6 [(0, .ref (ad 219)), (1, .int (oI x1)), (3, .int (oI x3)), (4, .int (oI x4)), (5, .int (oI x5))] → W p l e (rmK 1 42 0 0) s m args below meth c H locs 0 0 Q (F0 m 9 ls []) := by
  intro fu
  induction fu with
  | zero =>
    intro M x3 x4 x5 t w3 w4 w5 h
    have h : (none : Option (Nat × Int × Int × Int)) = some _ := h
    cases h
  | succ fu ih =>
    intro M x3 x4 x5 t w3 w4 w5 h k1 H locs ls hP hD hS hl
    obtain ⟨⟨t0, w30, w40, w50⟩, g0, h⟩ := bd_e h
    refine b_Wa_greatestOf_9b l z ad E M x1 x3 x4 x5 t0 w30 w40 w50 hx hb hml hts hown hlocks hA hG hZ hL g0 (fun e0 => ?_) (fun e0 => ?_) H locs ls hP hD hS hl
    · subst e0
      have h := ite_t rfl h
      exact ih M w30 w40 w50 t w3 w4 w5 h k1
    · subst e0
      have h := ite_f (by decide) h
      obtain ⟨rfl, rfl, rfl, rfl⟩ := in4 h
      exact k1 rfl
set_option maxRecDepth 100000 in
set_option maxHeartbeats 4000000 in
theorem s_Wa_greatestOf (l : Launch) (z : Zz) (ad : Nat → Nat) (E : Ev) (M : Mm) (x1 : Int) (x2 : Int) (r : Int)  (hL : Lay E) (h : f_Wa_greatestOf E M x1 x2 = some r) : CT l z ⟨"Ballothall$Wards", "greatestOf", "(II)I"⟩ prog_12_method_4_code 6 (some .int) [.ref (ad 219), .int (oI x1), .int (oI x2)] (wv z ad E M) 1 42 0 0 (fun _ => some (.int (oI r))) (fun _ => (wv z ad E M)) := by
  refine CT.of (own := "Ballothall$Wards") (by decide +kernel) (Nat.le_of_ble_eq_true rfl) rfl (fun p e s m below meth c A ls hx hb hml hr hts hown hlocks hin hA hG hZ hP hD hS hl => ?_)
  have hl : lv_has ls 6 [(0, .ref (ad 219)), (1, .int (oI x1)), (2, .int (oI x2))] := hl
  have key : ∀ (H : Heap) (locs : List Loc) (args : Array Value), (∀ w ∈ WG, w.before args s = true) → va_P z.1 classes (wv z ad E M) H → va_S A s.heap H locs → W p l e (rmK 1 42 0 0) s m args below meth c H locs 0 0 (MQ below (QK z A (fun _ => some (.int (oI r))) (fun _ => (wv z ad E M))) args s 0 0 A) (F0 m 0 ls []) := by
    intro H locs args hts hP hS
    unfold f_Wa_greatestOf at h
    refine lv_ldc hx hb hown (hts _ w_1626) d_12_4_0 ?_
    refine nrm (x1 := oI 1600001) (by decide +kernel) ?_
    refine lv_istore_n (lv' := [(3, .int (oI 1600001)), (0, .ref (ad 219)), (1, .int (oI x1)), (2, .int (oI x2))]) hx hb d_12_4_2 rfl hl (by decide) rfl (fun ls hl => ?_)
    refine lv_iconst (v := oI 0) hx hb d_12_4_3 (by decide +kernel) ?_
    refine lv_istore (lv' := [(4, .int (oI 0)), (3, .int (oI 1600001)), (0, .ref (ad 219)), (1, .int (oI x1)), (2, .int (oI x2))]) hx hb d_12_4_4 hl (by decide) rfl (fun ls hl => ?_)
    refine lv_iload_n hx hb d_12_4_6 rfl (lv_at hl 4 rfl) ?_
    refine lv_istore (lv' := [(5, .int (oI x2)), (4, .int (oI 0)), (3, .int (oI 1600001)), (0, .ref (ad 219)), (1, .int (oI x1)), (2, .int (oI x2))]) hx hb d_12_4_7 hl (by decide) rfl (fun ls hl => ?_)
    obtain ⟨⟨t8, v8_3, v8_4, v8_5⟩, g8, h⟩ := bd_e h
    obtain ⟨ok8, h⟩ := ck_e h
    refine s_Wa_greatestOf_9 l z ad E x1 hx hb hml hts hown hlocks hA hG hZ hL FU M 1600001 0 x2 t8 v8_3 v8_4 v8_5 g8 (fun e8 H locs ls hP hD hS hl => ?_) H locs ls hP hD hS (lv_sub hl [3, 4, 2, 1, 0] rfl)
    refine lv_iload_n hx hb d_12_4_55 rfl (lv_at hl 0 rfl) ?_
    obtain rfl := in1 h
    exact W.iret hx hb hr (fun t ht hW => qkA hP hD hS (fun k => k) rfl rfl ht) hS.2.2 d_12_4_56
  exact key _ _ _ hts hP hS
set_option maxRecDepth 100000 in
set_option maxHeartbeats 4000000 in
theorem b_Wa_firstEnd_3b (l : Launch) (z : Zz) (ad : Nat → Nat) (E : Ev) (M : Mm) (x2 : Int) (x3 : Int) (x4 : Int) (t : Nat) (w4 : Int)  {Q : State → Prop} {p : Program} {e : Env} {s : State} {m : MethodId} {below : List Frame} {meth : Method} {c : Code} {A : Nat → Prop} {args : Array Value} (hx : p.tables.exec = Jvm.exec) (hb : c.code = prog_12_method_6_code) (hml : c.maxLocals = 5) (hts : ∀ w ∈ WG, w.before args s = true) (hown : s.vm.findClass "Ballothall$Wards" = some m.cls) (hlocks : meth.locks = false) (hA : ∀ q, s.heap.size ≤ q → A q) (hG : KG z s) (hZ : FZ z A s) (hL : Lay E) (h : Wa_firstEnd_3b E M x2 x3 x4 = some (t, w4)) (k0 : t = 0 → ∀ (H : Heap) (locs : List Loc) (ls : Array Slot), va_P z.1 classes (wv z ad E M) H → va_D A (wv z ad E M) → va_S A s.heap H locs → lv_has ls 5 [(0, .ref (ad 219)), (2, .int (oI x2)), (3, .int (oI x3)), (4, .int (oI w4))] → W p l e (rmK 1 42 0 0) s m args below meth c H locs 0 0 Q (F0 m 3 ls [])) (k1 : t = 1 → ∀ (H : Heap) (locs : List Loc) (ls : Array Slot), va_P z.1 classes (wv z ad E M) H → va_D A (wv z ad E M) → va_S A s.heap H locs → lv_has ls 5 [(4, .int (oI w4))] → W p l e (rmK 1 42 0 0) s m args below meth c H locs 0 0 Q (F0 m 31 ls [])) : ∀ (H : Heap) (locs : List Loc) (ls : Array Slot), va_P z.1 classes (wv z ad E M) H → va_D A (wv z ad E M) → va_S A s.heap H locs → lv_has ls 5 [(0, .ref (ad 219)), (2, .int (oI x2)), (3, .int (oI x3)), (4, .int (oI x4))] → W p l e (rmK 1 42 0 0) s m args below meth c H locs 0 0 Q (F0 m 3 ls []) := by
  intro H locs ls hP hD hS hl
  unfold Wa_firstEnd_3b at h
  refine lv_iload hx hb d_12_6_3 (lv_at hl 3 rfl) ?_
  refine lv_aload_n hx hb d_12_6_5 rfl (lv_at hl 0 rfl) ?_
  refine m_gi (C := "Ballothall$Wards") (T := TX10) (N := 5) (ci := 10) (k := 0) hx hb hts iX10 hown hG hP (yi_219 hL) (yt_219 hL) rfl (by decide) w_358 (fun _ h9 => h9) rfl rfl d_12_6_6 ?_
  refine lv_iload_n hx hb d_12_6_9 rfl (lv_at hl 1 rfl) ?_
  refine lv_isub hx hb d_12_6_10 ?_
  refine nrm (oI_sub _ _) ?_
  obtain ⟨ok0, h⟩ := ck_e h
  obtain ⟨ok1, h⟩ := ck_e h
  refine lv_icmp_ge (tgt := 31) hx hb d_12_6_11 (by decide) (fun c9 => ?_) (fun c9 => ?_)
  · have h := ite_t ((oI_le (a := ((M 219 0) - x2)) (b := x4) ok1 ok0).mp c9) h
    obtain ⟨rfl, rfl⟩ := in2 h
    exact k1 rfl H locs ls hP hD hS (lv_sub hl [3] rfl)
  · have h := ite_f (fun q => c9 ((oI_le (a := ((M 219 0) - x2)) (b := x4) ok1 ok0).mpr q)) h
    refine lv_aload_n hx hb d_12_6_14 rfl (lv_at hl 0 rfl) ?_
    refine lv_iload hx hb d_12_6_15 (lv_at hl 3 rfl) ?_
    refine lv_iload_n hx hb d_12_6_17 rfl (lv_at hl 1 rfl) ?_
    obtain ⟨r2, g2, h⟩ := bd_e h
    refine kV (As := [.int (oI x4), .int (oI x2)]) (rest := []) (s_Wa_greatestBehind l z ad E M x4 x2 r2 hL g2) hx hb hml hown hts w_1630 w_1627 w_1629 w_s_f89072 w_10 md_2a0790 ⟨Nat.le_of_ble_eq_true rfl, Nat.le_of_ble_eq_true rfl⟩ hG hZ hP hD hS hA 219 (wv_o (ci := 10) (yi_219 hL) (yt_219 hL)) rfl rfl rfl hl.1 rfl (Nat.le_of_ble_eq_true rfl) d_12_6_18 ⟨Nat.le_of_ble_eq_true rfl, Nat.le_of_ble_eq_true rfl⟩ (fun _ H locs hP hD hS => ?_)
    have hP : va_P z.1 classes (wv z ad E M) H := hP
    have hD : va_D A (wv z ad E M) := hD
    refine W.eq (g2 := F0 m 21 ls [.int (oI r2)]) rfl ?_
    refine lv_iload_n hx hb d_12_6_21 rfl (lv_at hl 2 rfl) ?_
    obtain ⟨ok3, h⟩ := ck_e h
    obtain ⟨ok4, h⟩ := ck_e h
    refine lv_icmp_le (tgt := 31) hx hb d_12_6_22 (by decide) (fun c9 => ?_) (fun c9 => ?_)
    · have h := ite_t ((oI_le (a := r2) (b := x3) ok3 ok4).mp c9) h
      obtain ⟨rfl, rfl⟩ := in2 h
      exact k1 rfl H locs ls hP hD hS (lv_sub hl [3] rfl)
    · have h := ite_f (fun q => c9 ((oI_le (a := r2) (b := x3) ok3 ok4).mpr q)) h
      refine lv_iinc (v := oI (x4 + 1)) (lv' := [(4, .int (oI (x4 + 1))), (0, .ref (ad 219)), (2, .int (oI x2)), (3, .int (oI x3))]) hx hb d_12_6_25 hl (k := 3) rfl (oI_add x4 1) (by decide) rfl (fun ls hl => ?_)
      refine lv_goto (tgt := 3) hx hb d_12_6_28 (by decide) ?_
      obtain ⟨rfl, rfl⟩ := in2 h
      exact k0 rfl H locs ls hP hD hS (lv_sub hl [1, 2, 3, 0] rfl)
set_option maxRecDepth 100000 in
set_option maxHeartbeats 4000000 in
theorem s_Wa_firstEnd_3 (l : Launch) (z : Zz) (ad : Nat → Nat) (E : Ev) (x2 : Int) (x3 : Int) {Q : State → Prop} {p : Program} {e : Env} {s : State} {m : MethodId} {below : List Frame} {meth : Method} {c : Code} {A : Nat → Prop} {args : Array Value} (hx : p.tables.exec = Jvm.exec) (hb : c.code = prog_12_method_6_code) (hml : c.maxLocals = 5) (hts : ∀ w ∈ WG, w.before args s = true) (hown : s.vm.findClass "Ballothall$Wards" = some m.cls) (hlocks : meth.locks = false) (hA : ∀ q, s.heap.size ≤ q → A q) (hG : KG z s) (hZ : FZ z A s) (hL : Lay E) : ∀ (fu : Nat) (M : Mm) (x4 : Int) (t : Nat) (w4 : Int), l_Wa_firstEnd_3 E x2 x3 fu M x4 = some (t, w4) → (t = 1 → ∀ (H : Heap) (locs : List Loc) (ls : Array Slot), va_P z.1 classes (wv z ad E M) H → va_D A (wv z ad E M) → va_S A s.heap H locs → lv_has ls 5 [(4, .int (oI w4))] → W p l e (rmK 1 42 0 0) s m args below meth c H locs 0 0 Q (F0 m 31 ls [])) → ∀ (H : Heap) (locs : List Loc) (ls : Array Slot), va_P z.1 classes (wv z ad E M) H → va_D A (wv z ad E M) → va_S A s.heap H locs → lv_has ls 5 [(0, .ref (ad 219)), (2, .int (oI x2)), (3, .int (oI x3)), (4, .int (oI x4))] → W p l e (rmK 1 42 0 0) s m args below meth c H locs 0 0 Q (F0 m 3 ls []) := by
  intro fu
  induction fu with
  | zero =>
    intro M x4 t w4 h
    have h : (none : Option (Nat × Int)) = some _ := h
    cases h
  | succ fu ih =>
    intro M x4 t w4 h k1 H locs ls hP hD hS hl
    obtain ⟨⟨t0, w40⟩, g0, h⟩ := bd_e h
    refine b_Wa_firstEnd_3b l z ad E M x2 x3 x4 t0 w40 hx hb hml hts hown hlocks hA hG hZ hL g0 (fun e0 => ?_) (fun e0 => ?_) H locs ls hP hD hS hl
    · subst e0
      have h := ite_t rfl h
      exact ih M w40 t w4 h k1
    · subst e0
      have h := ite_f (by decide) h
      obtain ⟨rfl, rfl⟩ := in2 h
      exact k1 rfl
set_option maxRecDepth 100000 in
set_option maxHeartbeats 4000000 in
theorem s_Wa_firstEnd (l : Launch) (z : Zz) (ad : Nat → Nat) (E : Ev) (M : Mm) (x1 : Int) (x2 : Int) (x3 : Int) (r : Int)  (hL : Lay E) (h : f_Wa_firstEnd E M x1 x2 x3 = some r) : CT l z ⟨"Ballothall$Wards", "firstEnd", "(III)I"⟩ prog_12_method_6_code 5 (some .int) [.ref (ad 219), .int (oI x1), .int (oI x2), .int (oI x3)] (wv z ad E M) 1 42 0 0 (fun _ => some (.int (oI r))) (fun _ => (wv z ad E M)) := by
  refine CT.of (own := "Ballothall$Wards") (by decide +kernel) (Nat.le_of_ble_eq_true rfl) rfl (fun p e s m below meth c A ls hx hb hml hr hts hown hlocks hin hA hG hZ hP hD hS hl => ?_)
  have hl : lv_has ls 5 [(0, .ref (ad 219)), (1, .int (oI x1)), (2, .int (oI x2)), (3, .int (oI x3))] := hl
  have key : ∀ (H : Heap) (locs : List Loc) (args : Array Value), (∀ w ∈ WG, w.before args s = true) → va_P z.1 classes (wv z ad E M) H → va_S A s.heap H locs → W p l e (rmK 1 42 0 0) s m args below meth c H locs 0 0 (MQ below (QK z A (fun _ => some (.int (oI r))) (fun _ => (wv z ad E M))) args s 0 0 A) (F0 m 0 ls []) := by
    intro H locs args hts hP hS
    unfold f_Wa_firstEnd at h
    refine lv_iload_n hx hb d_12_6_0 rfl (lv_at hl 1 rfl) ?_
    refine lv_istore (lv' := [(4, .int (oI x1)), (0, .ref (ad 219)), (1, .int (oI x1)), (2, .int (oI x2)), (3, .int (oI x3))]) hx hb d_12_6_1 hl (by decide) rfl (fun ls hl => ?_)
    obtain ⟨⟨t5, v5_4⟩, g5, h⟩ := bd_e h
    obtain ⟨ok5, h⟩ := ck_e h
    refine s_Wa_firstEnd_3 l z ad E x2 x3 hx hb hml hts hown hlocks hA hG hZ hL FU M x1 t5 v5_4 g5 (fun e5 H locs ls hP hD hS hl => ?_) H locs ls hP hD hS (lv_sub hl [1, 3, 4, 0] rfl)
    refine lv_iload hx hb d_12_6_31 (lv_at hl 0 rfl) ?_
    obtain rfl := in1 h
    exact W.iret hx hb hr (fun t ht hW => qkA hP hD hS (fun k => k) rfl rfl ht) hS.2.2 d_12_6_33
  exact key _ _ _ hts hP hS
set_option maxRecDepth 100000 in
set_option maxHeartbeats 4000000 in
theorem b_Wa_divide_9b (l : Launch) (z : Zz) (ad : Nat → Nat) (E : Ev) (M : Mm) (x1 : Int) (x2 : Int) (x3 : Int) (t : Nat) (w3 : Int) (N : Mm) {Q : State → Prop} {p : Program} {e : Env} {s : State} {m : MethodId} {below : List Frame} {meth : Method} {c : Code} {A : Nat → Prop} {args : Array Value} (hx : p.tables.exec = Jvm.exec) (hb : c.code = prog_12_method_3_code) (hml : c.maxLocals = 5) (hts : ∀ w ∈ WG, w.before args s = true) (hown : s.vm.findClass "Ballothall$Wards" = some m.cls) (hlocks : meth.locks = false) (hA : ∀ q, s.heap.size ≤ q → A q) (hG : KG z s) (hZ : FZ z A s) (hL : Lay E) (h : Wa_divide_9b E M x1 x2 x3 = some (t, w3, N)) (k0 : t = 0 → ∀ (H : Heap) (locs : List Loc) (ls : Array Slot), va_P z.1 classes (wv z ad E N) H → va_D A (wv z ad E N) → va_S A s.heap H locs → lv_has ls 5 [(0, .ref (ad 219)), (1, .int (oI x1)), (2, .int (oI x2)), (3, .int (oI w3))] → W p l e (rmK 2 67 0 0) s m args below meth c H locs 0 0 Q (F0 m 9 ls [])) (k1 : t = 1 → ∀ (H : Heap) (locs : List Loc) (ls : Array Slot), va_P z.1 classes (wv z ad E N) H → va_D A (wv z ad E N) → va_S A s.heap H locs → lv_has ls 5 [(0, .ref (ad 219)), (1, .int (oI x1)), (2, .int (oI x2))] → W p l e (rmK 2 67 0 0) s m args below meth c H locs 0 0 Q (F0 m 39 ls [])) : ∀ (H : Heap) (locs : List Loc) (ls : Array Slot), va_P z.1 classes (wv z ad E M) H → va_D A (wv z ad E M) → va_S A s.heap H locs → lv_has ls 5 [(0, .ref (ad 219)), (1, .int (oI x1)), (2, .int (oI x2)), (3, .int (oI x3))] → W p l e (rmK 2 67 0 0) s m args below meth c H locs 0 0 Q (F0 m 9 ls []) := by
  intro H locs ls hP hD hS hl
  unfold Wa_divide_9b at h
  refine lv_iload_n hx hb d_12_3_9 rfl (lv_at hl 3 rfl) ?_
  refine lv_aload_n hx hb d_12_3_10 rfl (lv_at hl 0 rfl) ?_
  refine m_gi (C := "Ballothall$Wards") (T := TX10) (N := 5) (ci := 10) (k := 0) hx hb hts iX10 hown hG hP (yi_219 hL) (yt_219 hL) rfl (by decide) w_358 (fun _ h9 => h9) rfl rfl d_12_3_11 ?_
  refine lv_iload_n hx hb d_12_3_14 rfl (lv_at hl 2 rfl) ?_
  refine lv_isub hx hb d_12_3_15 ?_
  refine nrm (oI_sub _ _) ?_
  obtain ⟨ok2, h⟩ := ck_e h
  obtain ⟨ok3, h⟩ := ck_e h
  refine lv_icmp_gt (tgt := 39) hx hb d_12_3_16 (by decide) (fun c9 => ?_) (fun c9 => ?_)
  · have h := ite_t ((oI_lt (a := ((M 219 0) - x2)) (b := x3) ok3 ok2).mp c9) h
    obtain ⟨rfl, rfl, rfl⟩ := in3 h
    exact k1 rfl H locs ls hP hD hS (lv_sub hl [0, 1, 2] rfl)
  · have h := ite_f (fun q => c9 ((oI_lt (a := ((M 219 0) - x2)) (b := x3) ok3 ok2).mpr q)) h
    refine lv_aload_n hx hb d_12_3_19 rfl (lv_at hl 0 rfl) ?_
    refine m_gr (j := 224) (C := "Ballothall$Wards") (T := TX10) (N := 5) (ci := 10) (k := 3) hx hb hts iX10 hown hG hP (yi_219 hL) (yt_219 hL) rfl (by decide) w_362 (fun _ h9 => h9) rfl rfl (yr_219_3 hL) d_12_3_20 ?_
    refine lv_iload_n hx hb d_12_3_23 rfl (lv_at hl 2 rfl) ?_
    obtain ⟨ok4, h⟩ := ck_e h
    refine m_ar (k := (225 + x2.toNat)) hx hb hG hP (yi_224 hL) (yt_224 hL) ok4 (ya_224 hL (inb_lt ok4)) d_12_3_24 ?_
    refine lv_iload_n hx hb d_12_3_25 rfl (lv_at hl 3 rfl) ?_
    refine lv_aload_n hx hb d_12_3_26 rfl (lv_at hl 0 rfl) ?_
    refine lv_iload_n hx hb d_12_3_27 rfl (lv_at hl 2 rfl) ?_
    refine lv_iload_n hx hb d_12_3_28 rfl (lv_at hl 3 rfl) ?_
    obtain ⟨r5, g5, h⟩ := bd_e h
    refine kV (As := [.int (oI x2), .int (oI x3)]) (rest := [.int (oI x3), .ref (ad (225 + x2.toNat))]) (s_Wa_greatestOf l z ad E M x2 x3 r5 hL g5) hx hb hml hown hts w_1625 w_1622 w_1624 w_s_3f5817 w_10 md_a55e97 ⟨Nat.le_of_ble_eq_true rfl, Nat.le_of_ble_eq_true rfl⟩ hG hZ hP hD hS hA 219 (wv_o (ci := 10) (yi_219 hL) (yt_219 hL)) rfl rfl rfl hl.1 rfl (Nat.le_of_ble_eq_true rfl) d_12_3_29 ⟨Nat.le_of_ble_eq_true rfl, Nat.le_of_ble_eq_true rfl⟩ (fun _ H locs hP hD hS => ?_)
    have hP : va_P z.1 classes (wv z ad E M) H := hP
    have hD : va_D A (wv z ad E M) := hD
    refine W.eq (g2 := F0 m 32 ls [.int (oI r5), .int (oI x3), .ref (ad (225 + x2.toNat))]) rfl ?_
    obtain ⟨ok6, h⟩ := ck_e h
    refine m_is hx hb hG hP hD hS (yg_224 hL ok4).1 (yg_224 hL ok4).2 ok6 d_12_3_32 (fun H locs hP hD hS => ?_)
    have hP : va_P z.1 classes (wv z ad E (u2 M (225 + x2.toNat) x3.toNat r5)) H := hP
    have hD : va_D A (wv z ad E (u2 M (225 + x2.toNat) x3.toNat r5)) := hD
    refine lv_iinc (v := oI (x3 + 1)) (lv' := [(3, .int (oI (x3 + 1))), (0, .ref (ad 219)), (1, .int (oI x1)), (2, .int (oI x2))]) hx hb d_12_3_33 hl (k := 3) rfl (oI_add x3 1) (by decide) rfl (fun ls hl => ?_)
    refine lv_goto (tgt := 9) hx hb d_12_3_36 (by decide) ?_
    obtain ⟨rfl, rfl, rfl⟩ := in3 h
    exact k0 rfl H locs ls hP hD hS (lv_sub hl [1, 2, 3, 0] rfl)
set_option maxRecDepth 100000 in
set_option maxHeartbeats 4000000 in
theorem s_Wa_divide_9 (l : Launch) (z : Zz) (ad : Nat → Nat) (E : Ev) (x1 : Int) (x2 : Int) {Q : State → Prop} {p : Program} {e : Env} {s : State} {m : MethodId} {below : List Frame} {meth : Method} {c : Code} {A : Nat → Prop} {args : Array Value} (hx : p.tables.exec = Jvm.exec) (hb : c.code = prog_12_method_3_code) (hml : c.maxLocals = 5) (hts : ∀ w ∈ WG, w.before args s = true) (hown : s.vm.findClass "Ballothall$Wards" = some m.cls) (hlocks : meth.locks = false) (hA : ∀ q, s.heap.size ≤ q → A q) (hG : KG z s) (hZ : FZ z A s) (hL : Lay E) : ∀ (fu : Nat) (M : Mm) (x3 : Int) (t : Nat) (w3 : Int) (N : Mm), l_Wa_divide_9 E x1 x2 fu M x3 = some (t, w3, N) → (t = 1 → ∀ (H : Heap) (locs : List Loc) (ls : Array Slot), va_P z.1 classes (wv z ad E N) H → va_D A (wv z ad E N) → va_S A s.heap H locs → lv_has ls 5 [(0, .ref (ad 219)), (1, .int (oI x1)), (2, .int (oI x2))] → W p l e (rmK 2 67 0 0) s m args below meth c H locs 0 0 Q (F0 m 39 ls [])) → ∀ (H : Heap) (locs : List Loc) (ls : Array Slot), va_P z.1 classes (wv z ad E M) H → va_D A (wv z ad E M) → va_S A s.heap H locs → lv_has ls 5 [(0, .ref (ad 219)), (1, .int (oI x1)), (2, .int (oI x2)), (3, .int (oI x3))] → W p l e (rmK 2 67 0 0) s m args below meth c H locs 0 0 Q (F0 m 9 ls []) := by
  intro fu
  induction fu with
  | zero =>
    intro M x3 t w3 N h
    have h : (none : Option (Nat × Int × Mm)) = some _ := h
    cases h
  | succ fu ih =>
    intro M x3 t w3 N h k1 H locs ls hP hD hS hl
    obtain ⟨⟨t0, w30, N9⟩, g0, h⟩ := bd_e h
    refine b_Wa_divide_9b l z ad E M x1 x2 x3 t0 w30 N9 hx hb hml hts hown hlocks hA hG hZ hL g0 (fun e0 => ?_) (fun e0 => ?_) H locs ls hP hD hS hl
    · subst e0
      have h := ite_t rfl h
      exact ih N9 w30 t w3 N h k1
    · subst e0
      have h := ite_f (by decide) h
      obtain ⟨rfl, rfl, rfl⟩ := in3 h
      exact k1 rfl
set_option maxRecDepth 100000 in
set_option maxHeartbeats 4000000 in
theorem b_Wa_divide_2b (l : Launch) (z : Zz) (ad : Nat → Nat) (E : Ev) (M : Mm) (x1 : Int) (x2 : Int) (t : Nat) (w2 : Int) (N : Mm) {Q : State → Prop} {p : Program} {e : Env} {s : State} {m : MethodId} {below : List Frame} {meth : Method} {c : Code} {A : Nat → Prop} {args : Array Value} (hx : p.tables.exec = Jvm.exec) (hb : c.code = prog_12_method_3_code) (hml : c.maxLocals = 5) (hts : ∀ w ∈ WG, w.before args s = true) (hown : s.vm.findClass "Ballothall$Wards" = some m.cls) (hlocks : meth.locks = false) (hA : ∀ q, s.heap.size ≤ q → A q) (hG : KG z s) (hZ : FZ z A s) (hL : Lay E) (h : Wa_divide_2b E M x1 x2 = some (t, w2, N)) (k0 : t = 0 → ∀ (H : Heap) (locs : List Loc) (ls : Array Slot), va_P z.1 classes (wv z ad E N) H → va_D A (wv z ad E N) → va_S A s.heap H locs → lv_has ls 5 [(0, .ref (ad 219)), (1, .int (oI x1)), (2, .int (oI w2))] → W p l e (rmK 2 67 0 0) s m args below meth c H locs 0 0 Q (F0 m 2 ls [])) (k1 : t = 1 → ∀ (H : Heap) (locs : List Loc) (ls : Array Slot), va_P z.1 classes (wv z ad E N) H → va_D A (wv z ad E N) → va_S A s.heap H locs → lv_has ls 5 [(0, .ref (ad 219)), (1, .int (oI x1))] → W p l e (rmK 2 67 0 0) s m args below meth c H locs 0 0 Q (F0 m 45 ls [])) : ∀ (H : Heap) (locs : List Loc) (ls : Array Slot), va_P z.1 classes (wv z ad E M) H → va_D A (wv z ad E M) → va_S A s.heap H locs → lv_has ls 5 [(0, .ref (ad 219)), (1, .int (oI x1)), (2, .int (oI x2))] → W p l e (rmK 2 67 0 0) s m args below meth c H locs 0 0 Q (F0 m 2 ls []) := by
  intro H locs ls hP hD hS hl
  unfold Wa_divide_2b at h
  refine lv_iload_n hx hb d_12_3_2 rfl (lv_at hl 2 rfl) ?_
  refine lv_iload_n hx hb d_12_3_3 rfl (lv_at hl 1 rfl) ?_
  obtain ⟨ok0, h⟩ := ck_e h
  obtain ⟨ok1, h⟩ := ck_e h
  refine lv_icmp_gt (tgt := 45) hx hb d_12_3_4 (by decide) (fun c9 => ?_) (fun c9 => ?_)
  · have h := ite_t ((oI_lt (a := x1) (b := x2) ok1 ok0).mp c9) h
    obtain ⟨rfl, rfl, rfl⟩ := in3 h
    exact k1 rfl H locs ls hP hD hS (lv_sub hl [0, 1] rfl)
  · have h := ite_f (fun q => c9 ((oI_lt (a := x1) (b := x2) ok1 ok0).mpr q)) h
    refine lv_iconst (v := oI 0) hx hb d_12_3_7 (by decide +kernel) ?_
    refine lv_istore_n (lv' := [(3, .int (oI 0)), (0, .ref (ad 219)), (1, .int (oI x1)), (2, .int (oI x2))]) hx hb d_12_3_8 rfl hl (by decide) rfl (fun ls hl => ?_)
    obtain ⟨⟨t7, v7_3, M7⟩, g7, h⟩ := bd_e h
    obtain ⟨ok7, h⟩ := ck_e h
    refine s_Wa_divide_9 l z ad E x1 x2 hx hb hml hts hown hlocks hA hG hZ hL FU M 0 t7 v7_3 M7 g7 (fun e7 H locs ls hP hD hS hl => ?_) H locs ls hP hD hS (lv_sub hl [1, 2, 3, 0] rfl)
    refine lv_iinc (v := oI (x2 + 1)) (lv' := [(2, .int (oI (x2 + 1))), (0, .ref (ad 219)), (1, .int (oI x1))]) hx hb d_12_3_39 hl (k := 2) rfl (oI_add x2 1) (by decide) rfl (fun ls hl => ?_)
    refine lv_goto (tgt := 2) hx hb d_12_3_42 (by decide) ?_
    obtain ⟨rfl, rfl, rfl⟩ := in3 h
    exact k0 rfl H locs ls hP hD hS (lv_sub hl [1, 2, 0] rfl)
set_option maxRecDepth 100000 in
set_option maxHeartbeats 4000000 in
theorem s_Wa_divide_2 (l : Launch) (z : Zz) (ad : Nat → Nat) (E : Ev) (x1 : Int) {Q : State → Prop} {p : Program} {e : Env} {s : State} {m : MethodId} {below : List Frame} {meth : Method} {c : Code} {A : Nat → Prop} {args : Array Value} (hx : p.tables.exec = Jvm.exec) (hb : c.code = prog_12_method_3_code) (hml : c.maxLocals = 5) (hts : ∀ w ∈ WG, w.before args s = true) (hown : s.vm.findClass "Ballothall$Wards" = some m.cls) (hlocks : meth.locks = false) (hA : ∀ q, s.heap.size ≤ q → A q) (hG : KG z s) (hZ : FZ z A s) (hL : Lay E) : ∀ (fu : Nat) (M : Mm) (x2 : Int) (t : Nat) (w2 : Int) (N : Mm), l_Wa_divide_2 E x1 fu M x2 = some (t, w2, N) → (t = 1 → ∀ (H : Heap) (locs : List Loc) (ls : Array Slot), va_P z.1 classes (wv z ad E N) H → va_D A (wv z ad E N) → va_S A s.heap H locs → lv_has ls 5 [(0, .ref (ad 219)), (1, .int (oI x1))] → W p l e (rmK 2 67 0 0) s m args below meth c H locs 0 0 Q (F0 m 45 ls [])) → ∀ (H : Heap) (locs : List Loc) (ls : Array Slot), va_P z.1 classes (wv z ad E M) H → va_D A (wv z ad E M) → va_S A s.heap H locs → lv_has ls 5 [(0, .ref (ad 219)), (1, .int (oI x1)), (2, .int (oI x2))] → W p l e (rmK 2 67 0 0) s m args below meth c H locs 0 0 Q (F0 m 2 ls []) := by
  intro fu
  induction fu with
  | zero =>
    intro M x2 t w2 N h
    have h : (none : Option (Nat × Int × Mm)) = some _ := h
    cases h
  | succ fu ih =>
    intro M x2 t w2 N h k1 H locs ls hP hD hS hl
    obtain ⟨⟨t0, w20, N9⟩, g0, h⟩ := bd_e h
    refine b_Wa_divide_2b l z ad E M x1 x2 t0 w20 N9 hx hb hml hts hown hlocks hA hG hZ hL g0 (fun e0 => ?_) (fun e0 => ?_) H locs ls hP hD hS hl
    · subst e0
      have h := ite_t rfl h
      exact ih N9 w20 t w2 N h k1
    · subst e0
      have h := ite_f (by decide) h
      obtain ⟨rfl, rfl, rfl⟩ := in3 h
      exact k1 rfl
set_option maxRecDepth 100000 in
set_option maxHeartbeats 4000000 in
theorem b_Wa_divide_59b (l : Launch) (z : Zz) (ad : Nat → Nat) (E : Ev) (M : Mm) (x1 : Int) (x2 : Int) (x3 : Int) (x4 : Int) (t : Nat) (w3 : Int) (w4 : Int) (N : Mm) {Q : State → Prop} {p : Program} {e : Env} {s : State} {m : MethodId} {below : List Frame} {meth : Method} {c : Code} {A : Nat → Prop} {args : Array Value} (hx : p.tables.exec = Jvm.exec) (hb : c.code = prog_12_method_3_code) (hml : c.maxLocals = 5) (hts : ∀ w ∈ WG, w.before args s = true) (hown : s.vm.findClass "Ballothall$Wards" = some m.cls) (hlocks : meth.locks = false) (hA : ∀ q, s.heap.size ≤ q → A q) (hG : KG z s) (hZ : FZ z A s) (hL : Lay E) (h : Wa_divide_59b E M x1 x2 x3 x4 = some (t, w3, w4, N)) (k0 : t = 0 → ∀ (H : Heap) (locs : List Loc) (ls : Array Slot), va_P z.1 classes (wv z ad E N) H → va_D A (wv z ad E N) → va_S A s.heap H locs → lv_has ls 5 [(0, .ref (ad 219)), (1, .int (oI x1)), (2, .int (oI x2)), (3, .int (oI w3)), (4, .int (oI w4))] → W p l e (rmK 2 67 0 0) s m args below meth c H locs 0 0 Q (F0 m 59 ls [])) (k1 : t = 1 → ∀ (H : Heap) (locs : List Loc) (ls : Array Slot), va_P z.1 classes (wv z ad E N) H → va_D A (wv z ad E N) → va_S A s.heap H locs → lv_has ls 5 [(2, .int (oI x2))] → W p l e (rmK 2 67 0 0) s m args below meth c H locs 0 0 Q (F0 m 98 ls [])) : ∀ (H : Heap) (locs : List Loc) (ls : Array Slot), va_P z.1 classes (wv z ad E M) H → va_D A (wv z ad E M) → va_S A s.heap H locs → lv_has ls 5 [(0, .ref (ad 219)), (1, .int (oI x1)), (2, .int (oI x2)), (3, .int (oI x3)), (4, .int (oI x4))] → W p l e (rmK 2 67 0 0) s m args below meth c H locs 0 0 Q (F0 m 59 ls []) := by
  intro H locs ls hP hD hS hl
  unfold Wa_divide_59b at h
  refine lv_iload hx hb d_12_3_59 (lv_at hl 4 rfl) ?_
  refine lv_iload_n hx hb d_12_3_61 rfl (lv_at hl 1 rfl) ?_
  obtain ⟨ok10, h⟩ := ck_e h
  obtain ⟨ok11, h⟩ := ck_e h
  refine lv_icmp_ge (tgt := 98) hx hb d_12_3_62 (by decide) (fun c9 => ?_) (fun c9 => ?_)
  · have h := ite_t ((oI_le (a := x1) (b := x4) ok11 ok10).mp c9) h
    obtain ⟨rfl, rfl, rfl, rfl⟩ := in4 h
    exact k1 rfl H locs ls hP hD hS (lv_sub hl [2] rfl)
  · have h := ite_f (fun q => c9 ((oI_le (a := x1) (b := x4) ok11 ok10).mpr q)) h
    refine lv_aload_n hx hb d_12_3_65 rfl (lv_at hl 0 rfl) ?_
    refine m_gr (j := 242) (C := "Ballothall$Wards") (T := TX10) (N := 5) (ci := 10) (k := 4) hx hb hts iX10 hown hG hP (yi_219 hL) (yt_219 hL) rfl (by decide) w_363 (fun _ h9 => h9) rfl rfl (yr_219_4 hL) d_12_3_66 ?_
    refine lv_iload hx hb d_12_3_69 (lv_at hl 4 rfl) ?_
    refine lv_aload_n hx hb d_12_3_71 rfl (lv_at hl 0 rfl) ?_
    refine lv_iload_n hx hb d_12_3_72 rfl (lv_at hl 3 rfl) ?_
    refine lv_iload_n hx hb d_12_3_73 rfl (lv_at hl 1 rfl) ?_
    refine lv_iload hx hb d_12_3_74 (lv_at hl 4 rfl) ?_
    refine lv_isub hx hb d_12_3_76 ?_
    refine nrm (oI_sub _ _) ?_
    refine lv_iload_n hx hb d_12_3_77 rfl (lv_at hl 2 rfl) ?_
    obtain ⟨r12, g12, h⟩ := bd_e h
    refine kV (As := [.int (oI x3), .int (oI (x1 - x4)), .int (oI x2)]) (rest := [.int (oI x4), .ref (ad 242)]) (s_Wa_firstEnd l z ad E M x3 (x1 - x4) x2 r12 hL g12) hx hb hml hown hts w_1636 w_1633 w_1635 w_s_2e2987 w_10 md_f62da8 ⟨Nat.le_of_ble_eq_true rfl, Nat.le_of_ble_eq_true rfl⟩ hG hZ hP hD hS hA 219 (wv_o (ci := 10) (yi_219 hL) (yt_219 hL)) rfl rfl rfl hl.1 rfl (Nat.le_of_ble_eq_true rfl) d_12_3_78 ⟨Nat.le_of_ble_eq_true rfl, Nat.le_of_ble_eq_true rfl⟩ (fun _ H locs hP hD hS => ?_)
    have hP : va_P z.1 classes (wv z ad E M) H := hP
    have hD : va_D A (wv z ad E M) := hD
    refine W.eq (g2 := F0 m 81 ls [.int (oI r12), .int (oI x4), .ref (ad 242)]) rfl ?_
    obtain ⟨ok13, h⟩ := ck_e h
    refine m_is hx hb hG hP hD hS (yi_242 hL) (yt_242 hL) ok13 d_12_3_81 (fun H locs hP hD hS => ?_)
    have hP : va_P z.1 classes (wv z ad E (u2 M 242 x4.toNat r12)) H := hP
    have hD : va_D A (wv z ad E (u2 M 242 x4.toNat r12)) := hD
    refine lv_aload_n hx hb d_12_3_82 rfl (lv_at hl 0 rfl) ?_
    refine m_gr (j := 242) (C := "Ballothall$Wards") (T := TX10) (N := 5) (ci := 10) (k := 4) hx hb hts iX10 hown hG hP (yi_219 hL) (yt_219 hL) rfl (by decide) w_363 (fun _ h9 => h9) rfl rfl (yr_219_4 hL) d_12_3_83 ?_
    refine lv_iload hx hb d_12_3_86 (lv_at hl 4 rfl) ?_
    refine m_ia hx hb hG hP (yi_242 hL) (yt_242 hL) ok13 d_12_3_88 ?_
    refine lv_iconst (v := oI 1) hx hb d_12_3_89 (by decide +kernel) ?_
    refine lv_iadd hx hb d_12_3_90 ?_
    refine nrm (oI_add _ _) ?_
    obtain ⟨v14, e14, h⟩ := nb_e h
    refine nrm (congrArg oI e14.symm) ?_
    refine lv_istore_n (lv' := [(3, .int (oI v14)), (0, .ref (ad 219)), (1, .int (oI x1)), (2, .int (oI x2)), (4, .int (oI x4))]) hx hb d_12_3_91 rfl hl (by decide) rfl (fun ls hl => ?_)
    refine lv_iinc (v := oI (x4 + 1)) (lv' := [(4, .int (oI (x4 + 1))), (3, .int (oI v14)), (0, .ref (ad 219)), (1, .int (oI x1)), (2, .int (oI x2))]) hx hb d_12_3_92 hl (k := 4) rfl (oI_add x4 1) (by decide) rfl (fun ls hl => ?_)
    refine lv_goto (tgt := 59) hx hb d_12_3_95 (by decide) ?_
    obtain ⟨rfl, rfl, rfl, rfl⟩ := in4 h
    exact k0 rfl H locs ls hP hD hS (lv_sub hl [2, 3, 4, 1, 0] rfl)
set_option maxRecDepth 100000 in
set_option maxHeartbeats 4000000 in
theorem s_Wa_divide_59 (l : Launch) (z : Zz) (ad : Nat → Nat) (E : Ev) (x1 : Int) (x2 : Int) {Q : State → Prop} {p : Program} {e : Env} {s : State} {m : MethodId} {below : List Frame} {meth : Method} {c : Code} {A : Nat → Prop} {args : Array Value} (hx : p.tables.exec = Jvm.exec) (hb : c.code = prog_12_method_3_code) (hml : c.maxLocals = 5) (hts : ∀ w ∈ WG, w.before args s = true) (hown : s.vm.findClass "Ballothall$Wards" = some m.cls) (hlocks : meth.locks = false) (hA : ∀ q, s.heap.size ≤ q → A q) (hG : KG z s) (hZ : FZ z A s) (hL : Lay E) : ∀ (fu : Nat) (M : Mm) (x3 : Int) (x4 : Int) (t : Nat) (w3 : Int) (w4 : Int) (N : Mm), l_Wa_divide_59 E x1 x2 fu M x3 x4 = some (t, w3, w4, N) → (t = 1 → ∀ (H : Heap) (locs : List Loc) (ls : Array Slot), va_P z.1 classes (wv z ad E N) H → va_D A (wv z ad E N) → va_S A s.heap H locs → lv_has ls 5 [(2, .int (oI x2))] → W p l e (rmK 2 67 0 0) s m args below meth c H locs 0 0 Q (F0 m 98 ls [])) → ∀ (H : Heap) (locs : List Loc) (ls : Array Slot), va_P z.1 classes (wv z ad E M) H → va_D A (wv z ad E M) → va_S A s.heap H locs → lv_has ls 5 [(0, .ref (ad 219)), (1, .int (oI x1)), (2, .int (oI x2)), (3, .int (oI x3)), (4, .int (oI x4))] → W p l e (rmK 2 67 0 0) s m args below meth c H locs 0 0 Q (F0 m 59 ls []) := by
  intro fu
  induction fu with
  | zero =>
    intro M x3 x4 t w3 w4 N h
    have h : (none : Option (Nat × Int × Int × Mm)) = some _ := h
    cases h
  | succ fu ih =>
    intro M x3 x4 t w3 w4 N h k1 H locs ls hP hD hS hl
    obtain ⟨⟨t0, w30, w40, N9⟩, g0, h⟩ := bd_e h
    refine b_Wa_divide_59b l z ad E M x1 x2 x3 x4 t0 w30 w40 N9 hx hb hml hts hown hlocks hA hG hZ hL g0 (fun e0 => ?_) (fun e0 => ?_) H locs ls hP hD hS hl
    · subst e0
      have h := ite_t rfl h
      exact ih N9 w30 w40 t w3 w4 N h k1
    · subst e0
      have h := ite_f (by decide) h
      obtain ⟨rfl, rfl, rfl, rfl⟩ := in4 h
      exact k1 rfl
set_option maxRecDepth 100000 in
set_option maxHeartbeats 4000000 in
theorem s_Wa_divide (l : Launch) (z : Zz) (ad : Nat → Nat) (E : Ev) (M : Mm) (x1 : Int) (r : Int) (N : Mm) (hL : Lay E) (h : f_Wa_divide E M x1 = some (r, N)) : CT l z ⟨"Ballothall$Wards", "divide", "(I)I"⟩ prog_12_method_3_code 5 (some .int) [.ref (ad 219), .int (oI x1)] (wv z ad E M) 2 67 0 0 (fun _ => some (.int (oI r))) (fun _ => (wv z ad E N)) := by
  refine CT.of (own := "Ballothall$Wards") (by decide +kernel) (Nat.le_of_ble_eq_true rfl) rfl (fun p e s m below meth c A ls hx hb hml hr hts hown hlocks hin hA hG hZ hP hD hS hl => ?_)
  have hl : lv_has ls 5 [(0, .ref (ad 219)), (1, .int (oI x1))] := hl
  have key : ∀ (H : Heap) (locs : List Loc) (args : Array Value), (∀ w ∈ WG, w.before args s = true) → va_P z.1 classes (wv z ad E M) H → va_S A s.heap H locs → W p l e (rmK 2 67 0 0) s m args below meth c H locs 0 0 (MQ below (QK z A (fun _ => some (.int (oI r))) (fun _ => (wv z ad E N))) args s 0 0 A) (F0 m 0 ls []) := by
    intro H locs args hts hP hS
    unfold f_Wa_divide at h
    refine lv_iconst (v := oI 1) hx hb d_12_3_0 (by decide +kernel) ?_
    refine lv_istore_n (lv' := [(2, .int (oI 1)), (0, .ref (ad 219)), (1, .int (oI x1))]) hx hb d_12_3_1 rfl hl (by decide) rfl (fun ls hl => ?_)
    obtain ⟨⟨t8, v8_2, M8⟩, g8, h⟩ := bd_e h
    obtain ⟨ok8, h⟩ := ck_e h
    refine s_Wa_divide_2 l z ad E x1 hx hb hml hts hown hlocks hA hG hZ hL FU M 1 t8 v8_2 M8 g8 (fun e8 H locs ls hP hD hS hl => ?_) H locs ls hP hD hS (lv_sub hl [1, 2, 0] rfl)
    refine lv_aload_n hx hb d_12_3_45 rfl (lv_at hl 0 rfl) ?_
    refine m_gr (j := 224) (C := "Ballothall$Wards") (T := TX10) (N := 5) (ci := 10) (k := 3) hx hb hts iX10 hown hG hP (yi_219 hL) (yt_219 hL) rfl (by decide) w_362 (fun _ h9 => h9) rfl rfl (yr_219_3 hL) d_12_3_46 ?_
    refine lv_iload_n hx hb d_12_3_49 rfl (lv_at hl 1 rfl) ?_
    obtain ⟨ok9, h⟩ := ck_e h
    refine m_ar (k := (225 + x1.toNat)) hx hb hG hP (yi_224 hL) (yt_224 hL) ok9 (ya_224 hL (inb_lt ok9)) d_12_3_50 ?_
    refine lv_iconst (v := oI 0) hx hb d_12_3_51 (by decide +kernel) ?_
    refine m_ia hx hb hG hP (yg_224 hL ok9).1 (yg_224 hL ok9).2 (by decide +kernel) d_12_3_52 ?_
    refine nrm (x1 := oI (M8 (225 + x1.toNat) 0)) rfl ?_
    refine lv_istore_n (lv' := [(2, .int (oI (M8 (225 + x1.toNat) 0))), (0, .ref (ad 219)), (1, .int (oI x1))]) hx hb d_12_3_53 rfl hl (by decide) rfl (fun ls hl => ?_)
    refine lv_iconst (v := oI 0) hx hb d_12_3_54 (by decide +kernel) ?_
    refine lv_istore_n (lv' := [(3, .int (oI 0)), (2, .int (oI (M8 (225 + x1.toNat) 0))), (0, .ref (ad 219)), (1, .int (oI x1))]) hx hb d_12_3_55 rfl hl (by decide) rfl (fun ls hl => ?_)
    refine lv_iconst (v := oI 0) hx hb d_12_3_56 (by decide +kernel) ?_
    refine lv_istore (lv' := [(4, .int (oI 0)), (3, .int (oI 0)), (2, .int (oI (M8 (225 + x1.toNat) 0))), (0, .ref (ad 219)), (1, .int (oI x1))]) hx hb d_12_3_57 hl (by decide) rfl (fun ls hl => ?_)
    obtain ⟨⟨t15, v15_3, v15_4, M15⟩, g15, h⟩ := bd_e h
    obtain ⟨ok15, h⟩ := ck_e h
    refine s_Wa_divide_59 l z ad E x1 (M8 (225 + x1.toNat) 0) hx hb hml hts hown hlocks hA hG hZ hL FU M8 0 0 t15 v15_3 v15_4 M15 g15 (fun e15 H locs ls hP hD hS hl => ?_) H locs ls hP hD hS (lv_sub hl [3, 4, 2, 1, 0] rfl)
    refine lv_iload_n hx hb d_12_3_98 rfl (lv_at hl 0 rfl) ?_
    obtain ⟨rfl, rfl⟩ := in2 h
    exact W.iret hx hb hr (fun t ht hW => qkA hP hD hS (fun k => k) rfl rfl ht) hS.2.2 d_12_3_99
  exact key _ _ _ hts hP hS
set_option maxRecDepth 100000 in
set_option maxHeartbeats 4000000 in
theorem s_B_districtEnd (l : Launch) (z : Zz) (ad : Nat → Nat) (E : Ev) (M : Mm) (x1 : Int) (x2 : Int) (r : Int) (N : Mm) (hL : Lay E) (h : f_B_districtEnd E M x1 x2 = some (r, N)) : CT l z ⟨"Ballothall", "districtEnd", "(II)I"⟩ prog_1_method_43_code 3 (some .int) [.ref (ad 1), .int (oI x1), .int (oI x2)] (wv z ad E M) 3 91 0 0 (fun _ => some (.int (oI r))) (fun _ => (wv z ad E N)) := by
  refine CT.of (own := "Ballothall") (by decide +kernel) (Nat.le_of_ble_eq_true rfl) rfl (fun p e s m below meth c A ls hx hb hml hr hts hown hlocks hin hA hG hZ hP hD hS hl => ?_)
  have hl : lv_has ls 3 [(0, .ref (ad 1)), (1, .int (oI x1)), (2, .int (oI x2))] := hl
  have key : ∀ (H : Heap) (locs : List Loc) (args : Array Value), (∀ w ∈ WG, w.before args s = true) → va_P z.1 classes (wv z ad E M) H → va_S A s.heap H locs → W p l e (rmK 3 91 0 0) s m args below meth c H locs 0 0 (MQ below (QK z A (fun _ => some (.int (oI r))) (fun _ => (wv z ad E N))) args s 0 0 A) (F0 m 0 ls []) := by
    intro H locs args hts hP hS
    unfold f_B_districtEnd at h
    refine lv_iload_n hx hb d_1_43_0 rfl (lv_at hl 1 rfl) ?_
    refine lv_iconst (v := oI 1) hx hb d_1_43_1 (by decide +kernel) ?_
    refine lv_aload_n hx hb d_1_43_2 rfl (lv_at hl 0 rfl) ?_
    refine m_gr (j := 219) (C := "Ballothall") (T := TX11) (N := 14) (ci := 11) (k := 5) hx hb hts iX11 hown hG hP (yi_1 hL) (yt_1 hL) rfl (by decide) w_402 (fun _ h9 => h9) rfl rfl (yr_1_5 hL) d_1_43_3 ?_
    refine m_giN (C := "Ballothall$Wards") (T := TX10) (N := 5) (ci := 10) (k := 0) hx hb hts iX10 hown hG hP (yi_219 hL) (yt_219 hL) rfl (by decide) n_359 rfl (fun _ h9 => h9) rfl rfl d_1_43_6 ?_
    obtain ⟨_, g0, h⟩ := bd_e h
    refine kS (As := [.int (oI x1), .int (oI 1), .int (oI (M 219 0))]) (rest := []) (s_B_needRange l z ad E M x1 1 (M 219 0) hL g0) hx hb hml hown hts w_548 w_546 w_547 w_1 md_519134 ⟨Nat.le_of_ble_eq_true rfl, Nat.le_of_ble_eq_true rfl⟩ hG hZ hP hD hS hA rfl hl.1 rfl (Nat.le_of_ble_eq_true rfl) d_1_43_9 ⟨Nat.le_of_ble_eq_true rfl, Nat.le_of_ble_eq_true rfl⟩ (fun _ H locs hP hD hS => ?_)
    have hP : va_P z.1 classes (wv z ad E M) H := hP
    have hD : va_D A (wv z ad E M) := hD
    refine W.eq (g2 := F0 m 12 ls []) rfl ?_
    refine lv_iload_n hx hb d_1_43_12 rfl (lv_at hl 2 rfl) ?_
    refine lv_iload_n hx hb d_1_43_13 rfl (lv_at hl 1 rfl) ?_
    obtain ⟨_, g1, h⟩ := bd_e h
    refine kS (As := [.int (oI x2), .int (oI x1)]) (rest := []) (s_B_needPlace l z ad E M x2 x1 hL g1) hx hb hml hown hts w_1343 w_1341 w_1342 w_1 md_541664 ⟨Nat.le_of_ble_eq_true rfl, Nat.le_of_ble_eq_true rfl⟩ hG hZ hP hD hS hA rfl hl.1 rfl (Nat.le_of_ble_eq_true rfl) d_1_43_14 ⟨Nat.le_of_ble_eq_true rfl, Nat.le_of_ble_eq_true rfl⟩ (fun _ H locs hP hD hS => ?_)
    have hP : va_P z.1 classes (wv z ad E M) H := hP
    have hD : va_D A (wv z ad E M) := hD
    refine W.eq (g2 := F0 m 17 ls []) rfl ?_
    refine lv_aload_n hx hb d_1_43_17 rfl (lv_at hl 0 rfl) ?_
    refine m_gr (j := 219) (C := "Ballothall") (T := TX11) (N := 14) (ci := 11) (k := 5) hx hb hts iX11 hown hG hP (yi_1 hL) (yt_1 hL) rfl (by decide) w_402 (fun _ h9 => h9) rfl rfl (yr_1_5 hL) d_1_43_18 ?_
    refine lv_iload_n hx hb d_1_43_21 rfl (lv_at hl 1 rfl) ?_
    obtain ⟨⟨r2, M2⟩, g2, h⟩ := bd_e h
    refine kVN (As := [.int (oI x1)]) (rest := []) (s_Wa_divide l z ad E M x1 r2 M2 hL g2) hx hb hml hown hts w_1621 n_1618 w_1620 w_s_af9e07 w_10 md_d7e64c ⟨Nat.le_of_ble_eq_true rfl, Nat.le_of_ble_eq_true rfl⟩ hG hZ hP hD hS hA 219 (wv_o (ci := 10) (yi_219 hL) (yt_219 hL)) rfl rfl rfl hl.1 rfl (Nat.le_of_ble_eq_true rfl) d_1_43_22 ⟨Nat.le_of_ble_eq_true rfl, Nat.le_of_ble_eq_true rfl⟩ (fun _ H locs hP hD hS => ?_)
    have hP : va_P z.1 classes (wv z ad E M2) H := hP
    have hD : va_D A (wv z ad E M2) := hD
    refine W.eq (g2 := F0 m 25 ls [.int (oI r2)]) rfl ?_
    refine lv_pop hx hb d_1_43_25 rfl ?_
    refine lv_aload_n hx hb d_1_43_26 rfl (lv_at hl 0 rfl) ?_
    refine m_gr (j := 219) (C := "Ballothall") (T := TX11) (N := 14) (ci := 11) (k := 5) hx hb hts iX11 hown hG hP (yi_1 hL) (yt_1 hL) rfl (by decide) w_402 (fun _ h9 => h9) rfl rfl (yr_1_5 hL) d_1_43_27 ?_
    refine m_grN (j := 242) (C := "Ballothall$Wards") (T := TX10) (N := 5) (ci := 10) (k := 4) hx hb hts iX10 hown hG hP (yi_219 hL) (yt_219 hL) rfl (by decide) n_364 rfl (fun _ h9 => h9) rfl rfl (yr_219_4 hL) d_1_43_30 ?_
    refine lv_iload_n hx hb d_1_43_33 rfl (lv_at hl 2 rfl) ?_
    obtain ⟨ok3, h⟩ := ck_e h
    refine m_ia hx hb hG hP (yi_242 hL) (yt_242 hL) ok3 d_1_43_34 ?_
    obtain ⟨rfl, rfl⟩ := in2 h
    exact W.iret hx hb hr (fun t ht hW => qkA hP hD hS (fun k => k) rfl rfl ht) hS.2.2 d_1_43_35
  exact key _ _ _ hts hP hS
set_option maxRecDepth 100000 in
set_option maxHeartbeats 4000000 in
theorem b_Wa_votesIn_22b (l : Launch) (z : Zz) (ad : Nat → Nat) (E : Ev) (M : Mm) (x1 : Int) (x2 : Int) (x3 : Int) (x4 : Int) (t : Nat) (w3 : Int) (w4 : Int)  {Q : State → Prop} {p : Program} {e : Env} {s : State} {m : MethodId} {below : List Frame} {meth : Method} {c : Code} {A : Nat → Prop} {args : Array Value} (hx : p.tables.exec = Jvm.exec) (hb : c.code = prog_12_method_7_code) (hml : c.maxLocals = 5) (hts : ∀ w ∈ WG, w.before args s = true) (hown : s.vm.findClass "Ballothall$Wards" = some m.cls) (hlocks : meth.locks = false) (hA : ∀ q, s.heap.size ≤ q → A q) (hG : KG z s) (hZ : FZ z A s) (hL : Lay E) (h : Wa_votesIn_22b E M x1 x2 x3 x4 = some (t, w3, w4)) (k0 : t = 0 → ∀ (H : Heap) (locs : List Loc) (ls : Array Slot), va_P z.1 classes (wv z ad E M) H → va_D A (wv z ad E M) → va_S A s.heap H locs → lv_has ls 5 [(0, .ref (ad 219)), (1, .int (oI x1)), (2, .int (oI x2)), (3, .int (oI w3)), (4, .int (oI w4))] → W p l e (rmK 0 20 0 0) s m args below meth c H locs 0 0 Q (F0 m 22 ls [])) (k1 : t = 1 → ∀ (H : Heap) (locs : List Loc) (ls : Array Slot), va_P z.1 classes (wv z ad E M) H → va_D A (wv z ad E M) → va_S A s.heap H locs → lv_has ls 5 [(3, .int (oI w3))] → W p l e (rmK 0 20 0 0) s m args below meth c H locs 0 0 Q (F0 m 51 ls [])) : ∀ (H : Heap) (locs : List Loc) (ls : Array Slot), va_P z.1 classes (wv z ad E M) H → va_D A (wv z ad E M) → va_S A s.heap H locs → lv_has ls 5 [(0, .ref (ad 219)), (1, .int (oI x1)), (2, .int (oI x2)), (3, .int (oI x3)), (4, .int (oI x4))] → W p l e (rmK 0 20 0 0) s m args below meth c H locs 0 0 Q (F0 m 22 ls []) := by
  intro H locs ls hP hD hS hl
  unfold Wa_votesIn_22b at h
  refine lv_iload hx hb d_12_7_22 (lv_at hl 4 rfl) ?_
  refine lv_aload_n hx hb d_12_7_24 rfl (lv_at hl 0 rfl) ?_
  refine m_gr (j := 242) (C := "Ballothall$Wards") (T := TX10) (N := 5) (ci := 10) (k := 4) hx hb hts iX10 hown hG hP (yi_219 hL) (yt_219 hL) rfl (by decide) w_363 (fun _ h9 => h9) rfl rfl (yr_219_4 hL) d_12_7_25 ?_
  refine lv_iload_n hx hb d_12_7_28 rfl (lv_at hl 1 rfl) ?_
  obtain ⟨ok2, h⟩ := ck_e h
  refine m_ia hx hb hG hP (yi_242 hL) (yt_242 hL) ok2 d_12_7_29 ?_
  obtain ⟨ok3, h⟩ := ck_e h
  obtain ⟨ok4, h⟩ := ck_e h
  refine lv_icmp_gt (tgt := 51) hx hb d_12_7_30 (by decide) (fun c9 => ?_) (fun c9 => ?_)
  · have h := ite_t ((oI_lt (a := (M 242 x1.toNat)) (b := x4) ok4 ok3).mp c9) h
    obtain ⟨rfl, rfl, rfl⟩ := in3 h
    exact k1 rfl H locs ls hP hD hS (lv_sub hl [3] rfl)
  · have h := ite_f (fun q => c9 ((oI_lt (a := (M 242 x1.toNat)) (b := x4) ok4 ok3).mpr q)) h
    refine lv_iload_n hx hb d_12_7_33 rfl (lv_at hl 3 rfl) ?_
    refine lv_aload_n hx hb d_12_7_34 rfl (lv_at hl 0 rfl) ?_
    refine m_gr (j := 221) (C := "Ballothall$Wards") (T := TX10) (N := 5) (ci := 10) (k := 2) hx hb hts iX10 hown hG hP (yi_219 hL) (yt_219 hL) rfl (by decide) w_361 (fun _ h9 => h9) rfl rfl (yr_219_2 hL) d_12_7_35 ?_
    refine lv_iload_n hx hb d_12_7_38 rfl (lv_at hl 2 rfl) ?_
    obtain ⟨ok5, h⟩ := ck_e h
    refine m_ar (k := (222 + x2.toNat)) hx hb hG hP (yi_221 hL) (yt_221 hL) ok5 (ya_221 hL (inb_lt ok5)) d_12_7_39 ?_
    refine lv_iload hx hb d_12_7_40 (lv_at hl 4 rfl) ?_
    obtain ⟨ok6, h⟩ := ck_e h
    refine m_ia hx hb hG hP (yg_221 hL ok5).1 (yg_221 hL ok5).2 ok6 d_12_7_42 ?_
    refine lv_iadd hx hb d_12_7_43 ?_
    refine nrm (oI_add _ _) ?_
    obtain ⟨v7, e7, h⟩ := nb_e h
    refine nrm (congrArg oI e7.symm) ?_
    refine lv_istore_n (lv' := [(3, .int (oI v7)), (0, .ref (ad 219)), (1, .int (oI x1)), (2, .int (oI x2)), (4, .int (oI x4))]) hx hb d_12_7_44 rfl hl (by decide) rfl (fun ls hl => ?_)
    refine lv_iinc (v := oI (x4 + 1)) (lv' := [(4, .int (oI (x4 + 1))), (3, .int (oI v7)), (0, .ref (ad 219)), (1, .int (oI x1)), (2, .int (oI x2))]) hx hb d_12_7_45 hl (k := 4) rfl (oI_add x4 1) (by decide) rfl (fun ls hl => ?_)
    refine lv_goto (tgt := 22) hx hb d_12_7_48 (by decide) ?_
    obtain ⟨rfl, rfl, rfl⟩ := in3 h
    exact k0 rfl H locs ls hP hD hS (lv_sub hl [2, 3, 4, 1, 0] rfl)
set_option maxRecDepth 100000 in
set_option maxHeartbeats 4000000 in
theorem s_Wa_votesIn_22 (l : Launch) (z : Zz) (ad : Nat → Nat) (E : Ev) (x1 : Int) (x2 : Int) {Q : State → Prop} {p : Program} {e : Env} {s : State} {m : MethodId} {below : List Frame} {meth : Method} {c : Code} {A : Nat → Prop} {args : Array Value} (hx : p.tables.exec = Jvm.exec) (hb : c.code = prog_12_method_7_code) (hml : c.maxLocals = 5) (hts : ∀ w ∈ WG, w.before args s = true) (hown : s.vm.findClass "Ballothall$Wards" = some m.cls) (hlocks : meth.locks = false) (hA : ∀ q, s.heap.size ≤ q → A q) (hG : KG z s) (hZ : FZ z A s) (hL : Lay E) : ∀ (fu : Nat) (M : Mm) (x3 : Int) (x4 : Int) (t : Nat) (w3 : Int) (w4 : Int), l_Wa_votesIn_22 E x1 x2 fu M x3 x4 = some (t, w3, w4) → (t = 1 → ∀ (H : Heap) (locs : List Loc) (ls : Array Slot), va_P z.1 classes (wv z ad E M) H → va_D A (wv z ad E M) → va_S A s.heap H locs → lv_has ls 5 [(3, .int (oI w3))] → W p l e (rmK 0 20 0 0) s m args below meth c H locs 0 0 Q (F0 m 51 ls [])) → ∀ (H : Heap) (locs : List Loc) (ls : Array Slot), va_P z.1 classes (wv z ad E M) H → va_D A (wv z ad E M) → va_S A s.heap H locs → lv_has ls 5 [(0, .ref (ad 219)), (1, .int (oI x1)), (2, .int (oI x2)), (3, .int (oI x3)), (4, .int (oI x4))] → W p l e (rmK 0 20 0 0) s m args below meth c H locs 0 0 Q (F0 m 22 ls []) := by
  intro fu
  induction fu with
  | zero =>
    intro M x3 x4 t w3 w4 h
    have h : (none : Option (Nat × Int × Int)) = some _ := h
    cases h
  | succ fu ih =>
    intro M x3 x4 t w3 w4 h k1 H locs ls hP hD hS hl
    obtain ⟨⟨t0, w30, w40⟩, g0, h⟩ := bd_e h
    refine b_Wa_votesIn_22b l z ad E M x1 x2 x3 x4 t0 w30 w40 hx hb hml hts hown hlocks hA hG hZ hL g0 (fun e0 => ?_) (fun e0 => ?_) H locs ls hP hD hS hl
    · subst e0
      have h := ite_t rfl h
      exact ih M w30 w40 t w3 w4 h k1
    · subst e0
      have h := ite_f (by decide) h
      obtain ⟨rfl, rfl, rfl⟩ := in3 h
      exact k1 rfl
set_option maxRecDepth 100000 in
set_option maxHeartbeats 4000000 in
theorem s_Wa_votesIn (l : Launch) (z : Zz) (ad : Nat → Nat) (E : Ev) (M : Mm) (x1 : Int) (x2 : Int) (r : Int)  (hL : Lay E) (h : f_Wa_votesIn E M x1 x2 = some r) : CT l z ⟨"Ballothall$Wards", "votesIn", "(II)I"⟩ prog_12_method_7_code 5 (some .int) [.ref (ad 219), .int (oI x1), .int (oI x2)] (wv z ad E M) 0 20 0 0 (fun _ => some (.int (oI r))) (fun _ => (wv z ad E M)) := by
  refine CT.of (own := "Ballothall$Wards") (by decide +kernel) (Nat.le_of_ble_eq_true rfl) rfl (fun p e s m below meth c A ls hx hb hml hr hts hown hlocks hin hA hG hZ hP hD hS hl => ?_)
  have hl : lv_has ls 5 [(0, .ref (ad 219)), (1, .int (oI x1)), (2, .int (oI x2))] := hl
  have key : ∀ (H : Heap) (locs : List Loc) (args : Array Value), (∀ w ∈ WG, w.before args s = true) → va_P z.1 classes (wv z ad E M) H → va_S A s.heap H locs → W p l e (rmK 0 20 0 0) s m args below meth c H locs 0 0 (MQ below (QK z A (fun _ => some (.int (oI r))) (fun _ => (wv z ad E M))) args s 0 0 A) (F0 m 0 ls []) := by
    intro H locs args hts hP hS
    unfold f_Wa_votesIn at h
    refine lv_iconst (v := oI 0) hx hb d_12_7_0 (by decide +kernel) ?_
    refine lv_istore_n (lv' := [(3, .int (oI 0)), (0, .ref (ad 219)), (1, .int (oI x1)), (2, .int (oI x2))]) hx hb d_12_7_1 rfl hl (by decide) rfl (fun ls hl => ?_)
    refine lv_iload_n hx hb d_12_7_2 rfl (lv_at hl 2 rfl) ?_
    obtain ⟨ok0, h⟩ := ck_e h
    refine lv_if_ne (tgt := 10) hx hb d_12_7_3 (by decide) (fun c9 => ?_) (fun c9 => ?_)
    · have h := ite_f (fun q => c9 ((oI_eq0 ok0).mpr q)) h
      refine lv_aload_n hx hb d_12_7_10 rfl (lv_at hl 1 rfl) ?_
      refine m_gr (j := 242) (C := "Ballothall$Wards") (T := TX10) (N := 5) (ci := 10) (k := 4) hx hb hts iX10 hown hG hP (yi_219 hL) (yt_219 hL) rfl (by decide) w_363 (fun _ h9 => h9) rfl rfl (yr_219_4 hL) d_12_7_11 ?_
      refine lv_iload_n hx hb d_12_7_14 rfl (lv_at hl 2 rfl) ?_
      refine lv_iconst (v := oI 1) hx hb d_12_7_15 (by decide +kernel) ?_
      refine lv_isub hx hb d_12_7_16 ?_
      refine nrm (oI_sub _ _) ?_
      obtain ⟨ok1, h⟩ := ck_e h
      refine m_ia hx hb hG hP (yi_242 hL) (yt_242 hL) ok1 d_12_7_17 ?_
      refine lv_iconst (v := oI 1) hx hb d_12_7_18 (by decide +kernel) ?_
      refine lv_iadd hx hb d_12_7_19 ?_
      refine nrm (oI_add _ _) ?_
      refine lv_istore (lv' := [(4, .int (oI ((M 242 (x1 - 1).toNat) + 1))), (3, .int (oI 0)), (0, .ref (ad 219)), (1, .int (oI x1)), (2, .int (oI x2))]) hx hb d_12_7_20 hl (by decide) rfl (fun ls hl => ?_)
      obtain ⟨⟨t8, v8_3, v8_4⟩, g8, h⟩ := bd_e h
      obtain ⟨ok8, h⟩ := ck_e h
      refine s_Wa_votesIn_22 l z ad E x1 x2 hx hb hml hts hown hlocks hA hG hZ hL FU M 0 ((M 242 (x1 - 1).toNat) + 1) t8 v8_3 v8_4 g8 (fun e8 H locs ls hP hD hS hl => ?_) H locs ls hP hD hS (lv_sub hl [2, 3, 4, 1, 0] rfl)
      refine lv_iload_n hx hb d_12_7_51 rfl (lv_at hl 0 rfl) ?_
      obtain rfl := in1 h
      exact W.iret hx hb hr (fun t ht hW => qkA hP hD hS (fun k => k) rfl rfl ht) hS.2.2 d_12_7_52
    · have h := ite_t ((oI_eq0 ok0).mp c9) h
      refine lv_iconst (v := oI 0) hx hb d_12_7_6 (by decide +kernel) ?_
      refine lv_goto (tgt := 20) hx hb d_12_7_7 (by decide) ?_
      refine lv_istore (lv' := [(4, .int (oI 0)), (3, .int (oI 0)), (0, .ref (ad 219)), (1, .int (oI x1)), (2, .int (oI x2))]) hx hb d_12_7_20 hl (by decide) rfl (fun ls hl => ?_)
      obtain ⟨⟨t9, v9_3, v9_4⟩, g9, h⟩ := bd_e h
      obtain ⟨ok9, h⟩ := ck_e h
      refine s_Wa_votesIn_22 l z ad E x1 x2 hx hb hml hts hown hlocks hA hG hZ hL FU M 0 0 t9 v9_3 v9_4 g9 (fun e9 H locs ls hP hD hS hl => ?_) H locs ls hP hD hS (lv_sub hl [2, 3, 4, 1, 0] rfl)
      refine lv_iload_n hx hb d_12_7_51 rfl (lv_at hl 0 rfl) ?_
      obtain rfl := in1 h
      exact W.iret hx hb hr (fun t ht hW => qkA hP hD hS (fun k => k) rfl rfl ht) hS.2.2 d_12_7_52
  exact key _ _ _ hts hP hS
set_option maxRecDepth 100000 in
set_option maxHeartbeats 4000000 in
theorem b_B_districtsWon_32b (l : Launch) (z : Zz) (ad : Nat → Nat) (E : Ev) (M : Mm) (x1 : Int) (x2 : Int) (x3 : Int) (x4 : Int) (t : Nat) (w3 : Int) (w4 : Int) (N : Mm) {Q : State → Prop} {p : Program} {e : Env} {s : State} {m : MethodId} {below : List Frame} {meth : Method} {c : Code} {A : Nat → Prop} {args : Array Value} (hx : p.tables.exec = Jvm.exec) (hb : c.code = prog_1_method_44_code) (hml : c.maxLocals = 5) (hts : ∀ w ∈ WG, w.before args s = true) (hown : s.vm.findClass "Ballothall" = some m.cls) (hlocks : meth.locks = false) (hA : ∀ q, s.heap.size ≤ q → A q) (hG : KG z s) (hZ : FZ z A s) (hL : Lay E) (h : B_districtsWon_32b E M x1 x2 x3 x4 = some (t, w3, w4, N)) (k0 : t = 0 → ∀ (H : Heap) (locs : List Loc) (ls : Array Slot), va_P z.1 classes (wv z ad E N) H → va_D A (wv z ad E N) → va_S A s.heap H locs → lv_has ls 5 [(0, .ref (ad 1)), (1, .int (oI x1)), (2, .int (oI x2)), (3, .int (oI w3)), (4, .int (oI w4))] → W p l e (rmK 3 91 0 0) s m args below meth c H locs 0 0 Q (F0 m 32 ls [])) (k1 : t = 1 → ∀ (H : Heap) (locs : List Loc) (ls : Array Slot), va_P z.1 classes (wv z ad E N) H → va_D A (wv z ad E N) → va_S A s.heap H locs → lv_has ls 5 [(3, .int (oI w3))] → W p l e (rmK 3 91 0 0) s m args below meth c H locs 0 0 Q (F0 m 72 ls [])) : ∀ (H : Heap) (locs : List Loc) (ls : Array Slot), va_P z.1 classes (wv z ad E M) H → va_D A (wv z ad E M) → va_S A s.heap H locs → lv_has ls 5 [(0, .ref (ad 1)), (1, .int (oI x1)), (2, .int (oI x2)), (3, .int (oI x3)), (4, .int (oI x4))] → W p l e (rmK 3 91 0 0) s m args below meth c H locs 0 0 Q (F0 m 32 ls []) := by
  intro H locs ls hP hD hS hl
  unfold B_districtsWon_32b at h
  refine lv_iload hx hb d_1_44_32 (lv_at hl 4 rfl) ?_
  refine lv_iload_n hx hb d_1_44_34 rfl (lv_at hl 1 rfl) ?_
  obtain ⟨ok3, h⟩ := ck_e h
  obtain ⟨ok4, h⟩ := ck_e h
  refine lv_icmp_ge (tgt := 72) hx hb d_1_44_35 (by decide) (fun c9 => ?_) (fun c9 => ?_)
  · have h := ite_t ((oI_le (a := x1) (b := x4) ok4 ok3).mp c9) h
    obtain ⟨rfl, rfl, rfl, rfl⟩ := in4 h
    exact k1 rfl H locs ls hP hD hS (lv_sub hl [3] rfl)
  · have h := ite_f (fun q => c9 ((oI_le (a := x1) (b := x4) ok4 ok3).mpr q)) h
    refine lv_aload_n hx hb d_1_44_38 rfl (lv_at hl 0 rfl) ?_
    refine m_gr (j := 219) (C := "Ballothall") (T := TX11) (N := 14) (ci := 11) (k := 5) hx hb hts iX11 hown hG hP (yi_1 hL) (yt_1 hL) rfl (by decide) w_402 (fun _ h9 => h9) rfl rfl (yr_1_5 hL) d_1_44_39 ?_
    refine lv_iload hx hb d_1_44_42 (lv_at hl 4 rfl) ?_
    refine lv_iload_n hx hb d_1_44_44 rfl (lv_at hl 2 rfl) ?_
    obtain ⟨r5, g5, h⟩ := bd_e h
    refine kVN (As := [.int (oI x4), .int (oI x2)]) (rest := []) (s_Wa_votesIn l z ad E M x4 x2 r5 hL g5) hx hb hml hown hts w_1648 n_1645 w_1647 w_s_a85b93 w_10 md_2866d7 ⟨Nat.le_of_ble_eq_true rfl, Nat.le_of_ble_eq_true rfl⟩ hG hZ hP hD hS hA 219 (wv_o (ci := 10) (yi_219 hL) (yt_219 hL)) rfl rfl rfl hl.1 rfl (Nat.le_of_ble_eq_true rfl) d_1_44_45 ⟨Nat.le_of_ble_eq_true rfl, Nat.le_of_ble_eq_true rfl⟩ (fun _ H locs hP hD hS => ?_)
    have hP : va_P z.1 classes (wv z ad E M) H := hP
    have hD : va_D A (wv z ad E M) := hD
    refine W.eq (g2 := F0 m 48 ls [.int (oI r5)]) rfl ?_
    refine lv_aload_n hx hb d_1_44_48 rfl (lv_at hl 0 rfl) ?_
    refine m_gr (j := 219) (C := "Ballothall") (T := TX11) (N := 14) (ci := 11) (k := 5) hx hb hts iX11 hown hG hP (yi_1 hL) (yt_1 hL) rfl (by decide) w_402 (fun _ h9 => h9) rfl rfl (yr_1_5 hL) d_1_44_49 ?_
    refine lv_iload hx hb d_1_44_52 (lv_at hl 4 rfl) ?_
    refine lv_iconst (v := oI 1) hx hb d_1_44_54 (by decide +kernel) ?_
    refine lv_iload_n hx hb d_1_44_55 rfl (lv_at hl 2 rfl) ?_
    refine lv_isub hx hb d_1_44_56 ?_
    refine nrm (oI_sub _ _) ?_
    obtain ⟨r6, g6, h⟩ := bd_e h
    refine kVN (As := [.int (oI x4), .int (oI (1 - x2))]) (rest := [.int (oI r5)]) (s_Wa_votesIn l z ad E M x4 (1 - x2) r6 hL g6) hx hb hml hown hts w_1648 n_1645 w_1647 w_s_a85b93 w_10 md_2866d7 ⟨Nat.le_of_ble_eq_true rfl, Nat.le_of_ble_eq_true rfl⟩ hG hZ hP hD hS hA 219 (wv_o (ci := 10) (yi_219 hL) (yt_219 hL)) rfl rfl rfl hl.1 rfl (Nat.le_of_ble_eq_true rfl) d_1_44_57 ⟨Nat.le_of_ble_eq_true rfl, Nat.le_of_ble_eq_true rfl⟩ (fun _ H locs hP hD hS => ?_)
    have hP : va_P z.1 classes (wv z ad E M) H := hP
    have hD : va_D A (wv z ad E M) := hD
    refine W.eq (g2 := F0 m 60 ls [.int (oI r6), .int (oI r5)]) rfl ?_
    obtain ⟨ok7, h⟩ := ck_e h
    obtain ⟨ok8, h⟩ := ck_e h
    refine lv_icmp_le (tgt := 66) hx hb d_1_44_60 (by decide) (fun c9 => ?_) (fun c9 => ?_)
    · have h := ite_t ((oI_le (a := r5) (b := r6) ok7 ok8).mp c9) h
      refine lv_iinc (v := oI (x4 + 1)) (lv' := [(4, .int (oI (x4 + 1))), (0, .ref (ad 1)), (1, .int (oI x1)), (2, .int (oI x2)), (3, .int (oI x3))]) hx hb d_1_44_66 hl (k := 4) rfl (oI_add x4 1) (by decide) rfl (fun ls hl => ?_)
      refine lv_goto (tgt := 32) hx hb d_1_44_69 (by decide) ?_
      obtain ⟨rfl, rfl, rfl, rfl⟩ := in4 h
      exact k0 rfl H locs ls hP hD hS (lv_sub hl [1, 2, 3, 4, 0] rfl)
    · have h := ite_f (fun q => c9 ((oI_le (a := r5) (b := r6) ok7 ok8).mpr q)) h
      refine lv_iinc (v := oI (x3 + 1)) (lv' := [(3, .int (oI (x3 + 1))), (0, .ref (ad 1)), (1, .int (oI x1)), (2, .int (oI x2)), (4, .int (oI x4))]) hx hb d_1_44_63 hl (k := 3) rfl (oI_add x3 1) (by decide) rfl (fun ls hl => ?_)
      refine lv_iinc (v := oI (x4 + 1)) (lv' := [(4, .int (oI (x4 + 1))), (3, .int (oI (x3 + 1))), (0, .ref (ad 1)), (1, .int (oI x1)), (2, .int (oI x2))]) hx hb d_1_44_66 hl (k := 4) rfl (oI_add x4 1) (by decide) rfl (fun ls hl => ?_)
      refine lv_goto (tgt := 32) hx hb d_1_44_69 (by decide) ?_
      obtain ⟨rfl, rfl, rfl, rfl⟩ := in4 h
      exact k0 rfl H locs ls hP hD hS (lv_sub hl [2, 3, 4, 1, 0] rfl)
set_option maxRecDepth 100000 in
set_option maxHeartbeats 4000000 in
theorem s_B_districtsWon_32 (l : Launch) (z : Zz) (ad : Nat → Nat) (E : Ev) (x1 : Int) (x2 : Int) {Q : State → Prop} {p : Program} {e : Env} {s : State} {m : MethodId} {below : List Frame} {meth : Method} {c : Code} {A : Nat → Prop} {args : Array Value} (hx : p.tables.exec = Jvm.exec) (hb : c.code = prog_1_method_44_code) (hml : c.maxLocals = 5) (hts : ∀ w ∈ WG, w.before args s = true) (hown : s.vm.findClass "Ballothall" = some m.cls) (hlocks : meth.locks = false) (hA : ∀ q, s.heap.size ≤ q → A q) (hG : KG z s) (hZ : FZ z A s) (hL : Lay E) : ∀ (fu : Nat) (M : Mm) (x3 : Int) (x4 : Int) (t : Nat) (w3 : Int) (w4 : Int) (N : Mm), l_B_districtsWon_32 E x1 x2 fu M x3 x4 = some (t, w3, w4, N) → (t = 1 → ∀ (H : Heap) (locs : List Loc) (ls : Array Slot), va_P z.1 classes (wv z ad E N) H → va_D A (wv z ad E N) → va_S A s.heap H locs → lv_has ls 5 [(3, .int (oI w3))] → W p l e (rmK 3 91 0 0) s m args below meth c H locs 0 0 Q (F0 m 72 ls [])) → ∀ (H : Heap) (locs : List Loc) (ls : Array Slot), va_P z.1 classes (wv z ad E M) H → va_D A (wv z ad E M) → va_S A s.heap H locs → lv_has ls 5 [(0, .ref (ad 1)), (1, .int (oI x1)), (2, .int (oI x2)), (3, .int (oI x3)), (4, .int (oI x4))] → W p l e (rmK 3 91 0 0) s m args below meth c H locs 0 0 Q (F0 m 32 ls []) := by
  intro fu
  induction fu with
  | zero =>
    intro M x3 x4 t w3 w4 N h
    have h : (none : Option (Nat × Int × Int × Mm)) = some _ := h
    cases h
  | succ fu ih =>
    intro M x3 x4 t w3 w4 N h k1 H locs ls hP hD hS hl
    obtain ⟨⟨t0, w30, w40, N9⟩, g0, h⟩ := bd_e h
    refine b_B_districtsWon_32b l z ad E M x1 x2 x3 x4 t0 w30 w40 N9 hx hb hml hts hown hlocks hA hG hZ hL g0 (fun e0 => ?_) (fun e0 => ?_) H locs ls hP hD hS hl
    · subst e0
      have h := ite_t rfl h
      exact ih N9 w30 w40 t w3 w4 N h k1
    · subst e0
      have h := ite_f (by decide) h
      obtain ⟨rfl, rfl, rfl, rfl⟩ := in4 h
      exact k1 rfl
set_option maxRecDepth 100000 in
set_option maxHeartbeats 4000000 in
theorem s_B_districtsWon (l : Launch) (z : Zz) (ad : Nat → Nat) (E : Ev) (M : Mm) (x1 : Int) (x2 : Int) (r : Int) (N : Mm) (hL : Lay E) (h : f_B_districtsWon E M x1 x2 = some (r, N)) : CT l z ⟨"Ballothall", "districtsWon", "(II)I"⟩ prog_1_method_44_code 5 (some .int) [.ref (ad 1), .int (oI x1), .int (oI x2)] (wv z ad E M) 3 91 0 0 (fun _ => some (.int (oI r))) (fun _ => (wv z ad E N)) := by
  refine CT.of (own := "Ballothall") (by decide +kernel) (Nat.le_of_ble_eq_true rfl) rfl (fun p e s m below meth c A ls hx hb hml hr hts hown hlocks hin hA hG hZ hP hD hS hl => ?_)
  have hl : lv_has ls 5 [(0, .ref (ad 1)), (1, .int (oI x1)), (2, .int (oI x2))] := hl
  have key : ∀ (H : Heap) (locs : List Loc) (args : Array Value), (∀ w ∈ WG, w.before args s = true) → va_P z.1 classes (wv z ad E M) H → va_S A s.heap H locs → W p l e (rmK 3 91 0 0) s m args below meth c H locs 0 0 (MQ below (QK z A (fun _ => some (.int (oI r))) (fun _ => (wv z ad E N))) args s 0 0 A) (F0 m 0 ls []) := by
    intro H locs args hts hP hS
    unfold f_B_districtsWon at h
    refine lv_iload_n hx hb d_1_44_0 rfl (lv_at hl 1 rfl) ?_
    refine lv_iconst (v := oI 1) hx hb d_1_44_1 (by decide +kernel) ?_
    refine lv_aload_n hx hb d_1_44_2 rfl (lv_at hl 0 rfl) ?_
    refine m_gr (j := 219) (C := "Ballothall") (T := TX11) (N := 14) (ci := 11) (k := 5) hx hb hts iX11 hown hG hP (yi_1 hL) (yt_1 hL) rfl (by decide) w_402 (fun _ h9 => h9) rfl rfl (yr_1_5 hL) d_1_44_3 ?_
    refine m_giN (C := "Ballothall$Wards") (T := TX10) (N := 5) (ci := 10) (k := 0) hx hb hts iX10 hown hG hP (yi_219 hL) (yt_219 hL) rfl (by decide) n_359 rfl (fun _ h9 => h9) rfl rfl d_1_44_6 ?_
    obtain ⟨_, g0, h⟩ := bd_e h
    refine kS (As := [.int (oI x1), .int (oI 1), .int (oI (M 219 0))]) (rest := []) (s_B_needRange l z ad E M x1 1 (M 219 0) hL g0) hx hb hml hown hts w_548 w_546 w_547 w_1 md_519134 ⟨Nat.le_of_ble_eq_true rfl, Nat.le_of_ble_eq_true rfl⟩ hG hZ hP hD hS hA rfl hl.1 rfl (Nat.le_of_ble_eq_true rfl) d_1_44_9 ⟨Nat.le_of_ble_eq_true rfl, Nat.le_of_ble_eq_true rfl⟩ (fun _ H locs hP hD hS => ?_)
    have hP : va_P z.1 classes (wv z ad E M) H := hP
    have hD : va_D A (wv z ad E M) := hD
    refine W.eq (g2 := F0 m 12 ls []) rfl ?_
    refine lv_iload_n hx hb d_1_44_12 rfl (lv_at hl 2 rfl) ?_
    refine lv_iconst (v := oI 0) hx hb d_1_44_13 (by decide +kernel) ?_
    refine lv_iconst (v := oI 1) hx hb d_1_44_14 (by decide +kernel) ?_
    obtain ⟨_, g1, h⟩ := bd_e h
    refine kS (As := [.int (oI x2), .int (oI 0), .int (oI 1)]) (rest := []) (s_B_needRange l z ad E M x2 0 1 hL g1) hx hb hml hown hts w_548 w_546 w_547 w_1 md_519134 ⟨Nat.le_of_ble_eq_true rfl, Nat.le_of_ble_eq_true rfl⟩ hG hZ hP hD hS hA rfl hl.1 rfl (Nat.le_of_ble_eq_true rfl) d_1_44_15 ⟨Nat.le_of_ble_eq_true rfl, Nat.le_of_ble_eq_true rfl⟩ (fun _ H locs hP hD hS => ?_)
    have hP : va_P z.1 classes (wv z ad E M) H := hP
    have hD : va_D A (wv z ad E M) := hD
    refine W.eq (g2 := F0 m 18 ls []) rfl ?_
    refine lv_aload_n hx hb d_1_44_18 rfl (lv_at hl 0 rfl) ?_
    refine m_gr (j := 219) (C := "Ballothall") (T := TX11) (N := 14) (ci := 11) (k := 5) hx hb hts iX11 hown hG hP (yi_1 hL) (yt_1 hL) rfl (by decide) w_402 (fun _ h9 => h9) rfl rfl (yr_1_5 hL) d_1_44_19 ?_
    refine lv_iload_n hx hb d_1_44_22 rfl (lv_at hl 1 rfl) ?_
    obtain ⟨⟨r2, M2⟩, g2, h⟩ := bd_e h
    refine kVN (As := [.int (oI x1)]) (rest := []) (s_Wa_divide l z ad E M x1 r2 M2 hL g2) hx hb hml hown hts w_1621 n_1618 w_1620 w_s_af9e07 w_10 md_d7e64c ⟨Nat.le_of_ble_eq_true rfl, Nat.le_of_ble_eq_true rfl⟩ hG hZ hP hD hS hA 219 (wv_o (ci := 10) (yi_219 hL) (yt_219 hL)) rfl rfl rfl hl.1 rfl (Nat.le_of_ble_eq_true rfl) d_1_44_23 ⟨Nat.le_of_ble_eq_true rfl, Nat.le_of_ble_eq_true rfl⟩ (fun _ H locs hP hD hS => ?_)
    have hP : va_P z.1 classes (wv z ad E M2) H := hP
    have hD : va_D A (wv z ad E M2) := hD
    refine W.eq (g2 := F0 m 26 ls [.int (oI r2)]) rfl ?_
    refine lv_pop hx hb d_1_44_26 rfl ?_
    refine lv_iconst (v := oI 0) hx hb d_1_44_27 (by decide +kernel) ?_
    refine lv_istore_n (lv' := [(3, .int (oI 0)), (0, .ref (ad 1)), (1, .int (oI x1)), (2, .int (oI x2))]) hx hb d_1_44_28 rfl hl (by decide) rfl (fun ls hl => ?_)
    refine lv_iconst (v := oI 0) hx hb d_1_44_29 (by decide +kernel) ?_
    refine lv_istore (lv' := [(4, .int (oI 0)), (3, .int (oI 0)), (0, .ref (ad 1)), (1, .int (oI x1)), (2, .int (oI x2))]) hx hb d_1_44_30 hl (by decide) rfl (fun ls hl => ?_)
    obtain ⟨⟨t9, v9_3, v9_4, M9⟩, g9, h⟩ := bd_e h
    obtain ⟨ok9, h⟩ := ck_e h
    refine s_B_districtsWon_32 l z ad E x1 x2 hx hb hml hts hown hlocks hA hG hZ hL FU M2 0 0 t9 v9_3 v9_4 M9 g9 (fun e9 H locs ls hP hD hS hl => ?_) H locs ls hP hD hS (lv_sub hl [2, 3, 4, 1, 0] rfl)
    refine lv_iload_n hx hb d_1_44_72 rfl (lv_at hl 0 rfl) ?_
    obtain ⟨rfl, rfl⟩ := in2 h
    exact W.iret hx hb hr (fun t ht hW => qkA hP hD hS (fun k => k) rfl rfl ht) hS.2.2 d_1_44_73
  exact key _ _ _ hts hP hS
set_option maxRecDepth 100000 in
set_option maxHeartbeats 4000000 in
theorem s_B_electedAt (l : Launch) (z : Zz) (ad : Nat → Nat) (E : Ev) (M : Mm) (x1 : Int) (r : Int)  (hL : Lay E) (h : f_B_electedAt E M x1 = some r) : CT l z ⟨"Ballothall", "electedAt", "(I)I"⟩ prog_1_method_19_code 3 (some .int) [.ref (ad 1), .int (oI x1)] (wv z ad E M) 1 40 0 0 (fun _ => some (.int (oI r))) (fun _ => (wv z ad E M)) := by
  refine CT.of (own := "Ballothall") (by decide +kernel) (Nat.le_of_ble_eq_true rfl) rfl (fun p e s m below meth c A ls hx hb hml hr hts hown hlocks hin hA hG hZ hP hD hS hl => ?_)
  have hl : lv_has ls 3 [(0, .ref (ad 1)), (1, .int (oI x1))] := hl
  have key : ∀ (H : Heap) (locs : List Loc) (args : Array Value), (∀ w ∈ WG, w.before args s = true) → va_P z.1 classes (wv z ad E M) H → va_S A s.heap H locs → W p l e (rmK 1 40 0 0) s m args below meth c H locs 0 0 (MQ below (QK z A (fun _ => some (.int (oI r))) (fun _ => (wv z ad E M))) args s 0 0 A) (F0 m 0 ls []) := by
    intro H locs args hts hP hS
    unfold f_B_electedAt at h
    refine lv_aload_n hx hb d_1_19_0 rfl (lv_at hl 0 rfl) ?_
    refine m_gr (j := 179) (C := "Ballothall") (T := TX11) (N := 14) (ci := 11) (k := 4) hx hb hts iX11 hown hG hP (yi_1 hL) (yt_1 hL) rfl (by decide) w_401 (fun _ h9 => h9) rfl rfl (yr_1_4 hL) d_1_19_1 ?_
    obtain ⟨r0, g0, h⟩ := bd_e h
    refine kVN (As := []) (rest := []) (s_Co_latest l z ad E M r0 hL g0) hx hb hml hown hts w_596 n_593 w_595 w_s_ad1675 w_8 md_6f7cc1 ⟨Nat.le_of_ble_eq_true rfl, Nat.le_of_ble_eq_true rfl⟩ hG hZ hP hD hS hA 179 (wv_o (ci := 3) (yi_179 hL) (yt_179 hL)) rfl rfl rfl hl.1 rfl (Nat.le_of_ble_eq_true rfl) d_1_19_4 ⟨Nat.le_of_ble_eq_true rfl, Nat.le_of_ble_eq_true rfl⟩ (fun _ H locs hP hD hS => ?_)
    have hP : va_P z.1 classes (wv z ad E M) H := hP
    have hD : va_D A (wv z ad E M) := hD
    cases r0 with
    | none =>
      refine W.eq (g2 := F0 m 7 ls [.null]) rfl ?_
      refine lv_astore_nN (lv' := [(2, .null), (0, .ref (ad 1)), (1, .int (oI x1))]) hx hb d_1_19_7 rfl hl (by decide) rfl (fun ls hl => ?_)
      refine lv_aload_nN hx hb d_1_19_8 rfl (lv_at hl 0 rfl) ?_
      refine lv_ifnullN (tgt := 24) hx hb d_1_19_9 (by decide) ?_
      cases h
    | some p0 =>
      obtain ⟨h_p0, h⟩ := ck_e h
      refine W.eq (g2 := F0 m 7 ls [.ref (ad p0)]) rfl ?_
      refine lv_astore_n (lv' := [(2, .ref (ad p0)), (0, .ref (ad 1)), (1, .int (oI x1))]) hx hb d_1_19_7 rfl hl (by decide) rfl (fun ls hl => ?_)
      refine lv_aload_n hx hb d_1_19_8 rfl (lv_at hl 0 rfl) ?_
      refine lv_ifnull hx hb d_1_19_9 ?_
      refine lv_iload_n hx hb d_1_19_12 rfl (lv_at hl 2 rfl) ?_
      obtain ⟨ok1, h⟩ := ck_e h
      refine lv_if_lt (tgt := 24) hx hb d_1_19_13 (by decide) (fun c9 => ?_) (fun c9 => ?_)
      · have h := ite_t ((oI_lt0 ok1).mp c9) h
        cases h
      · have h := ite_f (fun q => c9 ((oI_lt0 ok1).mpr q)) h
        refine lv_iload_n hx hb d_1_19_16 rfl (lv_at hl 2 rfl) ?_
        refine lv_aload_n hx hb d_1_19_17 rfl (lv_at hl 0 rfl) ?_
        refine m_giN (C := "Ballothall$Count") (T := TX2) (N := 10) (ci := 2) (k := 4) hx hb hts iX2 hown hG hP (isCt_i h_p0) (isCt_T h_p0) rfl (by decide) n_1087 rfl (fun _ h9 => h9) rfl rfl d_1_19_18 ?_
        obtain ⟨ok2, h⟩ := ck_e h
        refine lv_icmp_lt (tgt := 34) hx hb d_1_19_21 (by decide) (fun c9 => ?_) (fun c9 => ?_)
        · have h := ite_t ((oI_lt (a := x1) (b := (M p0 4)) ok1 ok2).mp c9) h
          refine lv_aload_n hx hb d_1_19_34 rfl (lv_at hl 0 rfl) ?_
          refine m_grN (j := (p0 + 2)) (C := "Ballothall$Count") (T := TX2) (N := 10) (ci := 2) (k := 7) hx hb hts iX2 hown hG hP (isCt_i h_p0) (isCt_T h_p0) rfl (by decide) n_1095 rfl (fun _ h9 => h9) rfl rfl (isCt_r7 h_p0) d_1_19_35 ?_
          refine lv_iload_n hx hb d_1_19_38 rfl (lv_at hl 2 rfl) ?_
          obtain ⟨ok3, h⟩ := ck_e h
          refine m_ia hx hb hG hP (isCt_i2 h_p0) (isCt_t2 h_p0) ok3 d_1_19_39 ?_
          obtain rfl := in1 h
          exact W.iret hx hb hr (fun t ht hW => qkA hP hD hS (fun k => k) rfl rfl ht) hS.2.2 d_1_19_40
        · have h := ite_f (fun q => c9 ((oI_lt (a := x1) (b := (M p0 4)) ok1 ok2).mpr q)) h
          cases h
  exact key _ _ _ hts hP hS
set_option maxRecDepth 100000 in
set_option maxHeartbeats 4000000 in
theorem s_Li_latest (l : Launch) (z : Zz) (ad : Nat → Nat) (E : Ev) (M : Mm) (r : Nat)  (hL : Lay E) (h : f_Li_latest E M = some r) : CT l z ⟨"Ballothall$Lists", "latest", "()LBallothall$KeptSeats;"⟩ prog_9_method_3_code 1 (some (.object "Ballothall$KeptSeats")) [.ref (ad 53)] (wv z ad E M) 0 20 0 0 (fun _ => some (.ref (ad r))) (fun _ => (wv z ad E M)) := by
  refine CT.of (own := "Ballothall$Lists") (by decide +kernel) (Nat.le_of_ble_eq_true rfl) rfl (fun p e s m below meth c A ls hx hb hml hr hts hown hlocks hin hA hG hZ hP hD hS hl => ?_)
  have hl : lv_has ls 1 [(0, .ref (ad 53))] := hl
  have key : ∀ (H : Heap) (locs : List Loc) (args : Array Value), (∀ w ∈ WG, w.before args s = true) → va_P z.1 classes (wv z ad E M) H → va_S A s.heap H locs → W p l e (rmK 0 20 0 0) s m args below meth c H locs 0 0 (MQ below (QK z A (fun _ => some (.ref (ad r))) (fun _ => (wv z ad E M))) args s 0 0 A) (F0 m 0 ls []) := by
    intro H locs args hts hP hS
    unfold f_Li_latest at h
    refine lv_aload_n hx hb d_9_3_0 rfl (lv_at hl 0 rfl) ?_
    refine m_gr (j := 73) (C := "Ballothall$Lists") (T := TX7) (N := 11) (ci := 7) (k := 9) hx hb hts iX7 hown hG hP (yi_53 hL) (yt_53 hL) rfl (by decide) w_254 (fun _ h9 => h9) rfl rfl (yr_53_9 hL) d_9_3_1 ?_
    refine lv_aload_n hx hb d_9_3_4 rfl (lv_at hl 0 rfl) ?_
    refine m_gi (C := "Ballothall$Lists") (T := TX7) (N := 11) (ci := 7) (k := 10) hx hb hts iX7 hown hG hP (yi_53 hL) (yt_53 hL) rfl (by decide) w_255 (fun _ h9 => h9) rfl rfl d_9_3_5 ?_
    obtain ⟨ok0, h⟩ := ck_e h
    refine m_aa (k := (74 + 5 * (M 53 10).toNat)) (t := 3) (C := "Ballothall$KeptSeats") hx hb hG hP (yi_73 hL) (yt_73 hL) rfl rfl ok0 (ya_73 hL (inb_lt ok0)) d_9_3_8 ?_
    obtain rfl := in1 h
    exact W.aret hx hb hr (Or.inl ⟨_, rfl⟩) (Or.inr ⟨_, rfl⟩) (fun t ht hW => qkA hP hD hS (fun k => k) rfl rfl ht) hS.2.2 d_9_3_9
  exact key _ _ _ hts hP hS
set_option maxRecDepth 100000 in
set_option maxHeartbeats 4000000 in
theorem s_Li_isAsThen (l : Launch) (z : Zz) (ad : Nat → Nat) (E : Ev) (M : Mm) (x1 : Int) (r : Int)  (hL : Lay E) (h : f_Li_isAsThen E M x1 = some r) : CT l z ⟨"Ballothall$Lists", "isAsThen", "(I)Z"⟩ prog_9_method_13_code 3 (some .boolean) [.ref (ad 53), .int (oI x1)] (wv z ad E M) 1 40 0 0 (fun _ => some (.int (oI r))) (fun _ => (wv z ad E M)) := by
  refine CT.of (own := "Ballothall$Lists") (by decide +kernel) (Nat.le_of_ble_eq_true rfl) rfl (fun p e s m below meth c A ls hx hb hml hr hts hown hlocks hin hA hG hZ hP hD hS hl => ?_)
  have hl : lv_has ls 3 [(0, .ref (ad 53)), (1, .int (oI x1))] := hl
  have key : ∀ (H : Heap) (locs : List Loc) (args : Array Value), (∀ w ∈ WG, w.before args s = true) → va_P z.1 classes (wv z ad E M) H → va_S A s.heap H locs → W p l e (rmK 1 40 0 0) s m args below meth c H locs 0 0 (MQ below (QK z A (fun _ => some (.int (oI r))) (fun _ => (wv z ad E M))) args s 0 0 A) (F0 m 0 ls []) := by
    intro H locs args hts hP hS
    unfold f_Li_isAsThen at h
    refine lv_aload_n hx hb d_9_13_0 rfl (lv_at hl 0 rfl) ?_
    obtain ⟨r0, g0, h⟩ := bd_e h
    refine kV (As := []) (rest := []) (s_Li_latest l z ad E M r0 hL g0) hx hb hml hown hts w_584 w_581 w_583 w_s_46c41a w_5 md_cb0049 ⟨Nat.le_of_ble_eq_true rfl, Nat.le_of_ble_eq_true rfl⟩ hG hZ hP hD hS hA 53 (wv_o (ci := 7) (yi_53 hL) (yt_53 hL)) rfl rfl rfl hl.1 rfl (Nat.le_of_ble_eq_true rfl) d_9_13_1 ⟨Nat.le_of_ble_eq_true rfl, Nat.le_of_ble_eq_true rfl⟩ (fun _ H locs hP hD hS => ?_)
    have hP : va_P z.1 classes (wv z ad E M) H := hP
    have hD : va_D A (wv z ad E M) := hD
    obtain ⟨h_r0, h⟩ := ck_e h
    refine W.eq (g2 := F0 m 4 ls [.ref (ad r0)]) rfl ?_
    refine lv_astore_n (lv' := [(2, .ref (ad r0)), (0, .ref (ad 53)), (1, .int (oI x1))]) hx hb d_9_13_4 rfl hl (by decide) rfl (fun ls hl => ?_)
    refine lv_iload_n hx hb d_9_13_5 rfl (lv_at hl 2 rfl) ?_
    refine lv_aload_n hx hb d_9_13_6 rfl (lv_at hl 0 rfl) ?_
    refine m_giN (C := "Ballothall$KeptSeats") (T := TX6) (N := 7) (ci := 6) (k := 2) hx hb hts iX6 hown hG hP (isKs_i h_r0) (isKs_T h_r0) rfl (by decide) n_216 rfl (fun _ h9 => h9) rfl rfl d_9_13_7 ?_
    obtain ⟨ok1, h⟩ := ck_e h
    obtain ⟨ok2, h⟩ := ck_e h
    refine lv_icmp_ge (tgt := 50) hx hb d_9_13_10 (by decide) (fun c9 => ?_) (fun c9 => ?_)
    · have h := ite_t ((oI_le (a := (M r0 2)) (b := x1) ok2 ok1).mp c9) h
      refine lv_iconst (v := oI 0) hx hb d_9_13_50 (by decide +kernel) ?_
      obtain rfl := in1 h
      exact W.zret hx hb hr rfl (fun t ht hW => qkA hP hD hS (fun k => k) rfl rfl ht) hS.2.2 d_9_13_51
    · have h := ite_f (fun q => c9 ((oI_le (a := (M r0 2)) (b := x1) ok2 ok1).mpr q)) h
      refine lv_aload_n hx hb d_9_13_13 rfl (lv_at hl 1 rfl) ?_
      refine m_gr (j := 55) (C := "Ballothall$Lists") (T := TX7) (N := 11) (ci := 7) (k := 2) hx hb hts iX7 hown hG hP (yi_53 hL) (yt_53 hL) rfl (by decide) w_245 (fun _ h9 => h9) rfl rfl (yr_53_2 hL) d_9_13_14 ?_
      refine lv_iload_n hx hb d_9_13_17 rfl (lv_at hl 2 rfl) ?_
      obtain ⟨ok3, h⟩ := ck_e h
      refine m_ia hx hb hG hP (yi_55 hL) (yt_55 hL) ok3 d_9_13_18 ?_
      obtain ⟨ok4, h⟩ := ck_e h
      refine lv_if_ne (tgt := 50) hx hb d_9_13_19 (by decide) (fun c9 => ?_) (fun c9 => ?_)
      · have h := ite_f (fun q => c9 ((oI_eq0 ok4).mpr q)) h
        refine lv_iconst (v := oI 0) hx hb d_9_13_50 (by decide +kernel) ?_
        obtain rfl := in1 h
        exact W.zret hx hb hr rfl (fun t ht hW => qkA hP hD hS (fun k => k) rfl rfl ht) hS.2.2 d_9_13_51
      · have h := ite_t ((oI_eq0 ok4).mp c9) h
        refine lv_aload_n hx hb d_9_13_22 rfl (lv_at hl 0 rfl) ?_
        refine m_grN (j := (r0 + 4)) (C := "Ballothall$KeptSeats") (T := TX6) (N := 7) (ci := 6) (k := 6) hx hb hts iX6 hown hG hP (isKs_i h_r0) (isKs_T h_r0) rfl (by decide) n_226 rfl (fun _ h9 => h9) rfl rfl (isKs_r6 h_r0) d_9_13_23 ?_
        refine lv_iload_n hx hb d_9_13_26 rfl (lv_at hl 2 rfl) ?_
        refine m_ia hx hb hG hP (isKs_i4 h_r0) (isKs_t4 h_r0) ok3 d_9_13_27 ?_
        obtain ⟨ok5, h⟩ := ck_e h
        refine lv_if_ne (tgt := 50) hx hb d_9_13_28 (by decide) (fun c9 => ?_) (fun c9 => ?_)
        · have h := ite_f (fun q => c9 ((oI_eq0 ok5).mpr q)) h
          refine lv_iconst (v := oI 0) hx hb d_9_13_50 (by decide +kernel) ?_
          obtain rfl := in1 h
          exact W.zret hx hb hr rfl (fun t ht hW => qkA hP hD hS (fun k => k) rfl rfl ht) hS.2.2 d_9_13_51
        · have h := ite_t ((oI_eq0 ok5).mp c9) h
          refine lv_aload_n hx hb d_9_13_31 rfl (lv_at hl 1 rfl) ?_
          refine m_gr (j := 54) (C := "Ballothall$Lists") (T := TX7) (N := 11) (ci := 7) (k := 1) hx hb hts iX7 hown hG hP (yi_53 hL) (yt_53 hL) rfl (by decide) w_244 (fun _ h9 => h9) rfl rfl (yr_53_1 hL) d_9_13_32 ?_
          refine lv_iload_n hx hb d_9_13_35 rfl (lv_at hl 2 rfl) ?_
          refine m_ia hx hb hG hP (yi_54 hL) (yt_54 hL) ok3 d_9_13_36 ?_
          refine lv_aload_n hx hb d_9_13_37 rfl (lv_at hl 0 rfl) ?_
          refine m_grN (j := (r0 + 3)) (C := "Ballothall$KeptSeats") (T := TX6) (N := 7) (ci := 6) (k := 5) hx hb hts iX6 hown hG hP (isKs_i h_r0) (isKs_T h_r0) rfl (by decide) n_224 rfl (fun _ h9 => h9) rfl rfl (isKs_r5 h_r0) d_9_13_38 ?_
          refine lv_iload_n hx hb d_9_13_41 rfl (lv_at hl 2 rfl) ?_
          refine m_ia hx hb hG hP (isKs_i3 h_r0) (isKs_t3 h_r0) ok3 d_9_13_42 ?_
          obtain ⟨ok6, h⟩ := ck_e h
          obtain ⟨ok7, h⟩ := ck_e h
          refine lv_icmp_ne (tgt := 50) hx hb d_9_13_43 (by decide) (fun c9 => ?_) (fun c9 => ?_)
          · have h := ite_f (fun q => c9 ((oI_eq (a := (M 54 x1.toNat)) (b := (M (r0 + 3) x1.toNat)) ok6 ok7).mpr q)) h
            refine lv_iconst (v := oI 0) hx hb d_9_13_50 (by decide +kernel) ?_
            obtain rfl := in1 h
            exact W.zret hx hb hr rfl (fun t ht hW => qkA hP hD hS (fun k => k) rfl rfl ht) hS.2.2 d_9_13_51
          · have h := ite_t ((oI_eq (a := (M 54 x1.toNat)) (b := (M (r0 + 3) x1.toNat)) ok6 ok7).mp c9) h
            refine lv_iconst (v := oI 1) hx hb d_9_13_46 (by decide +kernel) ?_
            refine lv_goto (tgt := 51) hx hb d_9_13_47 (by decide) ?_
            obtain rfl := in1 h
            exact W.zret hx hb hr rfl (fun t ht hW => qkA hP hD hS (fun k => k) rfl rfl ht) hS.2.2 d_9_13_51
  exact key _ _ _ hts hP hS
set_option maxRecDepth 100000 in
set_option maxHeartbeats 4000000 in
theorem b_Li_isUnjust_20b (l : Launch) (z : Zz) (ad : Nat → Nat) (E : Ev) (M : Mm) (q1 : Nat) (x2 : Int) (x3 : Int) (t : Nat) (w3 : Int)  {Q : State → Prop} {p : Program} {e : Env} {s : State} {m : MethodId} {below : List Frame} {meth : Method} {c : Code} {A : Nat → Prop} {args : Array Value} (hx : p.tables.exec = Jvm.exec) (hb : c.code = prog_9_method_12_code) (hml : c.maxLocals = 4) (hts : ∀ w ∈ WG, w.before args s = true) (hown : s.vm.findClass "Ballothall$Lists" = some m.cls) (hlocks : meth.locks = false) (hA : ∀ q, s.heap.size ≤ q → A q) (hG : KG z s) (hZ : FZ z A s) (hL : Lay E) (h : Li_isUnjust_20b E M q1 x2 x3 = some (t, w3)) (k0 : t = 0 → ∀ (H : Heap) (locs : List Loc) (ls : Array Slot), va_P z.1 classes (wv z ad E M) H → va_D A (wv z ad E M) → va_S A s.heap H locs → lv_has ls 4 [(0, .ref (ad 53)), (1, .ref (ad q1)), (2, .int (oI x2)), (3, .int (oI w3))] → W p l e (rmK 2 62 0 0) s m args below meth c H locs 0 0 Q (F0 m 20 ls [])) (k1 : t = 1 → ∀ (H : Heap) (locs : List Loc) (ls : Array Slot), va_P z.1 classes (wv z ad E M) H → va_D A (wv z ad E M) → va_S A s.heap H locs → lv_has ls 4 [] → W p l e (rmK 2 62 0 0) s m args below meth c H locs 0 0 Q (F0 m 68 ls [])) (k2 : t = 2 → ∀ (H : Heap) (locs : List Loc) (ls : Array Slot), va_P z.1 classes (wv z ad E M) H → va_D A (wv z ad E M) → va_S A s.heap H locs → lv_has ls 4 [(0, .ref (ad 53)), (1, .ref (ad q1)), (2, .int (oI x2))] → W p l e (rmK 2 62 0 0) s m args below meth c H locs 0 0 Q (F0 m 76 ls [])) : ∀ (H : Heap) (locs : List Loc) (ls : Array Slot), va_P z.1 classes (wv z ad E M) H → va_D A (wv z ad E M) → va_S A s.heap H locs → lv_has ls 4 [(0, .ref (ad 53)), (1, .ref (ad q1)), (2, .int (oI x2)), (3, .int (oI x3))] → W p l e (rmK 2 62 0 0) s m args below meth c H locs 0 0 Q (F0 m 20 ls []) := by
  intro H locs ls hP hD hS hl
  unfold Li_isUnjust_20b at h
  obtain ⟨h_q1, h⟩ := ck_e h
  refine lv_iload_n hx hb d_9_12_20 rfl (lv_at hl 3 rfl) ?_
  refine lv_aload_n hx hb d_9_12_21 rfl (lv_at hl 0 rfl) ?_
  refine m_gi (C := "Ballothall$Lists") (T := TX7) (N := 11) (ci := 7) (k := 0) hx hb hts iX7 hown hG hP (yi_53 hL) (yt_53 hL) rfl (by decide) w_242 (fun _ h9 => h9) rfl rfl d_9_12_22 ?_
  obtain ⟨ok3, h⟩ := ck_e h
  obtain ⟨ok4, h⟩ := ck_e h
  refine lv_icmp_ge (tgt := 76) hx hb d_9_12_25 (by decide) (fun c9 => ?_) (fun c9 => ?_)
  · have h := ite_t ((oI_le (a := (M 53 0)) (b := x3) ok4 ok3).mp c9) h
    obtain ⟨rfl, rfl⟩ := in2 h
    exact k2 rfl H locs ls hP hD hS (lv_sub hl [0, 1, 2] rfl)
  · have h := ite_f (fun q => c9 ((oI_le (a := (M 53 0)) (b := x3) ok4 ok3).mpr q)) h
    refine lv_aload_n hx hb d_9_12_28 rfl (lv_at hl 0 rfl) ?_
    refine m_gr (j := 54) (C := "Ballothall$Lists") (T := TX7) (N := 11) (ci := 7) (k := 1) hx hb hts iX7 hown hG hP (yi_53 hL) (yt_53 hL) rfl (by decide) w_244 (fun _ h9 => h9) rfl rfl (yr_53_1 hL) d_9_12_29 ?_
    refine lv_iload_n hx hb d_9_12_32 rfl (lv_at hl 2 rfl) ?_
    obtain ⟨ok5, h⟩ := ck_e h
    refine m_ia hx hb hG hP (yi_54 hL) (yt_54 hL) ok5 d_9_12_33 ?_
    refine lv_aload_n hx hb d_9_12_34 rfl (lv_at hl 0 rfl) ?_
    refine m_gr (j := 54) (C := "Ballothall$Lists") (T := TX7) (N := 11) (ci := 7) (k := 1) hx hb hts iX7 hown hG hP (yi_53 hL) (yt_53 hL) rfl (by decide) w_244 (fun _ h9 => h9) rfl rfl (yr_53_1 hL) d_9_12_35 ?_
    refine lv_iload_n hx hb d_9_12_38 rfl (lv_at hl 3 rfl) ?_
    obtain ⟨ok6, h⟩ := ck_e h
    refine m_ia hx hb hG hP (yi_54 hL) (yt_54 hL) ok6 d_9_12_39 ?_
    obtain ⟨ok7, h⟩ := ck_e h
    obtain ⟨ok8, h⟩ := ck_e h
    refine lv_icmp_le (tgt := 70) hx hb d_9_12_40 (by decide) (fun c9 => ?_) (fun c9 => ?_)
    · have h := ite_t ((oI_le (a := (M 54 x2.toNat)) (b := (M 54 x3.toNat)) ok7 ok8).mp c9) h
      refine lv_iinc (v := oI (x3 + 1)) (lv' := [(3, .int (oI (x3 + 1))), (0, .ref (ad 53)), (1, .ref (ad q1)), (2, .int (oI x2))]) hx hb d_9_12_70 hl (k := 3) rfl (oI_add x3 1) (by decide) rfl (fun ls hl => ?_)
      refine lv_goto (tgt := 20) hx hb d_9_12_73 (by decide) ?_
      obtain ⟨rfl, rfl⟩ := in2 h
      exact k0 rfl H locs ls hP hD hS (lv_sub hl [1, 2, 3, 0] rfl)
    · have h := ite_f (fun q => c9 ((oI_le (a := (M 54 x2.toNat)) (b := (M 54 x3.toNat)) ok7 ok8).mpr q)) h
      refine lv_aload_n hx hb d_9_12_43 rfl (lv_at hl 1 rfl) ?_
      refine lv_iload_n hx hb d_9_12_44 rfl (lv_at hl 2 rfl) ?_
      obtain ⟨ok9, h⟩ := ck_e h
      refine m_ia hx hb hG hP h_q1.1 (isIA_T h_q1) ok9 d_9_12_45 ?_
      refine lv_aload_n hx hb d_9_12_46 rfl (lv_at hl 1 rfl) ?_
      refine lv_iload_n hx hb d_9_12_47 rfl (lv_at hl 3 rfl) ?_
      obtain ⟨ok10, h⟩ := ck_e h
      refine m_ia hx hb hG hP h_q1.1 (isIA_T h_q1) ok10 d_9_12_48 ?_
      obtain ⟨ok11, h⟩ := ck_e h
      obtain ⟨ok12, h⟩ := ck_e h
      refine lv_icmp_ge (tgt := 70) hx hb d_9_12_49 (by decide) (fun c9 => ?_) (fun c9 => ?_)
      · have h := ite_t ((oI_le (a := (M q1 x3.toNat)) (b := (M q1 x2.toNat)) ok12 ok11).mp c9) h
        refine lv_iinc (v := oI (x3 + 1)) (lv' := [(3, .int (oI (x3 + 1))), (0, .ref (ad 53)), (1, .ref (ad q1)), (2, .int (oI x2))]) hx hb d_9_12_70 hl (k := 3) rfl (oI_add x3 1) (by decide) rfl (fun ls hl => ?_)
        refine lv_goto (tgt := 20) hx hb d_9_12_73 (by decide) ?_
        obtain ⟨rfl, rfl⟩ := in2 h
        exact k0 rfl H locs ls hP hD hS (lv_sub hl [1, 2, 3, 0] rfl)
      · have h := ite_f (fun q => c9 ((oI_le (a := (M q1 x3.toNat)) (b := (M q1 x2.toNat)) ok12 ok11).mpr q)) h
        refine lv_aload_n hx hb d_9_12_52 rfl (lv_at hl 0 rfl) ?_
        refine lv_iload_n hx hb d_9_12_53 rfl (lv_at hl 2 rfl) ?_
        obtain ⟨r13, g13, h⟩ := bd_e h
        refine kV (As := [.int (oI x2)]) (rest := []) (s_Li_isAsThen l z ad E M x2 r13 hL g13) hx hb hml hown hts w_588 w_585 w_587 w_s_e4f459 w_5 md_7b5a11 ⟨Nat.le_of_ble_eq_true rfl, Nat.le_of_ble_eq_true rfl⟩ hG hZ hP hD hS hA 53 (wv_o (ci := 7) (yi_53 hL) (yt_53 hL)) rfl rfl rfl hl.1 rfl (Nat.le_of_ble_eq_true rfl) d_9_12_54 ⟨Nat.le_of_ble_eq_true rfl, Nat.le_of_ble_eq_true rfl⟩ (fun _ H locs hP hD hS => ?_)
        have hP : va_P z.1 classes (wv z ad E M) H := hP
        have hD : va_D A (wv z ad E M) := hD
        refine W.eq (g2 := F0 m 57 ls [.int (oI r13)]) rfl ?_
        obtain ⟨ok14, h⟩ := ck_e h
        refine lv_if_eq (tgt := 70) hx hb d_9_12_57 (by decide) (fun c9 => ?_) (fun c9 => ?_)
        · have h := ite_t ((oI_eq0 ok14).mp c9) h
          refine lv_iinc (v := oI (x3 + 1)) (lv' := [(3, .int (oI (x3 + 1))), (0, .ref (ad 53)), (1, .ref (ad q1)), (2, .int (oI x2))]) hx hb d_9_12_70 hl (k := 3) rfl (oI_add x3 1) (by decide) rfl (fun ls hl => ?_)
          refine lv_goto (tgt := 20) hx hb d_9_12_73 (by decide) ?_
          obtain ⟨rfl, rfl⟩ := in2 h
          exact k0 rfl H locs ls hP hD hS (lv_sub hl [1, 2, 3, 0] rfl)
        · have h := ite_f (fun q => c9 ((oI_eq0 ok14).mpr q)) h
          refine lv_aload_n hx hb d_9_12_60 rfl (lv_at hl 0 rfl) ?_
          refine lv_iload_n hx hb d_9_12_61 rfl (lv_at hl 3 rfl) ?_
          obtain ⟨r15, g15, h⟩ := bd_e h
          refine kV (As := [.int (oI x3)]) (rest := []) (s_Li_isAsThen l z ad E M x3 r15 hL g15) hx hb hml hown hts w_588 w_585 w_587 w_s_e4f459 w_5 md_7b5a11 ⟨Nat.le_of_ble_eq_true rfl, Nat.le_of_ble_eq_true rfl⟩ hG hZ hP hD hS hA 53 (wv_o (ci := 7) (yi_53 hL) (yt_53 hL)) rfl rfl rfl hl.1 rfl (Nat.le_of_ble_eq_true rfl) d_9_12_62 ⟨Nat.le_of_ble_eq_true rfl, Nat.le_of_ble_eq_true rfl⟩ (fun _ H locs hP hD hS => ?_)
          have hP : va_P z.1 classes (wv z ad E M) H := hP
          have hD : va_D A (wv z ad E M) := hD
          refine W.eq (g2 := F0 m 65 ls [.int (oI r15)]) rfl ?_
          obtain ⟨ok16, h⟩ := ck_e h
          refine lv_if_eq (tgt := 70) hx hb d_9_12_65 (by decide) (fun c9 => ?_) (fun c9 => ?_)
          · have h := ite_t ((oI_eq0 ok16).mp c9) h
            refine lv_iinc (v := oI (x3 + 1)) (lv' := [(3, .int (oI (x3 + 1))), (0, .ref (ad 53)), (1, .ref (ad q1)), (2, .int (oI x2))]) hx hb d_9_12_70 hl (k := 3) rfl (oI_add x3 1) (by decide) rfl (fun ls hl => ?_)
            refine lv_goto (tgt := 20) hx hb d_9_12_73 (by decide) ?_
            obtain ⟨rfl, rfl⟩ := in2 h
            exact k0 rfl H locs ls hP hD hS (lv_sub hl [1, 2, 3, 0] rfl)
          · have h := ite_f (fun q => c9 ((oI_eq0 ok16).mpr q)) h
            obtain ⟨rfl, rfl⟩ := in2 h
            exact k1 rfl H locs ls hP hD hS (lv_sub hl [] rfl)
