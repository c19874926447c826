set_option maxRecDepth 100000 in
set_option maxHeartbeats 4000000 in
theorem b_Co_start_102b (l : Launch) (z : Zz) (E0 : Ev) (ad0 : Nat → Nat) (ad : Nat → Nat) (E : Ev) (M : Mm) (x3 : Int) (t : Nat) (w3 : Int) (F : Ev) (N : Mm) {Q : State → Prop} {p : Program} {e : Env} {s : State} {m : MethodId} {below : List Frame} {meth : Method} {c : Code} {A : Nat → Prop} {args : Array Value} (hx : p.tables.exec = Jvm.exec) (hb : c.code = prog_5_method_6_code) (hml : c.maxLocals = 7) (hts : ∀ w ∈ WG, w.before args s = true) (hown : s.vm.findClass "Ballothall$Counting" = some m.cls) (hlocks : meth.locks = false) (hA : ∀ q, s.heap.size ≤ q → A q) (hG : KG z s) (hZ : FZ z A s) (mc ms c0 s0 c1 s1 : Nat) (hc : c0 + 0 ≤ c1) (hs : s0 + 0 ≤ s1) (hm : c1 ≤ mc) (hm2 : s1 ≤ ms) (hag0 : ∀ i, i < nE E0 → ad i = ad0 i) (hE0 : nE E0 ≤ nE E) (h : Co_start_102b E M x3 = some (t, w3, F, N)) (k0 : ∀ (ad1 : Nat → Nat), (∀ i, i < nE E0 → ad1 i = ad0 i) → nE E0 ≤ nE F → t = 0 → ∀ (H : Heap) (locs : List Loc) (ls : Array Slot), va_P z.1 classes (wv z ad1 F N) H → va_D A (wv z ad1 F N) → va_S A s.heap H locs → lv_has ls 7 [(0, .ref (ad1 179)), (3, .int (oI w3))] → W p l e (rmK 4 110 mc ms) s m args below meth c H locs c1 s1 Q (F0 m 102 ls [])) (k1 : ∀ (ad1 : Nat → Nat), (∀ i, i < nE E0 → ad1 i = ad0 i) → nE E0 ≤ nE F → t = 1 → ∀ (H : Heap) (locs : List Loc) (ls : Array Slot), va_P z.1 classes (wv z ad1 F N) H → va_D A (wv z ad1 F N) → va_S A s.heap H locs → lv_has ls 7 [(0, .ref (ad1 179))] → W p l e (rmK 4 110 mc ms) s m args below meth c H locs c1 s1 Q (F0 m 124 ls [])) : ∀ (H : Heap) (locs : List Loc) (ls : Array Slot), va_P z.1 classes (wv z ad E M) H → va_D A (wv z ad E M) → va_S A s.heap H locs → lv_has ls 7 [(0, .ref (ad 179)), (3, .int (oI x3))] → W p l e (rmK 4 110 mc ms) s m args below meth c H locs c0 s0 Q (F0 m 102 ls []) := by
  intro H locs ls hP hD hS hl
  unfold Co_start_102b at h
  obtain ⟨hL, h⟩ := ck_e h
  refine lv_iload_n hx hb d_5_6_102 rfl (lv_at hl 1 rfl) ?_
  refine lv_bipush (v := oI 9) hx hb d_5_6_103 (by decide +kernel) ?_
  obtain ⟨ok107, h⟩ := ck_e h
  refine lv_icmp_ge (tgt := 124) hx hb d_5_6_105 (by decide) (fun c9 => ?_) (fun c9 => ?_)
  · have h := ite_t ((oI_le (a := (9 : Int)) (b := x3) (by decide) ok107).mp c9) h
    obtain ⟨rfl, rfl, rfl, rfl⟩ := in4 h
    exact W.wide (by omega) (by omega) (k1 ad hag0 hE0 rfl H locs ls hP hD hS (lv_sub hl [0] rfl))
  · have h := ite_f (fun q => c9 ((oI_le (a := (9 : Int)) (b := x3) (by decide) ok107).mpr q)) h
    refine lv_aload_n hx hb d_5_6_108 rfl (lv_at hl 0 rfl) ?_
    refine m_gr (j := 182) (C := "Ballothall$Counting") (T := TX3) (N := 15) (ci := 3) (k := 5) hx hb hts iX3 hown hG hP (yi_179 hL) (yt_179 hL) rfl (by decide) w_308 (fun _ h9 => h9) rfl rfl (yr_179_5 hL) d_5_6_109 ?_
    refine lv_iload_n hx hb d_5_6_112 rfl (lv_at hl 1 rfl) ?_
    obtain ⟨ok108, h⟩ := ck_e h
    refine m_aa (k := (201 + 2 * x3.toNat)) (t := 5) (C := "Ballothall$Natural") hx hb hG hP (yi_182 hL) (yt_182 hL) rfl rfl ok108 (ya_182 hL (inb_lt ok108)) d_5_6_113 ?_
    refine lv_lconst (v := oJ 0) hx hb d_5_6_114 (by decide +kernel) ?_
    obtain ⟨M109, g109, h⟩ := bd_e h
    refine kVN (As := [.long (oJ 0)]) (rest := []) (s_Na_become l z ad E M (201 + 2 * x3.toNat) 0 M109 hL g109) hx hb hml hown hts w_604 n_601 w_603 w_s_5a2a50 w_9 md_34308f ⟨Nat.le_of_ble_eq_true rfl, Nat.le_of_ble_eq_true rfl⟩ hG hZ hP hD hS hA (201 + 2 * x3.toNat) (wv_o (ci := 8) (isNa_i (yg_182 hL ok108)) (isNa_T (yg_182 hL ok108))) rfl rfl rfl hl.1 rfl (Nat.le_of_ble_eq_true rfl) d_5_6_115 ⟨(show _ ≤ mc by omega), (show _ ≤ ms by omega)⟩ (fun _ H locs hP hD hS => ?_)
    have hP : va_P z.1 classes (wv z ad E M109) H := hP
    have hD : va_D A (wv z ad E M109) := hD
    refine W.eq (g2 := F0 m 118 ls []) rfl ?_
    refine lv_iinc (v := oI (x3 + 1)) (lv' := [(3, .int (oI (x3 + 1))), (0, .ref (ad 179))]) hx hb d_5_6_118 hl (k := 1) rfl (oI_add x3 1) (by decide) rfl (fun ls hl => ?_)
    refine lv_goto (tgt := 102) hx hb d_5_6_121 (by decide) ?_
    obtain ⟨rfl, rfl, rfl, rfl⟩ := in4 h
    exact W.wide (by omega) (by omega) (k0 ad hag0 hE0 rfl H locs ls hP hD hS (lv_sub hl [1, 0] rfl))
set_option maxRecDepth 100000 in
set_option maxHeartbeats 4000000 in
theorem s_Co_start_102 (l : Launch) (z : Zz) (E0 : Ev) (ad0 : Nat → Nat) {Q : State → Prop} {p : Program} {e : Env} {s : State} {m : MethodId} {below : List Frame} {meth : Method} {c : Code} {A : Nat → Prop} {args : Array Value} (hx : p.tables.exec = Jvm.exec) (hb : c.code = prog_5_method_6_code) (hml : c.maxLocals = 7) (hts : ∀ w ∈ WG, w.before args s = true) (hown : s.vm.findClass "Ballothall$Counting" = some m.cls) (hlocks : meth.locks = false) (hA : ∀ q, s.heap.size ≤ q → A q) (hG : KG z s) (hZ : FZ z A s) (mc ms c1 s1 : Nat) (hm : c1 ≤ mc) (hm2 : s1 ≤ ms) : ∀ (fu c0 s0 : Nat) (ad : Nat → Nat) (E : Ev) (M : Mm) (x3 : Int) (t : Nat) (w3 : Int) (F : Ev) (N : Mm), c0 + fu * 0 ≤ c1 → s0 + fu * 0 ≤ s1 → (∀ i, i < nE E0 → ad i = ad0 i) → nE E0 ≤ nE E → l_Co_start_102 fu E M x3 = some (t, w3, F, N) → (∀ (ad1 : Nat → Nat), (∀ i, i < nE E0 → ad1 i = ad0 i) → nE E0 ≤ nE F → t = 1 → ∀ (H : Heap) (locs : List Loc) (ls : Array Slot), va_P z.1 classes (wv z ad1 F N) H → va_D A (wv z ad1 F N) → va_S A s.heap H locs → lv_has ls 7 [(0, .ref (ad1 179))] → W p l e (rmK 4 110 mc ms) s m args below meth c H locs c1 s1 Q (F0 m 124 ls [])) → ∀ (H : Heap) (locs : List Loc) (ls : Array Slot), va_P z.1 classes (wv z ad E M) H → va_D A (wv z ad E M) → va_S A s.heap H locs → lv_has ls 7 [(0, .ref (ad 179)), (3, .int (oI x3))] → W p l e (rmK 4 110 mc ms) s m args below meth c H locs c0 s0 Q (F0 m 102 ls []) := by
  intro fu
  induction fu with
  | zero =>
    intro c0 s0 ad E M x3 t w3 F N hc hs hag0 hE0 h
    have h : (none : Option (Nat × Int × Ev × Mm)) = some _ := h
    cases h
  | succ fu ih =>
    intro c0 s0 ad E M x3 t w3 F N hc hs hag0 hE0 h k1 H locs ls hP hD hS hl
    obtain ⟨⟨t0, w30, F9, N9⟩, g0, h⟩ := bd_e h
    refine W.wide (Nat.le_refl _) (Nat.le_refl _) (b_Co_start_102b l z E0 ad0 ad E M x3 t0 w30 F9 N9 hx hb hml hts hown hlocks hA hG hZ mc ms c0 s0 (c0 + 0) (s0 + 0) (Nat.le_refl _) (Nat.le_refl _) (by omega) (by omega) hag0 hE0 g0 (fun ad1 ha he e0 => ?_) (fun ad1 ha he e0 => ?_) H locs ls hP hD hS hl)
    · subst e0
      have h := ite_t rfl h
      exact ih (c0 + 0) (s0 + 0) ad1 F9 N9 w30 t w3 F N (by omega) (by omega) ha he h k1
    · subst e0
      have h := ite_f (by decide) h
      obtain ⟨rfl, rfl, rfl, rfl⟩ := in4 h
      exact fun H locs ls hP hD hS hl => W.wide (by omega) (by omega) (k1 ad1 ha he rfl H locs ls hP hD hS hl)
set_option maxRecDepth 100000 in
set_option maxHeartbeats 4000000 in
theorem b_Co_start_162b (l : Launch) (z : Zz) (E0 : Ev) (ad0 : Nat → Nat) (ad : Nat → Nat) (E : Ev) (M : Mm) (x3 : Int) (x5 : Int) (x6 : Int) (t : Nat) (w6 : Int) (F : Ev) (N : Mm) {Q : State → Prop} {p : Program} {e : Env} {s : State} {m : MethodId} {below : List Frame} {meth : Method} {c : Code} {A : Nat → Prop} {args : Array Value} (hx : p.tables.exec = Jvm.exec) (hb : c.code = prog_5_method_6_code) (hml : c.maxLocals = 7) (hts : ∀ w ∈ WG, w.before args s = true) (hown : s.vm.findClass "Ballothall$Counting" = some m.cls) (hlocks : meth.locks = false) (hA : ∀ q, s.heap.size ≤ q → A q) (hG : KG z s) (hZ : FZ z A s) (mc ms c0 s0 c1 s1 : Nat) (hc : c0 + 2 ≤ c1) (hs : s0 + 15 ≤ s1) (hm : c1 ≤ mc) (hm2 : s1 ≤ ms) (hag0 : ∀ i, i < nE E0 → ad i = ad0 i) (hE0 : nE E0 ≤ nE E) (h : Co_start_162b E M x3 x5 x6 = some (t, w6, F, N)) (k0 : ∀ (ad1 : Nat → Nat), (∀ i, i < nE E0 → ad1 i = ad0 i) → nE E0 ≤ nE F → t = 0 → ∀ (H : Heap) (locs : List Loc) (ls : Array Slot), va_P z.1 classes (wv z ad1 F N) H → va_D A (wv z ad1 F N) → va_S A s.heap H locs → lv_has ls 7 [(0, .ref (ad1 179)), (3, .long (oJ x3)), (5, .int (oI x5)), (6, .int (oI w6))] → W p l e (rmK 4 110 mc ms) s m args below meth c H locs c1 s1 Q (F0 m 162 ls [])) (k1 : ∀ (ad1 : Nat → Nat), (∀ i, i < nE E0 → ad1 i = ad0 i) → nE E0 ≤ nE F → t = 1 → ∀ (H : Heap) (locs : List Loc) (ls : Array Slot), va_P z.1 classes (wv z ad1 F N) H → va_D A (wv z ad1 F N) → va_S A s.heap H locs → lv_has ls 7 [(0, .ref (ad1 179)), (3, .long (oJ x3)), (5, .int (oI x5))] → W p l e (rmK 4 110 mc ms) s m args below meth c H locs c1 s1 Q (F0 m 192 ls [])) : ∀ (H : Heap) (locs : List Loc) (ls : Array Slot), va_P z.1 classes (wv z ad E M) H → va_D A (wv z ad E M) → va_S A s.heap H locs → lv_has ls 7 [(0, .ref (ad 179)), (3, .long (oJ x3)), (5, .int (oI x5)), (6, .int (oI x6))] → W p l e (rmK 4 110 mc ms) s m args below meth c H locs c0 s0 Q (F0 m 162 ls []) := by
  intro H locs ls hP hD hS hl
  unfold Co_start_162b at h
  obtain ⟨hL, h⟩ := ck_e h
  refine lv_iload hx hb d_5_6_162 (lv_at hl 3 rfl) ?_
  refine lv_aload_n hx hb d_5_6_164 rfl (lv_at hl 0 rfl) ?_
  refine m_gr (j := 2) (C := "Ballothall$Counting") (T := TX3) (N := 15) (ci := 3) (k := 0) hx hb hts iX3 hown hG hP (yi_179 hL) (yt_179 hL) rfl (by decide) w_303 (fun _ h9 => h9) rfl rfl (yr_179_0 hL) d_5_6_165 ?_
  refine m_giN (C := "Ballothall$BallotBox") (T := TX0) (N := 10) (ci := 0) (k := 2) hx hb hts iX0 hown hG hP (yi_2 hL) (yt_2 hL) rfl (by decide) n_55 rfl (fun _ h9 => h9) rfl rfl d_5_6_168 ?_
  obtain ⟨ok116, h⟩ := ck_e h
  obtain ⟨ok117, h⟩ := ck_e h
  refine lv_icmp_ge (tgt := 192) hx hb d_5_6_171 (by decide) (fun c9 => ?_) (fun c9 => ?_)
  · have h := ite_t ((oI_le (a := (M 2 2)) (b := x6) ok117 ok116).mp c9) h
    obtain ⟨rfl, rfl, rfl, rfl⟩ := in4 h
    exact W.wide (by omega) (by omega) (k1 ad hag0 hE0 rfl H locs ls hP hD hS (lv_sub hl [0, 1, 2] rfl))
  · have h := ite_f (fun q => c9 ((oI_le (a := (M 2 2)) (b := x6) ok117 ok116).mpr q)) h
    refine lv_aload_n hx hb d_5_6_174 rfl (lv_at hl 0 rfl) ?_
    refine lv_iload hx hb d_5_6_175 (lv_at hl 2 rfl) ?_
    refine lv_iload hx hb d_5_6_177 (lv_at hl 3 rfl) ?_
    obtain ⟨⟨r118, E118, M118⟩, g118, h⟩ := bd_e h
    obtain ⟨hgw118, h⟩ := ck_e h
    refine kV (As := [.int (oI x5), .int (oI x6)]) (rest := []) (s_Co_weightOfA l z ad E M x5 x6 r118 E118 M118 g118) hx hb hml hown hts w_1132 w_1129 w_1131 w_s_b275fa w_8 md_759e51 ⟨Nat.le_of_ble_eq_true rfl, Nat.le_of_ble_eq_true rfl⟩ hG hZ hP hD hS hA 179 (wv_o (ci := 3) (yi_179 hL) (yt_179 hL)) rfl rfl rfl hl.1 rfl (Nat.le_of_ble_eq_true rfl) d_5_6_179 ⟨(show _ ≤ mc by omega), (show _ ≤ ms by omega)⟩ (fun u118 H locs hP hD hS => ?_)
    obtain ⟨ad118, had118⟩ : ∃ q, q = adj E ad u118 := ⟨_, rfl⟩
    have hP : va_P z.1 classes (wv z ad118 E118 M118) H := by rw [had118]; exact hP
    have hD : va_D A (wv z ad118 E118 M118) := by rw [had118]; exact hD
    have hag118 : ∀ i, i < nE E → ad118 i = ad i := fun i hi => by rw [had118]; exact adj_lt hi
    have hl : lv_has ls 7 [(0, .ref (ad118 179)), (3, .long (oJ x3)), (5, .int (oI x5)), (6, .int (oI x6))] := by rw [hag118 179 (yi_179 hL)]; exact hl
    refine W.eq (g2 := F0 m 182 ls (.ref (ad118 r118) :: [])) (by rw [had118] <;> rfl) ?_
    have hag0 : ∀ i, i < nE E0 → ad118 i = ad0 i := fun i hi => (hag118 i (Nat.lt_of_lt_of_le hi hE0)).trans (hag0 i hi)
    have hE0 : nE E0 ≤ nE E118 := Nat.le_trans hE0 hgw118.1
    obtain ⟨hL, h⟩ := ck_e h
    obtain ⟨h_r118, h⟩ := ck_e h
    refine lv_lconst (v := oJ 0) hx hb d_5_6_182 (by decide +kernel) ?_
    obtain ⟨M119, g119, h⟩ := bd_e h
    refine kVN (As := [.long (oJ 0)]) (rest := []) (s_Na_become l z ad118 E118 M118 r118 0 M119 hL g119) hx hb hml hown hts w_604 n_601 w_603 w_s_5a2a50 w_9 md_34308f ⟨Nat.le_of_ble_eq_true rfl, Nat.le_of_ble_eq_true rfl⟩ hG hZ hP hD hS hA r118 (wv_o (ci := 8) (isNa_i h_r118) (isNa_T h_r118)) rfl rfl rfl hl.1 rfl (Nat.le_of_ble_eq_true rfl) d_5_6_183 ⟨(show _ ≤ mc by omega), (show _ ≤ ms by omega)⟩ (fun _ H locs hP hD hS => ?_)
    have hP : va_P z.1 classes (wv z ad118 E118 M119) H := hP
    have hD : va_D A (wv z ad118 E118 M119) := hD
    refine W.eq (g2 := F0 m 186 ls []) rfl ?_
    refine lv_iinc (v := oI (x6 + 1)) (lv' := [(6, .int (oI (x6 + 1))), (0, .ref (ad118 179)), (3, .long (oJ x3)), (5, .int (oI x5))]) hx hb d_5_6_186 hl (k := 3) rfl (oI_add x6 1) (by decide) rfl (fun ls hl => ?_)
    refine lv_goto (tgt := 162) hx hb d_5_6_189 (by decide) ?_
    obtain ⟨rfl, rfl, rfl, rfl⟩ := in4 h
    exact W.wide (by omega) (by omega) (k0 ad118 hag0 hE0 rfl H locs ls hP hD hS (lv_sub hl [1, 2, 3, 0] rfl))
set_option maxRecDepth 100000 in
set_option maxHeartbeats 4000000 in
theorem s_Co_start_162 (l : Launch) (z : Zz) (E0 : Ev) (ad0 : Nat → Nat) (x3 : Int) (x5 : Int) {Q : State → Prop} {p : Program} {e : Env} {s : State} {m : MethodId} {below : List Frame} {meth : Method} {c : Code} {A : Nat → Prop} {args : Array Value} (hx : p.tables.exec = Jvm.exec) (hb : c.code = prog_5_method_6_code) (hml : c.maxLocals = 7) (hts : ∀ w ∈ WG, w.before args s = true) (hown : s.vm.findClass "Ballothall$Counting" = some m.cls) (hlocks : meth.locks = false) (hA : ∀ q, s.heap.size ≤ q → A q) (hG : KG z s) (hZ : FZ z A s) (mc ms c1 s1 : Nat) (hm : c1 ≤ mc) (hm2 : s1 ≤ ms) : ∀ (fu c0 s0 : Nat) (ad : Nat → Nat) (E : Ev) (M : Mm) (x6 : Int) (t : Nat) (w6 : Int) (F : Ev) (N : Mm), c0 + fu * 2 ≤ c1 → s0 + fu * 15 ≤ s1 → (∀ i, i < nE E0 → ad i = ad0 i) → nE E0 ≤ nE E → l_Co_start_162 x3 x5 fu E M x6 = some (t, w6, F, N) → (∀ (ad1 : Nat → Nat), (∀ i, i < nE E0 → ad1 i = ad0 i) → nE E0 ≤ nE F → t = 1 → ∀ (H : Heap) (locs : List Loc) (ls : Array Slot), va_P z.1 classes (wv z ad1 F N) H → va_D A (wv z ad1 F N) → va_S A s.heap H locs → lv_has ls 7 [(0, .ref (ad1 179)), (3, .long (oJ x3)), (5, .int (oI x5))] → W p l e (rmK 4 110 mc ms) s m args below meth c H locs c1 s1 Q (F0 m 192 ls [])) → ∀ (H : Heap) (locs : List Loc) (ls : Array Slot), va_P z.1 classes (wv z ad E M) H → va_D A (wv z ad E M) → va_S A s.heap H locs → lv_has ls 7 [(0, .ref (ad 179)), (3, .long (oJ x3)), (5, .int (oI x5)), (6, .int (oI x6))] → W p l e (rmK 4 110 mc ms) s m args below meth c H locs c0 s0 Q (F0 m 162 ls []) := by
  intro fu
  induction fu with
  | zero =>
    intro c0 s0 ad E M x6 t w6 F N hc hs hag0 hE0 h
    have h : (none : Option (Nat × Int × Ev × Mm)) = some _ := h
    cases h
  | succ fu ih =>
    intro c0 s0 ad E M x6 t w6 F N hc hs hag0 hE0 h k1 H locs ls hP hD hS hl
    obtain ⟨⟨t0, w60, F9, N9⟩, g0, h⟩ := bd_e h
    refine W.wide (Nat.le_refl _) (Nat.le_refl _) (b_Co_start_162b l z E0 ad0 ad E M x3 x5 x6 t0 w60 F9 N9 hx hb hml hts hown hlocks hA hG hZ mc ms c0 s0 (c0 + 2) (s0 + 15) (Nat.le_refl _) (Nat.le_refl _) (by omega) (by omega) hag0 hE0 g0 (fun ad1 ha he e0 => ?_) (fun ad1 ha he e0 => ?_) H locs ls hP hD hS hl)
    · subst e0
      have h := ite_t rfl h
      exact ih (c0 + 2) (s0 + 15) ad1 F9 N9 w60 t w6 F N (by omega) (by omega) ha he h k1
    · subst e0
      have h := ite_f (by decide) h
      obtain ⟨rfl, rfl, rfl, rfl⟩ := in4 h
      exact fun H locs ls hP hD hS hl => W.wide (by omega) (by omega) (k1 ad1 ha he rfl H locs ls hP hD hS hl)
set_option maxRecDepth 100000 in
set_option maxHeartbeats 4000000 in
theorem b_Co_start_147b (l : Launch) (z : Zz) (E0 : Ev) (ad0 : Nat → Nat) (ad : Nat → Nat) (E : Ev) (M : Mm) (x3 : Int) (x5 : Int) (t : Nat) (w5 : Int) (F : Ev) (N : Mm) {Q : State → Prop} {p : Program} {e : Env} {s : State} {m : MethodId} {below : List Frame} {meth : Method} {c : Code} {A : Nat → Prop} {args : Array Value} (hx : p.tables.exec = Jvm.exec) (hb : c.code = prog_5_method_6_code) (hml : c.maxLocals = 7) (hts : ∀ w ∈ WG, w.before args s = true) (hown : s.vm.findClass "Ballothall$Counting" = some m.cls) (hlocks : meth.locks = false) (hA : ∀ q, s.heap.size ≤ q → A q) (hG : KG z s) (hZ : FZ z A s) (mc ms c0 s0 c1 s1 : Nat) (hc : c0 + 64 ≤ c1) (hs : s0 + 480 ≤ s1) (hm : c1 ≤ mc) (hm2 : s1 ≤ ms) (hag0 : ∀ i, i < nE E0 → ad i = ad0 i) (hE0 : nE E0 ≤ nE E) (h : Co_start_147b E M x3 x5 = some (t, w5, F, N)) (k0 : ∀ (ad1 : Nat → Nat), (∀ i, i < nE E0 → ad1 i = ad0 i) → nE E0 ≤ nE F → t = 0 → ∀ (H : Heap) (locs : List Loc) (ls : Array Slot), va_P z.1 classes (wv z ad1 F N) H → va_D A (wv z ad1 F N) → va_S A s.heap H locs → lv_has ls 7 [(0, .ref (ad1 179)), (3, .long (oJ x3)), (5, .int (oI w5))] → W p l e (rmK 4 110 mc ms) s m args below meth c H locs c1 s1 Q (F0 m 147 ls [])) (k1 : ∀ (ad1 : Nat → Nat), (∀ i, i < nE E0 → ad1 i = ad0 i) → nE E0 ≤ nE F → t = 1 → ∀ (H : Heap) (locs : List Loc) (ls : Array Slot), va_P z.1 classes (wv z ad1 F N) H → va_D A (wv z ad1 F N) → va_S A s.heap H locs → lv_has ls 7 [] → W p l e (rmK 4 110 mc ms) s m args below meth c H locs c1 s1 Q (F0 m 224 ls [])) : ∀ (H : Heap) (locs : List Loc) (ls : Array Slot), va_P z.1 classes (wv z ad E M) H → va_D A (wv z ad E M) → va_S A s.heap H locs → lv_has ls 7 [(0, .ref (ad 179)), (3, .long (oJ x3)), (5, .int (oI x5))] → W p l e (rmK 4 110 mc ms) s m args below meth c H locs c0 s0 Q (F0 m 147 ls []) := by
  intro H locs ls hP hD hS hl
  unfold Co_start_147b at h
  obtain ⟨hL, h⟩ := ck_e h
  refine lv_iload hx hb d_5_6_147 (lv_at hl 2 rfl) ?_
  refine lv_aload_n hx hb d_5_6_149 rfl (lv_at hl 0 rfl) ?_
  refine m_gr (j := 2) (C := "Ballothall$Counting") (T := TX3) (N := 15) (ci := 3) (k := 0) hx hb hts iX3 hown hG hP (yi_179 hL) (yt_179 hL) rfl (by decide) w_303 (fun _ h9 => h9) rfl rfl (yr_179_0 hL) d_5_6_150 ?_
  refine m_giN (C := "Ballothall$BallotBox") (T := TX0) (N := 10) (ci := 0) (k := 3) hx hb hts iX0 hown hG hP (yi_2 hL) (yt_2 hL) rfl (by decide) n_59 rfl (fun _ h9 => h9) rfl rfl d_5_6_153 ?_
  obtain ⟨ok114, h⟩ := ck_e h
  obtain ⟨ok115, h⟩ := ck_e h
  refine lv_icmp_ge (tgt := 224) hx hb d_5_6_156 (by decide) (fun c9 => ?_) (fun c9 => ?_)
  · have h := ite_t ((oI_le (a := (M 2 3)) (b := x5) ok115 ok114).mp c9) h
    obtain ⟨rfl, rfl, rfl, rfl⟩ := in4 h
    exact W.wide (by omega) (by omega) (k1 ad hag0 hE0 rfl H locs ls hP hD hS (lv_sub hl [] rfl))
  · have h := ite_f (fun q => c9 ((oI_le (a := (M 2 3)) (b := x5) ok115 ok114).mpr q)) h
    refine lv_iconst (v := oI 0) hx hb d_5_6_159 (by decide +kernel) ?_
    refine lv_istore (lv' := [(6, .int (oI 0)), (0, .ref (ad 179)), (3, .long (oJ x3)), (5, .int (oI x5))]) hx hb d_5_6_160 hl (by decide) rfl (fun ls hl => ?_)
    obtain ⟨⟨t120, v120_6, E120, M120⟩, g120, h⟩ := bd_e h
    obtain ⟨hgw120, h⟩ := ck_e h
    obtain ⟨hL120, h⟩ := ck_e h
    obtain ⟨ok120, h⟩ := ck_e h
    refine s_Co_start_162 l z E ad x3 x5 hx hb hml hts hown hlocks hA hG hZ mc ms (c0 + 64) (s0 + 480) (by omega) (by omega) 32 _ _ ad E M 0 t120 v120_6 E120 M120 (by omega) (by omega) (fun _ _ => rfl) (Nat.le_refl _) g120 (fun ad120 hag120 hEE120 e120 H locs ls hP hD hS hl => ?_) H locs ls hP hD hS (lv_sub hl [1, 2, 3, 0] rfl)
    have hag0 : ∀ i, i < nE E0 → ad120 i = ad0 i := fun i hi => (hag120 i (Nat.lt_of_lt_of_le hi hE0)).trans (hag0 i hi)
    have hE0 : nE E0 ≤ nE E120 := Nat.le_trans hE0 hgw120.1
    have hL : Lay E120 := hL120
    refine lv_aload_n hx hb d_5_6_192 rfl (lv_at hl 0 rfl) ?_
    refine m_gr (j := 185) (C := "Ballothall$Counting") (T := TX3) (N := 15) (ci := 3) (k := 7) hx hb hts iX3 hown hG hP (yi_179 hL) (yt_179 hL) rfl (by decide) w_310 (fun _ h9 => h9) rfl rfl (yr_179_7 hL) d_5_6_193 ?_
    refine lv_aload_n hx hb d_5_6_196 rfl (lv_at hl 0 rfl) ?_
    refine m_gr (j := 2) (C := "Ballothall$Counting") (T := TX3) (N := 15) (ci := 3) (k := 0) hx hb hts iX3 hown hG hP (yi_179 hL) (yt_179 hL) rfl (by decide) w_303 (fun _ h9 => h9) rfl rfl (yr_179_0 hL) d_5_6_197 ?_
    refine m_grN (j := 5) (C := "Ballothall$BallotBox") (T := TX0) (N := 10) (ci := 0) (k := 5) hx hb hts iX0 hown hG hP (yi_2 hL) (yt_2 hL) rfl (by decide) n_67 rfl (fun _ h9 => h9) rfl rfl (yr_2_5 hL) d_5_6_200 ?_
    refine lv_iload hx hb d_5_6_203 (lv_at hl 2 rfl) ?_
    obtain ⟨ok121, h⟩ := ck_e h
    refine m_ia hx hb hG hP (yi_5 hL) (yt_5 hL) ok121 d_5_6_205 ?_
    obtain ⟨ok122, h⟩ := ck_e h
    refine lv_i2l (v := oJ (M120 5 x5.toNat)) hx hb d_5_6_206 (oI_l ok122) ?_
    refine lv_lload_n hx hb d_5_6_207 rfl (lv_at hl 1 rfl) ?_
    refine lv_lmul hx hb d_5_6_208 ?_
    refine nrmL (oJ_mul _ _) ?_
    obtain ⟨M123, g123, h⟩ := bd_e h
    refine kVN (As := [.long (oJ ((M120 5 x5.toNat) * x3))]) (rest := []) (s_Na_become l z ad120 E120 M120 185 ((M120 5 x5.toNat) * x3) M123 hL g123) hx hb hml hown hts w_604 n_601 w_603 w_s_5a2a50 w_9 md_34308f ⟨Nat.le_of_ble_eq_true rfl, Nat.le_of_ble_eq_true rfl⟩ hG hZ hP hD hS hA 185 (wv_o (ci := 8) (yi_185 hL) (yt_185 hL)) rfl rfl rfl hl.1 rfl (Nat.le_of_ble_eq_true rfl) d_5_6_209 ⟨(show _ ≤ mc by omega), (show _ ≤ ms by omega)⟩ (fun _ H locs hP hD hS => ?_)
    have hP : va_P z.1 classes (wv z ad120 E120 M123) H := hP
    have hD : va_D A (wv z ad120 E120 M123) := hD
    refine W.eq (g2 := F0 m 212 ls []) rfl ?_
    refine lv_aload_n hx hb d_5_6_212 rfl (lv_at hl 0 rfl) ?_
    refine lv_iload hx hb d_5_6_213 (lv_at hl 2 rfl) ?_
    obtain ⟨M124, g124, h⟩ := bd_e h
    refine kV (As := [.int (oI x5)]) (rest := []) (s_Co_passOn l z ad120 E120 M123 x5 M124 hL g124) hx hb hml hown hts w_1136 w_1133 w_1135 w_s_6bacc3 w_8 md_774b9e ⟨Nat.le_of_ble_eq_true rfl, Nat.le_of_ble_eq_true rfl⟩ hG hZ hP hD hS hA 179 (wv_o (ci := 3) (yi_179 hL) (yt_179 hL)) rfl rfl rfl hl.1 rfl (Nat.le_of_ble_eq_true rfl) d_5_6_215 ⟨(show _ ≤ mc by omega), (show _ ≤ ms by omega)⟩ (fun _ H locs hP hD hS => ?_)
    have hP : va_P z.1 classes (wv z ad120 E120 M124) H := hP
    have hD : va_D A (wv z ad120 E120 M124) := hD
    refine W.eq (g2 := F0 m 218 ls []) rfl ?_
    refine lv_iinc (v := oI (x5 + 1)) (lv' := [(5, .int (oI (x5 + 1))), (0, .ref (ad120 179)), (3, .long (oJ x3))]) hx hb d_5_6_218 hl (k := 2) rfl (oI_add x5 1) (by decide) rfl (fun ls hl => ?_)
    refine lv_goto (tgt := 147) hx hb d_5_6_221 (by decide) ?_
    obtain ⟨rfl, rfl, rfl, rfl⟩ := in4 h
    exact W.wide (by omega) (by omega) (k0 ad120 hag0 hE0 rfl H locs ls hP hD hS (lv_sub hl [1, 2, 0] rfl))
set_option maxRecDepth 100000 in
set_option maxHeartbeats 4000000 in
theorem s_Co_start_147 (l : Launch) (z : Zz) (E0 : Ev) (ad0 : Nat → Nat) (x3 : Int) {Q : State → Prop} {p : Program} {e : Env} {s : State} {m : MethodId} {below : List Frame} {meth : Method} {c : Code} {A : Nat → Prop} {args : Array Value} (hx : p.tables.exec = Jvm.exec) (hb : c.code = prog_5_method_6_code) (hml : c.maxLocals = 7) (hts : ∀ w ∈ WG, w.before args s = true) (hown : s.vm.findClass "Ballothall$Counting" = some m.cls) (hlocks : meth.locks = false) (hA : ∀ q, s.heap.size ≤ q → A q) (hG : KG z s) (hZ : FZ z A s) (mc ms c1 s1 : Nat) (hm : c1 ≤ mc) (hm2 : s1 ≤ ms) : ∀ (fu c0 s0 : Nat) (ad : Nat → Nat) (E : Ev) (M : Mm) (x5 : Int) (t : Nat) (w5 : Int) (F : Ev) (N : Mm), c0 + fu * 64 ≤ c1 → s0 + fu * 480 ≤ s1 → (∀ i, i < nE E0 → ad i = ad0 i) → nE E0 ≤ nE E → l_Co_start_147 x3 fu E M x5 = some (t, w5, F, N) → (∀ (ad1 : Nat → Nat), (∀ i, i < nE E0 → ad1 i = ad0 i) → nE E0 ≤ nE F → t = 1 → ∀ (H : Heap) (locs : List Loc) (ls : Array Slot), va_P z.1 classes (wv z ad1 F N) H → va_D A (wv z ad1 F N) → va_S A s.heap H locs → lv_has ls 7 [] → W p l e (rmK 4 110 mc ms) s m args below meth c H locs c1 s1 Q (F0 m 224 ls [])) → ∀ (H : Heap) (locs : List Loc) (ls : Array Slot), va_P z.1 classes (wv z ad E M) H → va_D A (wv z ad E M) → va_S A s.heap H locs → lv_has ls 7 [(0, .ref (ad 179)), (3, .long (oJ x3)), (5, .int (oI x5))] → W p l e (rmK 4 110 mc ms) s m args below meth c H locs c0 s0 Q (F0 m 147 ls []) := by
  intro fu
  induction fu with
  | zero =>
    intro c0 s0 ad E M x5 t w5 F N hc hs hag0 hE0 h
    have h : (none : Option (Nat × Int × Ev × Mm)) = some _ := h
    cases h
  | succ fu ih =>
    intro c0 s0 ad E M x5 t w5 F N hc hs hag0 hE0 h k1 H locs ls hP hD hS hl
    obtain ⟨⟨t0, w50, F9, N9⟩, g0, h⟩ := bd_e h
    refine W.wide (Nat.le_refl _) (Nat.le_refl _) (b_Co_start_147b l z E0 ad0 ad E M x3 x5 t0 w50 F9 N9 hx hb hml hts hown hlocks hA hG hZ mc ms c0 s0 (c0 + 64) (s0 + 480) (Nat.le_refl _) (Nat.le_refl _) (by omega) (by omega) hag0 hE0 g0 (fun ad1 ha he e0 => ?_) (fun ad1 ha he e0 => ?_) H locs ls hP hD hS hl)
    · subst e0
      have h := ite_t rfl h
      exact ih (c0 + 64) (s0 + 480) ad1 F9 N9 w50 t w5 F N (by omega) (by omega) ha he h k1
    · subst e0
      have h := ite_f (by decide) h
      obtain ⟨rfl, rfl, rfl, rfl⟩ := in4 h
      exact fun H locs ls hP hD hS hl => W.wide (by omega) (by omega) (k1 ad1 ha he rfl H locs ls hP hD hS hl)
set_option maxRecDepth 100000 in
set_option maxHeartbeats 4000000 in
theorem s_Co_start (l : Launch) (z : Zz) (ad : Nat → Nat) (E : Ev) (M : Mm) (p1 : Nat) (x2 : Int) (F : Ev) (N : Mm) (h : f_Co_start E M p1 x2 = some (F, N)) : CT l z ⟨"Ballothall$Counting", "start", "(LBallothall$Count;I)V"⟩ prog_5_method_6_code 7 none [.ref (ad 179), .ref (ad p1), .int (oI x2)] (wv z ad E M) 4 110 2048 15360 (fun u => none) (fun u => wv z (adj E ad u) F N) := by
  refine CT.of (own := "Ballothall$Counting") (by decide +kernel) (Nat.le_of_ble_eq_true rfl) rfl (fun p e s m below meth c A ls hx hb hml hr hts hown hlocks hin hA hG hZ hP hD hS hl => ?_)
  have hl : lv_has ls 7 [(0, .ref (ad 179)), (1, .ref (ad p1)), (2, .int (oI x2))] := hl
  have key : ∀ (E0 : Ev) (ad0 : Nat → Nat) (mc ms c0 s0 c1 s1 : Nat) (H : Heap) (locs : List Loc) (args : Array Value), c0 + 2048 ≤ c1 → s0 + 15360 ≤ s1 → c1 ≤ mc → s1 ≤ ms → (∀ i, i < nE E0 → ad i = ad0 i) → nE E0 ≤ nE E → (∀ w ∈ WG, w.before args s = true) → va_P z.1 classes (wv z ad E M) H → va_S A s.heap H locs → W p l e (rmK 4 110 mc ms) s m args below meth c H locs c0 s0 (MQ below (QK z A (fun u => none) (fun u => wv z (adj E0 ad0 u) F N)) args s c1 s1 A) (F0 m 0 ls []) := by
    intro E0 ad0 mc ms c0 s0 c1 s1 H locs args hc hs hm hm2 hag0 hE0 hts hP hS
    unfold f_Co_start at h
    obtain ⟨hL, h⟩ := ck_e h
    obtain ⟨h_p1, h⟩ := ck_e h
    refine lv_aload_n hx hb d_5_6_0 rfl (lv_at hl 1 rfl) ?_
    refine lv_aload_n hx hb d_5_6_1 rfl (lv_at hl 0 rfl) ?_
    refine m_gr (j := 2) (C := "Ballothall$Counting") (T := TX3) (N := 15) (ci := 3) (k := 0) hx hb hts iX3 hown hG hP (yi_179 hL) (yt_179 hL) rfl (by decide) w_303 (fun _ h9 => h9) rfl rfl (yr_179_0 hL) d_5_6_2 ?_
    refine m_giN (C := "Ballothall$BallotBox") (T := TX0) (N := 10) (ci := 0) (k := 2) hx hb hts iX0 hown hG hP (yi_2 hL) (yt_2 hL) rfl (by decide) n_55 rfl (fun _ h9 => h9) rfl rfl d_5_6_5 ?_
    refine m_piN (C := "Ballothall$Count") (T := TX2) (N := 10) (ci := 2) (k := 1) (ty := .int) hx hb hts iX2 hown hG hP hD hS (isCt_i h_p1) (isCt_T h_p1) rfl (by decide) n_1081 rfl (fun _ h9 => h9) rfl rfl tyX2_ok nmX2 rfl (by decide +kernel) rfl rfl d_5_6_8 (fun H locs hP hD hS => ?_)
    have hP : va_P z.1 classes (wv z ad E (u2 M p1 1 (M 2 2))) H := hP
    have hD : va_D A (wv z ad E (u2 M p1 1 (M 2 2))) := hD
    refine lv_aload_n hx hb d_5_6_11 rfl (lv_at hl 1 rfl) ?_
    refine lv_aload_n hx hb d_5_6_12 rfl (lv_at hl 0 rfl) ?_
    refine m_gr (j := 2) (C := "Ballothall$Counting") (T := TX3) (N := 15) (ci := 3) (k := 0) hx hb hts iX3 hown hG hP (yi_179 hL) (yt_179 hL) rfl (by decide) w_303 (fun _ h9 => h9) rfl rfl (yr_179_0 hL) d_5_6_13 ?_
    refine m_giN (C := "Ballothall$BallotBox") (T := TX0) (N := 10) (ci := 0) (k := 3) hx hb hts iX0 hown hG hP (yi_2 hL) (yt_2 hL) rfl (by decide) n_59 rfl (fun _ h9 => h9) rfl rfl d_5_6_16 ?_
    refine m_piN (C := "Ballothall$Count") (T := TX2) (N := 10) (ci := 2) (k := 2) (ty := .int) hx hb hts iX2 hown hG hP hD hS (isCt_i h_p1) (isCt_T h_p1) rfl (by decide) n_1083 rfl (fun _ h9 => h9) rfl rfl tyX2_ok nmX2 rfl (by decide +kernel) rfl rfl d_5_6_19 (fun H locs hP hD hS => ?_)
    have hP : va_P z.1 classes (wv z ad E (u2 (u2 M p1 1 (M 2 2)) p1 2 ((u2 M p1 1 (M 2 2)) 2 3))) H := hP
    have hD : va_D A (wv z ad E (u2 (u2 M p1 1 (M 2 2)) p1 2 ((u2 M p1 1 (M 2 2)) 2 3))) := hD
    refine lv_aload_n hx hb d_5_6_22 rfl (lv_at hl 1 rfl) ?_
    refine lv_aload_n hx hb d_5_6_23 rfl (lv_at hl 0 rfl) ?_
    refine m_gr (j := 2) (C := "Ballothall$Counting") (T := TX3) (N := 15) (ci := 3) (k := 0) hx hb hts iX3 hown hG hP (yi_179 hL) (yt_179 hL) rfl (by decide) w_303 (fun _ h9 => h9) rfl rfl (yr_179_0 hL) d_5_6_24 ?_
    refine lv_aload_n hx hb d_5_6_27 rfl (lv_at hl 0 rfl) ?_
    refine m_gr (j := 2) (C := "Ballothall$Counting") (T := TX3) (N := 15) (ci := 3) (k := 0) hx hb hts iX3 hown hG hP (yi_179 hL) (yt_179 hL) rfl (by decide) w_303 (fun _ h9 => h9) rfl rfl (yr_179_0 hL) d_5_6_28 ?_
    refine m_grN (j := 5) (C := "Ballothall$BallotBox") (T := TX0) (N := 10) (ci := 0) (k := 5) hx hb hts iX0 hown hG hP (yi_2 hL) (yt_2 hL) rfl (by decide) n_67 rfl (fun _ h9 => h9) rfl rfl (yr_2_5 hL) d_5_6_31 ?_
    refine lv_aload_n hx hb d_5_6_34 rfl (lv_at hl 0 rfl) ?_
    refine m_gr (j := 2) (C := "Ballothall$Counting") (T := TX3) (N := 15) (ci := 3) (k := 0) hx hb hts iX3 hown hG hP (yi_179 hL) (yt_179 hL) rfl (by decide) w_303 (fun _ h9 => h9) rfl rfl (yr_179_0 hL) d_5_6_35 ?_
    refine m_giN (C := "Ballothall$BallotBox") (T := TX0) (N := 10) (ci := 0) (k := 3) hx hb hts iX0 hown hG hP (yi_2 hL) (yt_2 hL) rfl (by decide) n_59 rfl (fun _ h9 => h9) rfl rfl d_5_6_38 ?_
    obtain ⟨r100, g100, h⟩ := bd_e h
    refine kVN (As := [.ref (ad 5), .int (oI ((u2 (u2 M p1 1 (M 2 2)) p1 2 ((u2 M p1 1 (M 2 2)) 2 3)) 2 3))]) (rest := [.ref (ad p1)]) (s_Bx_ballotsOf l z ad E (u2 (u2 M p1 1 (M 2 2)) p1 2 ((u2 M p1 1 (M 2 2)) 2 3)) 5 ((u2 (u2 M p1 1 (M 2 2)) p1 2 ((u2 M p1 1 (M 2 2)) 2 3)) 2 3) r100 hL g100) hx hb hml hown hts w_572 n_1125 w_571 w_s_fcecd2 w_2 md_ebdc38 ⟨Nat.le_of_ble_eq_true rfl, Nat.le_of_ble_eq_true rfl⟩ hG hZ hP hD hS hA 2 (wv_o (ci := 0) (yi_2 hL) (yt_2 hL)) rfl rfl rfl hl.1 rfl (Nat.le_of_ble_eq_true rfl) d_5_6_41 ⟨(show _ ≤ mc by omega), (show _ ≤ ms by omega)⟩ (fun _ H locs hP hD hS => ?_)
    have hP : va_P z.1 classes (wv z ad E (u2 (u2 M p1 1 (M 2 2)) p1 2 ((u2 M p1 1 (M 2 2)) 2 3))) H := hP
    have hD : va_D A (wv z ad E (u2 (u2 M p1 1 (M 2 2)) p1 2 ((u2 M p1 1 (M 2 2)) 2 3))) := hD
    refine W.eq (g2 := F0 m 44 ls [.int (oI r100), .ref (ad p1)]) rfl ?_
    refine m_piN (C := "Ballothall$Count") (T := TX2) (N := 10) (ci := 2) (k := 3) (ty := .int) hx hb hts iX2 hown hG hP hD hS (isCt_i h_p1) (isCt_T h_p1) rfl (by decide) n_1085 rfl (fun _ h9 => h9) rfl rfl tyX2_ok nmX2 rfl (by decide +kernel) rfl rfl d_5_6_44 (fun H locs hP hD hS => ?_)
    have hP : va_P z.1 classes (wv z ad E (u2 (u2 (u2 M p1 1 (M 2 2)) p1 2 ((u2 M p1 1 (M 2 2)) 2 3)) p1 3 r100)) H := hP
    have hD : va_D A (wv z ad E (u2 (u2 (u2 M p1 1 (M 2 2)) p1 2 ((u2 M p1 1 (M 2 2)) 2 3)) p1 3 r100)) := hD
    refine lv_aload_n hx hb d_5_6_47 rfl (lv_at hl 1 rfl) ?_
    refine lv_aload_n hx hb d_5_6_48 rfl (lv_at hl 1 rfl) ?_
    refine m_giN (C := "Ballothall$Count") (T := TX2) (N := 10) (ci := 2) (k := 3) hx hb hts iX2 hown hG hP (isCt_i h_p1) (isCt_T h_p1) rfl (by decide) n_1085 rfl (fun _ h9 => h9) rfl rfl d_5_6_49 ?_
    refine lv_iload_n hx hb d_5_6_52 rfl (lv_at hl 2 rfl) ?_
    refine lv_iconst (v := oI 1) hx hb d_5_6_53 (by decide +kernel) ?_
    refine lv_iadd hx hb d_5_6_54 ?_
    refine nrm (oI_add _ _) ?_
    obtain ⟨ok101, h⟩ := ck_e h
    obtain ⟨ok102, h⟩ := ck_e h
    refine lv_idiv hx hb d_5_6_55 (oI_nz ok102.1 ok102.2) ?_
    refine nrm (oI_div (a := ((u2 (u2 (u2 M p1 1 (M 2 2)) p1 2 ((u2 M p1 1 (M 2 2)) 2 3)) p1 3 r100) p1 3)) (b := (x2 + 1)) ok101.1 ok101.2 ok102.1 ok102.2) ?_
    refine lv_iconst (v := oI 1) hx hb d_5_6_56 (by decide +kernel) ?_
    refine lv_iadd hx hb d_5_6_57 ?_
    refine nrm (oI_add _ _) ?_
    refine m_piN (C := "Ballothall$Count") (T := TX2) (N := 10) (ci := 2) (k := 0) (ty := .int) hx hb hts iX2 hown hG hP hD hS (isCt_i h_p1) (isCt_T h_p1) rfl (by decide) n_1079 rfl (fun _ h9 => h9) rfl rfl tyX2_ok nmX2 rfl (by decide +kernel) rfl rfl d_5_6_58 (fun H locs hP hD hS => ?_)
    have hP : va_P z.1 classes (wv z ad E (u2 (u2 (u2 (u2 M p1 1 (M 2 2)) p1 2 ((u2 M p1 1 (M 2 2)) 2 3)) p1 3 r100) p1 0 ((((u2 (u2 (u2 M p1 1 (M 2 2)) p1 2 ((u2 M p1 1 (M 2 2)) 2 3)) p1 3 r100) p1 3) / (x2 + 1)) + 1))) H := hP
    have hD : va_D A (wv z ad E (u2 (u2 (u2 (u2 M p1 1 (M 2 2)) p1 2 ((u2 M p1 1 (M 2 2)) 2 3)) p1 3 r100) p1 0 ((((u2 (u2 (u2 M p1 1 (M 2 2)) p1 2 ((u2 M p1 1 (M 2 2)) 2 3)) p1 3 r100) p1 3) / (x2 + 1)) + 1))) := hD
    obtain ⟨M103, e103, h⟩ := nb_e h
    rw [← e103] at hP hD
    refine lv_aload_n hx hb d_5_6_61 rfl (lv_at hl 1 rfl) ?_
    refine lv_iconst (v := oI 0) hx hb d_5_6_62 (by decide +kernel) ?_
    refine m_piN (C := "Ballothall$Count") (T := TX2) (N := 10) (ci := 2) (k := 4) (ty := .int) hx hb hts iX2 hown hG hP hD hS (isCt_i h_p1) (isCt_T h_p1) rfl (by decide) n_1086 rfl (fun _ h9 => h9) rfl rfl tyX2_ok nmX2 rfl (by decide +kernel) rfl rfl d_5_6_63 (fun H locs hP hD hS => ?_)
    have hP : va_P z.1 classes (wv z ad E (u2 M103 p1 4 0)) H := hP
    have hD : va_D A (wv z ad E (u2 M103 p1 4 0)) := hD
    refine lv_aload_n hx hb d_5_6_66 rfl (lv_at hl 1 rfl) ?_
    refine lv_iconst (v := oI 0) hx hb d_5_6_67 (by decide +kernel) ?_
    refine m_piN (C := "Ballothall$Count") (T := TX2) (N := 10) (ci := 2) (k := 5) (ty := .int) hx hb hts iX2 hown hG hP hD hS (isCt_i h_p1) (isCt_T h_p1) rfl (by decide) n_1088 rfl (fun _ h9 => h9) rfl rfl tyX2_ok nmX2 rfl (by decide +kernel) rfl rfl d_5_6_68 (fun H locs hP hD hS => ?_)
    have hP : va_P z.1 classes (wv z ad E (u2 (u2 M103 p1 4 0) p1 5 0)) H := hP
    have hD : va_D A (wv z ad E (u2 (u2 M103 p1 4 0) p1 5 0)) := hD
    refine lv_aload_n hx hb d_5_6_71 rfl (lv_at hl 0 rfl) ?_
    refine m_gr (j := 2) (C := "Ballothall$Counting") (T := TX3) (N := 15) (ci := 3) (k := 0) hx hb hts iX3 hown hG hP (yi_179 hL) (yt_179 hL) rfl (by decide) w_303 (fun _ h9 => h9) rfl rfl (yr_179_0 hL) d_5_6_72 ?_
    refine m_grN (j := 5) (C := "Ballothall$BallotBox") (T := TX0) (N := 10) (ci := 0) (k := 5) hx hb hts iX0 hown hG hP (yi_2 hL) (yt_2 hL) rfl (by decide) n_67 rfl (fun _ h9 => h9) rfl rfl (yr_2_5 hL) d_5_6_75 ?_
    refine lv_iconst (v := oI 0) hx hb d_5_6_78 (by decide +kernel) ?_
    refine lv_aload_n hx hb d_5_6_79 rfl (lv_at hl 1 rfl) ?_
    refine m_grN (j := (p1 + 1)) (C := "Ballothall$Count") (T := TX2) (N := 10) (ci := 2) (k := 6) hx hb hts iX2 hown hG hP (isCt_i h_p1) (isCt_T h_p1) rfl (by decide) n_1091 rfl (fun _ h9 => h9) rfl rfl (isCt_r6 h_p1) d_5_6_80 ?_
    refine lv_iconst (v := oI 0) hx hb d_5_6_83 (by decide +kernel) ?_
    refine lv_bipush (v := oI 30) hx hb d_5_6_84 (by decide +kernel) ?_
    obtain ⟨ok104, h⟩ := ck_e h
    refine m_cpy hx hb (by rw [hml]; exact hl.1.symm) hown (hts _ w_1126) (hts _ w_621) (hts _ w_620) (hts _ w_24) hG hP hD hS (yi_5 hL) (yt_5 hL) (isCt_i1 h_p1) (isCt_t1 h_p1) ok104 (Nat.le_of_ble_eq_true rfl) (Nat.le_of_ble_eq_true rfl) d_5_6_86 (fun H locs hP hD hS => ?_)
    have hP : va_P z.1 classes (wv z ad E (uA (u2 (u2 M103 p1 4 0) p1 5 0) (p1 + 1) (va_cpy ((u2 (u2 M103 p1 4 0) p1 5 0) 5) ((u2 (u2 M103 p1 4 0) p1 5 0) (p1 + 1)) 0 0 30))) H := hP
    have hD : va_D A (wv z ad E (uA (u2 (u2 M103 p1 4 0) p1 5 0) (p1 + 1) (va_cpy ((u2 (u2 M103 p1 4 0) p1 5 0) 5) ((u2 (u2 M103 p1 4 0) p1 5 0) (p1 + 1)) 0 0 30))) := hD
    obtain ⟨M105, e105, h⟩ := nb_e h
    rw [← e105] at hP hD
    refine lv_aload_n hx hb d_5_6_89 rfl (lv_at hl 0 rfl) ?_
    refine lv_aload_n hx hb d_5_6_90 rfl (lv_at hl 0 rfl) ?_
    refine m_gr (j := 2) (C := "Ballothall$Counting") (T := TX3) (N := 15) (ci := 3) (k := 0) hx hb hts iX3 hown hG hP (yi_179 hL) (yt_179 hL) rfl (by decide) w_303 (fun _ h9 => h9) rfl rfl (yr_179_0 hL) d_5_6_91 ?_
    obtain ⟨r106, g106, h⟩ := bd_e h
    refine kVN (As := []) (rest := [.ref (ad 179)]) (s_Bx_everybody l z ad E M105 r106 hL g106) hx hb hml hown hts w_668 n_1127 w_667 w_s_8b8b67 w_2 md_b59579 ⟨Nat.le_of_ble_eq_true rfl, Nat.le_of_ble_eq_true rfl⟩ hG hZ hP hD hS hA 2 (wv_o (ci := 0) (yi_2 hL) (yt_2 hL)) rfl rfl rfl hl.1 rfl (Nat.le_of_ble_eq_true rfl) d_5_6_94 ⟨(show _ ≤ mc by omega), (show _ ≤ ms by omega)⟩ (fun _ H locs hP hD hS => ?_)
    have hP : va_P z.1 classes (wv z ad E M105) H := hP
    have hD : va_D A (wv z ad E M105) := hD
    refine W.eq (g2 := F0 m 97 ls [.int (oI r106), .ref (ad 179)]) rfl ?_
    refine m_pi (C := "Ballothall$Counting") (T := TX3) (N := 15) (ci := 3) (k := 3) (ty := .int) hx hb hts iX3 hown hG hP hD hS (yi_179 hL) (yt_179 hL) rfl (by decide) w_306 (fun _ h9 => h9) rfl rfl tyX3_ok nmX3 rfl (by decide +kernel) rfl rfl d_5_6_97 (fun H locs hP hD hS => ?_)
    have hP : va_P z.1 classes (wv z ad E (u2 M105 179 3 r106)) H := hP
    have hD : va_D A (wv z ad E (u2 M105 179 3 r106)) := hD
    refine lv_iconst (v := oI 0) hx hb d_5_6_100 (by decide +kernel) ?_
    refine lv_istore_n (lv' := [(3, .int (oI 0)), (0, .ref (ad 179)), (1, .ref (ad p1)), (2, .int (oI x2))]) hx hb d_5_6_101 rfl hl (by decide) rfl (fun ls hl => ?_)
    obtain ⟨⟨t110, v110_3, E110, M110⟩, g110, h⟩ := bd_e h
    obtain ⟨hgw110, h⟩ := ck_e h
    obtain ⟨hL110, h⟩ := ck_e h
    obtain ⟨ok110, h⟩ := ck_e h
    refine s_Co_start_102 l z E ad hx hb hml hts hown hlocks hA hG hZ mc ms (c0 + 0) (s0 + 0) (by omega) (by omega) 5000 _ _ ad E (u2 M105 179 3 r106) 0 t110 v110_3 E110 M110 (by omega) (by omega) (fun _ _ => rfl) (Nat.le_refl _) g110 (fun ad110 hag110 hEE110 e110 H locs ls hP hD hS hl => ?_) H locs ls hP hD hS (lv_sub hl [1, 0] rfl)
    have hag0 : ∀ i, i < nE E0 → ad110 i = ad0 i := fun i hi => (hag110 i (Nat.lt_of_lt_of_le hi hE0)).trans (hag0 i hi)
    have hE0 : nE E0 ≤ nE E110 := Nat.le_trans hE0 hgw110.1
    have hL : Lay E110 := hL110
    obtain ⟨fa, hf1, hf2⟩ := hZ.1
    refine va_getsN hx hb hf1 hS hown (va_Nw.use rfl (hG.2.1 _ n_1128 rfl)) (fun _ h9 => h9) d_5_6_124 ?_
    refine lv_aload_n hx hb d_5_6_127 rfl (lv_at hl 0 rfl) ?_
    refine m_gr (j := 2) (C := "Ballothall$Counting") (T := TX3) (N := 15) (ci := 3) (k := 0) hx hb hts iX3 hown hG hP (yi_179 hL) (yt_179 hL) rfl (by decide) w_303 (fun _ h9 => h9) rfl rfl (yr_179_0 hL) d_5_6_128 ?_
    refine m_giN (C := "Ballothall$BallotBox") (T := TX0) (N := 10) (ci := 0) (k := 2) hx hb hts iX0 hown hG hP (yi_2 hL) (yt_2 hL) rfl (by decide) n_55 rfl (fun _ h9 => h9) rfl rfl d_5_6_131 ?_
    obtain ⟨ok112, h⟩ := ck_e h
    refine m_fl hx hb hf2 hS ok112 d_5_6_134 ?_
    refine lv_lstore_n (lv' := [(3, .long (oJ (facF (M110 2 2).toNat))), (0, .ref (ad110 179))]) hx hb d_5_6_135 rfl hl (by decide) rfl (fun ls hl => ?_)
    refine lv_aload_n hx hb d_5_6_136 rfl (lv_at hl 1 rfl) ?_
    refine m_gr (j := 183) (C := "Ballothall$Counting") (T := TX3) (N := 15) (ci := 3) (k := 6) hx hb hts iX3 hown hG hP (yi_179 hL) (yt_179 hL) rfl (by decide) w_309 (fun _ h9 => h9) rfl rfl (yr_179_6 hL) d_5_6_137 ?_
    refine lv_lload_n hx hb d_5_6_140 rfl (lv_at hl 0 rfl) ?_
    obtain ⟨M113, g113, h⟩ := bd_e h
    refine kVN (As := [.long (oJ (facF (M110 2 2).toNat))]) (rest := []) (s_Na_become l z ad110 E110 M110 183 (facF (M110 2 2).toNat) M113 hL g113) hx hb hml hown hts w_604 n_601 w_603 w_s_5a2a50 w_9 md_34308f ⟨Nat.le_of_ble_eq_true rfl, Nat.le_of_ble_eq_true rfl⟩ hG hZ hP hD hS hA 183 (wv_o (ci := 8) (yi_183 hL) (yt_183 hL)) rfl rfl rfl hl.1 rfl (Nat.le_of_ble_eq_true rfl) d_5_6_141 ⟨(show _ ≤ mc by omega), (show _ ≤ ms by omega)⟩ (fun _ H locs hP hD hS => ?_)
    have hP : va_P z.1 classes (wv z ad110 E110 M113) H := hP
    have hD : va_D A (wv z ad110 E110 M113) := hD
    refine W.eq (g2 := F0 m 144 ls []) rfl ?_
    refine lv_iconst (v := oI 0) hx hb d_5_6_144 (by decide +kernel) ?_
    refine lv_istore (lv' := [(5, .int (oI 0)), (3, .long (oJ (facF (M110 2 2).toNat))), (0, .ref (ad110 179))]) hx hb d_5_6_145 hl (by decide) rfl (fun ls hl => ?_)
    obtain ⟨⟨t125, v125_5, E125, M125⟩, g125, h⟩ := bd_e h
    obtain ⟨hgw125, h⟩ := ck_e h
    obtain ⟨hL125, h⟩ := ck_e h
    obtain ⟨ok125, h⟩ := ck_e h
    refine s_Co_start_147 l z E110 ad110 (facF (M110 2 2).toNat) hx hb hml hts hown hlocks hA hG hZ mc ms (c0 + 2048) (s0 + 15360) (by omega) (by omega) 32 _ _ ad110 E110 M113 0 t125 v125_5 E125 M125 (by omega) (by omega) (fun _ _ => rfl) (Nat.le_refl _) g125 (fun ad125 hag125 hEE125 e125 H locs ls hP hD hS hl => ?_) H locs ls hP hD hS (lv_sub hl [2, 1, 0] rfl)
    have hag0 : ∀ i, i < nE E0 → ad125 i = ad0 i := fun i hi => (hag125 i (Nat.lt_of_lt_of_le hi hE0)).trans (hag0 i hi)
    have hE0 : nE E0 ≤ nE E125 := Nat.le_trans hE0 hgw125.1
    have hL : Lay E125 := hL125
    refine W.wide (k := c1) (n := s1) (by omega) (by omega) ?_
    obtain ⟨rfl, rfl⟩ := in2 h
    exact W.vret hx hb hr (fun t ht hW => qkA hP hD hS ad125 (congrArg (fun q => wv z q E125 M125) (adj_self hag0).symm) rfl ht) hS.2.2 d_5_6_224
  exact key E ad 2048 15360 0 0 2048 15360 _ _ _ (by decide) (by decide) (by decide) (by decide) (fun _ _ => rfl) (Nat.le_refl _) hts hP hS
set_option maxRecDepth 100000 in
set_option maxHeartbeats 4000000 in
theorem s_Ct_placeOf (l : Launch) (z : Zz) (ad : Nat → Nat) (E : Ev) (M : Mm) (p0 : Nat) (x1 : Int) (x2 : Int) (r : Int)  (hL : Lay E) (h : f_Ct_placeOf E M p0 x1 x2 = some r) : CT l z ⟨"Ballothall$Count", "placeOf", "(II)I"⟩ prog_4_method_2_code 3 (some .int) [.ref (ad p0), .int (oI x1), .int (oI x2)] (wv z ad E M) 0 20 0 0 (fun _ => some (.int (oI r))) (fun _ => (wv z ad E M)) := by
  refine CT.of (own := "Ballothall$Count") (by decide +kernel) (Nat.le_of_ble_eq_true rfl) rfl (fun p e s m below meth c A ls hx hb hml hr hts hown hlocks hin hA hG hZ hP hD hS hl => ?_)
  have hl : lv_has ls 3 [(0, .ref (ad p0)), (1, .int (oI x1)), (2, .int (oI x2))] := hl
  have key : ∀ (H : Heap) (locs : List Loc) (args : Array Value), (∀ w ∈ WG, w.before args s = true) → va_P z.1 classes (wv z ad E M) H → va_S A s.heap H locs → W p l e (rmK 0 20 0 0) s m args below meth c H locs 0 0 (MQ below (QK z A (fun _ => some (.int (oI r))) (fun _ => (wv z ad E M))) args s 0 0 A) (F0 m 0 ls []) := by
    intro H locs args hts hP hS
    unfold f_Ct_placeOf at h
    obtain ⟨h_p0, h⟩ := ck_e h
    refine lv_iload_n hx hb d_4_2_0 rfl (lv_at hl 1 rfl) ?_
    refine lv_bipush (v := oI 10) hx hb d_4_2_1 (by decide +kernel) ?_
    refine lv_imul hx hb d_4_2_3 ?_
    refine nrm (oI_mul _ _) ?_
    refine lv_iload_n hx hb d_4_2_4 rfl (lv_at hl 2 rfl) ?_
    refine lv_iadd hx hb d_4_2_5 ?_
    refine nrm (oI_add _ _) ?_
    refine lv_bipush (v := oI 13) hx hb d_4_2_6 (by decide +kernel) ?_
    refine lv_imul hx hb d_4_2_8 ?_
    refine nrm (oI_mul _ _) ?_
    obtain rfl := in1 h
    exact W.iret hx hb hr (fun t ht hW => qkA hP hD hS (fun k => k) rfl rfl ht) hS.2.2 d_4_2_9
  exact key _ _ _ hts hP hS
set_option maxRecDepth 100000 in
set_option maxHeartbeats 4000000 in
theorem b_Na_store_2b (l : Launch) (z : Zz) (ad : Nat → Nat) (E : Ev) (M : Mm) (q0 : Nat) (q1 : Nat) (x2 : Int) (x3 : Int) (t : Nat) (w3 : Int) (N : Mm) {Q : State → Prop} {p : Program} {e : Env} {s : State} {m : MethodId} {below : List Frame} {meth : Method} {c : Code} {A : Nat → Prop} {args : Array Value} (hx : p.tables.exec = Jvm.exec) (hb : c.code = prog_10_method_4_code) (hml : c.maxLocals = 4) (hts : ∀ w ∈ WG, w.before args s = true) (hown : s.vm.findClass "Ballothall$Natural" = some m.cls) (hlocks : meth.locks = false) (hA : ∀ q, s.heap.size ≤ q → A q) (hG : KG z s) (hZ : FZ z A s) (hL : Lay E) (h : Na_store_2b E M q0 q1 x2 x3 = some (t, w3, N)) (k0 : t = 0 → ∀ (H : Heap) (locs : List Loc) (ls : Array Slot), va_P z.1 classes (wv z ad E N) H → va_D A (wv z ad E N) → va_S A s.heap H locs → lv_has ls 4 [(0, .ref (ad q0)), (1, .ref (ad q1)), (2, .int (oI x2)), (3, .int (oI w3))] → W p l e (rmK 1 41 0 0) s m args below meth c H locs 0 0 Q (F0 m 2 ls [])) (k1 : t = 1 → ∀ (H : Heap) (locs : List Loc) (ls : Array Slot), va_P z.1 classes (wv z ad E N) H → va_D A (wv z ad E N) → va_S A s.heap H locs → lv_has ls 4 [] → W p l e (rmK 1 41 0 0) s m args below meth c H locs 0 0 Q (F0 m 24 ls [])) : ∀ (H : Heap) (locs : List Loc) (ls : Array Slot), va_P z.1 classes (wv z ad E M) H → va_D A (wv z ad E M) → va_S A s.heap H locs → lv_has ls 4 [(0, .ref (ad q0)), (1, .ref (ad q1)), (2, .int (oI x2)), (3, .int (oI x3))] → W p l e (rmK 1 41 0 0) s m args below meth c H locs 0 0 Q (F0 m 2 ls []) := by
  intro H locs ls hP hD hS hl
  unfold Na_store_2b at h
  obtain ⟨h_q0, h⟩ := ck_e h
  obtain ⟨h_q1, h⟩ := ck_e h
  refine lv_iload_n hx hb d_10_4_2 rfl (lv_at hl 3 rfl) ?_
  refine lv_bipush (v := oI 13) hx hb d_10_4_3 (by decide +kernel) ?_
  obtain ⟨ok100, h⟩ := ck_e h
  refine lv_icmp_ge (tgt := 24) hx hb d_10_4_5 (by decide) (fun c9 => ?_) (fun c9 => ?_)
  · have h := ite_t ((oI_le (a := (13 : Int)) (b := x3) (by decide) ok100).mp c9) h
    obtain ⟨rfl, rfl, rfl⟩ := in3 h
    exact k1 rfl H locs ls hP hD hS (lv_sub hl [] rfl)
  · have h := ite_f (fun q => c9 ((oI_le (a := (13 : Int)) (b := x3) (by decide) ok100).mpr q)) h
    refine lv_aload_n hx hb d_10_4_8 rfl (lv_at hl 1 rfl) ?_
    refine lv_iload_n hx hb d_10_4_9 rfl (lv_at hl 2 rfl) ?_
    refine lv_iload_n hx hb d_10_4_10 rfl (lv_at hl 3 rfl) ?_
    refine lv_iadd hx hb d_10_4_11 ?_
    refine nrm (oI_add _ _) ?_
    refine lv_aload_n hx hb d_10_4_12 rfl (lv_at hl 0 rfl) ?_
    refine lv_iload_n hx hb d_10_4_13 rfl (lv_at hl 3 rfl) ?_
    obtain ⟨r101, g101, h⟩ := bd_e h
    refine kV (As := [.int (oI x3)]) (rest := [.int (oI (x2 + x3)), .ref (ad q1)]) (s_Na_limbAt l z ad E M q0 x3 r101 hL g101) hx hb hml hown hts w_637 w_634 w_636 w_s_21c489 w_9 md_149093 ⟨Nat.le_of_ble_eq_true rfl, Nat.le_of_ble_eq_true rfl⟩ hG hZ hP hD hS hA q0 (wv_o (ci := 8) (isNa_i h_q0) (isNa_T h_q0)) rfl rfl rfl hl.1 rfl (Nat.le_of_ble_eq_true rfl) d_10_4_14 ⟨Nat.le_of_ble_eq_true rfl, Nat.le_of_ble_eq_true rfl⟩ (fun _ H locs hP hD hS => ?_)
    have hP : va_P z.1 classes (wv z ad E M) H := hP
    have hD : va_D A (wv z ad E M) := hD
    refine W.eq (g2 := F0 m 17 ls [.int (oI r101), .int (oI (x2 + x3)), .ref (ad q1)]) rfl ?_
    obtain ⟨ok102, h⟩ := ck_e h
    refine m_is hx hb hG hP hD hS h_q1.1 (isIA_T h_q1) ok102 d_10_4_17 (fun H locs hP hD hS => ?_)
    have hP : va_P z.1 classes (wv z ad E (u2 M q1 (x2 + x3).toNat r101)) H := hP
    have hD : va_D A (wv z ad E (u2 M q1 (x2 + x3).toNat r101)) := hD
    refine lv_iinc (v := oI (x3 + 1)) (lv' := [(3, .int (oI (x3 + 1))), (0, .ref (ad q0)), (1, .ref (ad q1)), (2, .int (oI x2))]) hx hb d_10_4_18 hl (k := 3) rfl (oI_add x3 1) (by decide) rfl (fun ls hl => ?_)
    refine lv_goto (tgt := 2) hx hb d_10_4_21 (by decide) ?_
    obtain ⟨rfl, rfl, rfl⟩ := in3 h
    exact k0 rfl H locs ls hP hD hS (lv_sub hl [1, 2, 3, 0] rfl)
set_option maxRecDepth 100000 in
set_option maxHeartbeats 4000000 in
theorem s_Na_store_2 (l : Launch) (z : Zz) (ad : Nat → Nat) (E : Ev) (q0 : Nat) (q1 : Nat) (x2 : Int) {Q : State → Prop} {p : Program} {e : Env} {s : State} {m : MethodId} {below : List Frame} {meth : Method} {c : Code} {A : Nat → Prop} {args : Array Value} (hx : p.tables.exec = Jvm.exec) (hb : c.code = prog_10_method_4_code) (hml : c.maxLocals = 4) (hts : ∀ w ∈ WG, w.before args s = true) (hown : s.vm.findClass "Ballothall$Natural" = some m.cls) (hlocks : meth.locks = false) (hA : ∀ q, s.heap.size ≤ q → A q) (hG : KG z s) (hZ : FZ z A s) (hL : Lay E) : ∀ (fu : Nat) (M : Mm) (x3 : Int) (t : Nat) (w3 : Int) (N : Mm), l_Na_store_2 E q0 q1 x2 fu M x3 = some (t, w3, N) → (t = 1 → ∀ (H : Heap) (locs : List Loc) (ls : Array Slot), va_P z.1 classes (wv z ad E N) H → va_D A (wv z ad E N) → va_S A s.heap H locs → lv_has ls 4 [] → W p l e (rmK 1 41 0 0) s m args below meth c H locs 0 0 Q (F0 m 24 ls [])) → ∀ (H : Heap) (locs : List Loc) (ls : Array Slot), va_P z.1 classes (wv z ad E M) H → va_D A (wv z ad E M) → va_S A s.heap H locs → lv_has ls 4 [(0, .ref (ad q0)), (1, .ref (ad q1)), (2, .int (oI x2)), (3, .int (oI x3))] → W p l e (rmK 1 41 0 0) s m args below meth c H locs 0 0 Q (F0 m 2 ls []) := by
  intro fu
  induction fu with
  | zero =>
    intro M x3 t w3 N h
    have h : (none : Option (Nat × Int × Mm)) = some _ := h
    cases h
  | succ fu ih =>
    intro M x3 t w3 N h k1 H locs ls hP hD hS hl
    obtain ⟨⟨t0, w30, N9⟩, g0, h⟩ := bd_e h
    refine b_Na_store_2b l z ad E M q0 q1 x2 x3 t0 w30 N9 hx hb hml hts hown hlocks hA hG hZ hL g0 (fun e0 => ?_) (fun e0 => ?_) H locs ls hP hD hS hl
    · subst e0
      have h := ite_t rfl h
      exact ih N9 w30 t w3 N h k1
    · subst e0
      have h := ite_f (by decide) h
      obtain ⟨rfl, rfl, rfl⟩ := in3 h
      exact k1 rfl
set_option maxRecDepth 100000 in
set_option maxHeartbeats 4000000 in
theorem s_Na_store (l : Launch) (z : Zz) (ad : Nat → Nat) (E : Ev) (M : Mm) (p0 : Nat) (p1 : Nat) (x2 : Int) (N : Mm) (hL : Lay E) (h : f_Na_store E M p0 p1 x2 = some N) : CT l z ⟨"Ballothall$Natural", "store", "([II)V"⟩ prog_10_method_4_code 4 none [.ref (ad p0), .ref (ad p1), .int (oI x2)] (wv z ad E M) 1 41 0 0 (fun _ => none) (fun _ => (wv z ad E N)) := by
  refine CT.of (own := "Ballothall$Natural") (by decide +kernel) (Nat.le_of_ble_eq_true rfl) rfl (fun p e s m below meth c A ls hx hb hml hr hts hown hlocks hin hA hG hZ hP hD hS hl => ?_)
  have hl : lv_has ls 4 [(0, .ref (ad p0)), (1, .ref (ad p1)), (2, .int (oI x2))] := hl
  have key : ∀ (H : Heap) (locs : List Loc) (args : Array Value), (∀ w ∈ WG, w.before args s = true) → va_P z.1 classes (wv z ad E M) H → va_S A s.heap H locs → W p l e (rmK 1 41 0 0) s m args below meth c H locs 0 0 (MQ below (QK z A (fun _ => none) (fun _ => (wv z ad E N))) args s 0 0 A) (F0 m 0 ls []) := by
    intro H locs args hts hP hS
    unfold f_Na_store at h
    obtain ⟨h_p0, h⟩ := ck_e h
    obtain ⟨h_p1, h⟩ := ck_e h
    refine lv_iconst (v := oI 0) hx hb d_10_4_0 (by decide +kernel) ?_
    refine lv_istore_n (lv' := [(3, .int (oI 0)), (0, .ref (ad p0)), (1, .ref (ad p1)), (2, .int (oI x2))]) hx hb d_10_4_1 rfl hl (by decide) rfl (fun ls hl => ?_)
    obtain ⟨⟨t103, v103_3, M103⟩, g103, h⟩ := bd_e h
    obtain ⟨ok103, h⟩ := ck_e h
    refine s_Na_store_2 l z ad E p0 p1 x2 hx hb hml hts hown hlocks hA hG hZ hL FU M 0 t103 v103_3 M103 g103 (fun e103 H locs ls hP hD hS hl => ?_) H locs ls hP hD hS (lv_sub hl [1, 2, 3, 0] rfl)
    obtain rfl := in1 h
    exact W.vret hx hb hr (fun t ht hW => qkA hP hD hS (fun k => k) rfl rfl ht) hS.2.2 d_10_4_24
  exact key _ _ _ hts hP hS
set_option maxRecDepth 100000 in
set_option maxHeartbeats 4000000 in
theorem b_Co_keepMoment_12b (l : Launch) (z : Zz) (ad : Nat → Nat) (E : Ev) (M : Mm) (q1 : Nat) (x2 : Int) (x3 : Int) (t : Nat) (w3 : Int) (N : Mm) {Q : State → Prop} {p : Program} {e : Env} {s : State} {m : MethodId} {below : List Frame} {meth : Method} {c : Code} {A : Nat → Prop} {args : Array Value} (hx : p.tables.exec = Jvm.exec) (hb : c.code = prog_5_method_8_code) (hml : c.maxLocals = 4) (hts : ∀ w ∈ WG, w.before args s = true) (hown : s.vm.findClass "Ballothall$Counting" = some m.cls) (hlocks : meth.locks = false) (hA : ∀ q, s.heap.size ≤ q → A q) (hG : KG z s) (hZ : FZ z A s) (hL : Lay E) (h : Co_keepMoment_12b E M q1 x2 x3 = some (t, w3, N)) (k0 : t = 0 → ∀ (H : Heap) (locs : List Loc) (ls : Array Slot), va_P z.1 classes (wv z ad E N) H → va_D A (wv z ad E N) → va_S A s.heap H locs → lv_has ls 4 [(0, .ref (ad 179)), (1, .ref (ad q1)), (2, .int (oI x2)), (3, .int (oI w3))] → W p l e (rmK 2 64 0 0) s m args below meth c H locs 0 0 Q (F0 m 12 ls [])) (k1 : t = 1 → ∀ (H : Heap) (locs : List Loc) (ls : Array Slot), va_P z.1 classes (wv z ad E N) H → va_D A (wv z ad E N) → va_S A s.heap H locs → lv_has ls 4 [(0, .ref (ad 179)), (1, .ref (ad q1)), (2, .int (oI x2))] → W p l e (rmK 2 64 0 0) s m args below meth c H locs 0 0 Q (F0 m 43 ls [])) : ∀ (H : Heap) (locs : List Loc) (ls : Array Slot), va_P z.1 classes (wv z ad E M) H → va_D A (wv z ad E M) → va_S A s.heap H locs → lv_has ls 4 [(0, .ref (ad 179)), (1, .ref (ad q1)), (2, .int (oI x2)), (3, .int (oI x3))] → W p l e (rmK 2 64 0 0) s m args below meth c H locs 0 0 Q (F0 m 12 ls []) := by
  intro H locs ls hP hD hS hl
  unfold Co_keepMoment_12b at h
  obtain ⟨h_q1, h⟩ := ck_e h
  refine lv_iload_n hx hb d_5_8_12 rfl (lv_at hl 3 rfl) ?_
  refine lv_bipush (v := oI 9) hx hb d_5_8_13 (by decide +kernel) ?_
  obtain ⟨ok100, h⟩ := ck_e h
  refine lv_icmp_ge (tgt := 43) hx hb d_5_8_15 (by decide) (fun c9 => ?_) (fun c9 => ?_)
  · have h := ite_t ((oI_le (a := (9 : Int)) (b := x3) (by decide) ok100).mp c9) h
    obtain ⟨rfl, rfl, rfl⟩ := in3 h
    exact k1 rfl H locs ls hP hD hS (lv_sub hl [0, 1, 2] rfl)
  · have h := ite_f (fun q => c9 ((oI_le (a := (9 : Int)) (b := x3) (by decide) ok100).mpr q)) h
    refine lv_aload_n hx hb d_5_8_18 rfl (lv_at hl 0 rfl) ?_
    refine m_gr (j := 182) (C := "Ballothall$Counting") (T := TX3) (N := 15) (ci := 3) (k := 5) hx hb hts iX3 hown hG hP (yi_179 hL) (yt_179 hL) rfl (by decide) w_308 (fun _ h9 => h9) rfl rfl (yr_179_5 hL) d_5_8_19 ?_
    refine lv_iload_n hx hb d_5_8_22 rfl (lv_at hl 3 rfl) ?_
    obtain ⟨ok101, h⟩ := ck_e h
    refine m_aa (k := (201 + 2 * x3.toNat)) (t := 5) (C := "Ballothall$Natural") hx hb hG hP (yi_182 hL) (yt_182 hL) rfl rfl ok101 (ya_182 hL (inb_lt ok101)) d_5_8_23 ?_
    refine lv_aload_n hx hb d_5_8_24 rfl (lv_at hl 1 rfl) ?_
    refine m_grN (j := (q1 + 4)) (C := "Ballothall$Count") (T := TX2) (N := 10) (ci := 2) (k := 9) hx hb hts iX2 hown hG hP (isCt_i h_q1) (isCt_T h_q1) rfl (by decide) n_1099 rfl (fun _ h9 => h9) rfl rfl (isCt_r9 h_q1) d_5_8_25 ?_
    refine lv_aload_n hx hb d_5_8_28 rfl (lv_at hl 1 rfl) ?_
    refine lv_iload_n hx hb d_5_8_29 rfl (lv_at hl 2 rfl) ?_
    refine lv_iload_n hx hb d_5_8_30 rfl (lv_at hl 3 rfl) ?_
    obtain ⟨r102, g102, h⟩ := bd_e h
    refine kVN (As := [.int (oI x2), .int (oI x3)]) (rest := [.ref (ad (q1 + 4)), .ref (ad (201 + 2 * x3.toNat))]) (s_Ct_placeOf l z ad E M q1 x2 x3 r102 hL g102) hx hb hml hown hts w_614 n_610 w_612 w_s_4a352f w_29 md_4ba11b ⟨Nat.le_of_ble_eq_true rfl, Nat.le_of_ble_eq_true rfl⟩ hG hZ hP hD hS hA q1 (wv_o (ci := 2) (isCt_i h_q1) (isCt_T h_q1)) rfl rfl rfl hl.1 rfl (Nat.le_of_ble_eq_true rfl) d_5_8_31 ⟨Nat.le_of_ble_eq_true rfl, Nat.le_of_ble_eq_true rfl⟩ (fun _ H locs hP hD hS => ?_)
    have hP : va_P z.1 classes (wv z ad E M) H := hP
    have hD : va_D A (wv z ad E M) := hD
    refine W.eq (g2 := F0 m 34 ls [.int (oI r102), .ref (ad (q1 + 4)), .ref (ad (201 + 2 * x3.toNat))]) rfl ?_
    obtain ⟨M103, g103, h⟩ := bd_e h
    refine kVN (As := [.ref (ad (q1 + 4)), .int (oI r102)]) (rest := []) (s_Na_store l z ad E M (201 + 2 * x3.toNat) (q1 + 4) r102 M103 hL g103) hx hb hml hown hts w_1151 n_1148 w_1150 w_s_e5ba2a w_9 md_2fea24 ⟨Nat.le_of_ble_eq_true rfl, Nat.le_of_ble_eq_true rfl⟩ hG hZ hP hD hS hA (201 + 2 * x3.toNat) (wv_o (ci := 8) (isNa_i (yg_182 hL ok101)) (isNa_T (yg_182 hL ok101))) rfl rfl rfl hl.1 rfl (Nat.le_of_ble_eq_true rfl) d_5_8_34 ⟨Nat.le_of_ble_eq_true rfl, Nat.le_of_ble_eq_true rfl⟩ (fun _ H locs hP hD hS => ?_)
    have hP : va_P z.1 classes (wv z ad E M103) H := hP
    have hD : va_D A (wv z ad E M103) := hD
    refine W.eq (g2 := F0 m 37 ls []) rfl ?_
    refine lv_iinc (v := oI (x3 + 1)) (lv' := [(3, .int (oI (x3 + 1))), (0, .ref (ad 179)), (1, .ref (ad q1)), (2, .int (oI x2))]) hx hb d_5_8_37 hl (k := 3) rfl (oI_add x3 1) (by decide) rfl (fun ls hl => ?_)
    refine lv_goto (tgt := 12) hx hb d_5_8_40 (by decide) ?_
    obtain ⟨rfl, rfl, rfl⟩ := in3 h
    exact k0 rfl H locs ls hP hD hS (lv_sub hl [1, 2, 3, 0] rfl)
set_option maxRecDepth 100000 in
set_option maxHeartbeats 4000000 in
theorem s_Co_keepMoment_12 (l : Launch) (z : Zz) (ad : Nat → Nat) (E : Ev) (q1 : Nat) (x2 : Int) {Q : State → Prop} {p : Program} {e : Env} {s : State} {m : MethodId} {below : List Frame} {meth : Method} {c : Code} {A : Nat → Prop} {args : Array Value} (hx : p.tables.exec = Jvm.exec) (hb : c.code = prog_5_method_8_code) (hml : c.maxLocals = 4) (hts : ∀ w ∈ WG, w.before args s = true) (hown : s.vm.findClass "Ballothall$Counting" = some m.cls) (hlocks : meth.locks = false) (hA : ∀ q, s.heap.size ≤ q → A q) (hG : KG z s) (hZ : FZ z A s) (hL : Lay E) : ∀ (fu : Nat) (M : Mm) (x3 : Int) (t : Nat) (w3 : Int) (N : Mm), l_Co_keepMoment_12 E q1 x2 fu M x3 = some (t, w3, N) → (t = 1 → ∀ (H : Heap) (locs : List Loc) (ls : Array Slot), va_P z.1 classes (wv z ad E N) H → va_D A (wv z ad E N) → va_S A s.heap H locs → lv_has ls 4 [(0, .ref (ad 179)), (1, .ref (ad q1)), (2, .int (oI x2))] → W p l e (rmK 2 64 0 0) s m args below meth c H locs 0 0 Q (F0 m 43 ls [])) → ∀ (H : Heap) (locs : List Loc) (ls : Array Slot), va_P z.1 classes (wv z ad E M) H → va_D A (wv z ad E M) → va_S A s.heap H locs → lv_has ls 4 [(0, .ref (ad 179)), (1, .ref (ad q1)), (2, .int (oI x2)), (3, .int (oI x3))] → W p l e (rmK 2 64 0 0) s m args below meth c H locs 0 0 Q (F0 m 12 ls []) := by
  intro fu
  induction fu with
  | zero =>
    intro M x3 t w3 N h
    have h : (none : Option (Nat × Int × Mm)) = some _ := h
    cases h
  | succ fu ih =>
    intro M x3 t w3 N h k1 H locs ls hP hD hS hl
    obtain ⟨⟨t0, w30, N9⟩, g0, h⟩ := bd_e h
    refine b_Co_keepMoment_12b l z ad E M q1 x2 x3 t0 w30 N9 hx hb hml hts hown hlocks hA hG hZ hL g0 (fun e0 => ?_) (fun e0 => ?_) H locs ls hP hD hS hl
    · subst e0
      have h := ite_t rfl h
      exact ih N9 w30 t w3 N h k1
    · subst e0
      have h := ite_f (by decide) h
      obtain ⟨rfl, rfl, rfl⟩ := in3 h
      exact k1 rfl
set_option maxRecDepth 100000 in
set_option maxHeartbeats 4000000 in
theorem s_Co_keepMoment (l : Launch) (z : Zz) (ad : Nat → Nat) (E : Ev) (M : Mm) (p1 : Nat) (N : Mm) (hL : Lay E) (h : f_Co_keepMoment E M p1 = some N) : CT l z ⟨"Ballothall$Counting", "keepMoment", "(LBallothall$Count;)V"⟩ prog_5_method_8_code 4 none [.ref (ad 179), .ref (ad p1)] (wv z ad E M) 2 64 0 0 (fun _ => none) (fun _ => (wv z ad E N)) := by
  refine CT.of (own := "Ballothall$Counting") (by decide +kernel) (Nat.le_of_ble_eq_true rfl) rfl (fun p e s m below meth c A ls hx hb hml hr hts hown hlocks hin hA hG hZ hP hD hS hl => ?_)
  have hl : lv_has ls 4 [(0, .ref (ad 179)), (1, .ref (ad p1))] := hl
  have key : ∀ (H : Heap) (locs : List Loc) (args : Array Value), (∀ w ∈ WG, w.before args s = true) → va_P z.1 classes (wv z ad E M) H → va_S A s.heap H locs → W p l e (rmK 2 64 0 0) s m args below meth c H locs 0 0 (MQ below (QK z A (fun _ => none) (fun _ => (wv z ad E N))) args s 0 0 A) (F0 m 0 ls []) := by
    intro H locs args hts hP hS
    unfold f_Co_keepMoment at h
    obtain ⟨h_p1, h⟩ := ck_e h
    refine lv_aload_n hx hb d_5_8_0 rfl (lv_at hl 1 rfl) ?_
    refine m_giN (C := "Ballothall$Count") (T := TX2) (N := 10) (ci := 2) (k := 4) hx hb hts iX2 hown hG hP (isCt_i h_p1) (isCt_T h_p1) rfl (by decide) n_1086 rfl (fun _ h9 => h9) rfl rfl d_5_8_1 ?_
    refine lv_aload_n hx hb d_5_8_4 rfl (lv_at hl 1 rfl) ?_
    refine m_giN (C := "Ballothall$Count") (T := TX2) (N := 10) (ci := 2) (k := 5) hx hb hts iX2 hown hG hP (isCt_i h_p1) (isCt_T h_p1) rfl (by decide) n_1088 rfl (fun _ h9 => h9) rfl rfl d_5_8_5 ?_
    refine lv_iadd hx hb d_5_8_8 ?_
    refine nrm (oI_add _ _) ?_
    refine lv_istore_n (lv' := [(2, .int (oI ((M p1 4) + (M p1 5)))), (0, .ref (ad 179)), (1, .ref (ad p1))]) hx hb d_5_8_9 rfl hl (by decide) rfl (fun ls hl => ?_)
    refine lv_iconst (v := oI 0) hx hb d_5_8_10 (by decide +kernel) ?_
    refine lv_istore_n (lv' := [(3, .int (oI 0)), (2, .int (oI ((M p1 4) + (M p1 5)))), (0, .ref (ad 179)), (1, .ref (ad p1))]) hx hb d_5_8_11 rfl hl (by decide) rfl (fun ls hl => ?_)
    obtain ⟨⟨t104, v104_3, M104⟩, g104, h⟩ := bd_e h
    obtain ⟨ok104, h⟩ := ck_e h
    refine s_Co_keepMoment_12 l z ad E p1 ((M p1 4) + (M p1 5)) hx hb hml hts hown hlocks hA hG hZ hL FU M 0 t104 v104_3 M104 g104 (fun e104 H locs ls hP hD hS hl => ?_) H locs ls hP hD hS (lv_sub hl [2, 3, 1, 0] rfl)
    refine lv_aload_n hx hb d_5_8_43 rfl (lv_at hl 0 rfl) ?_
    refine m_gr (j := 183) (C := "Ballothall$Counting") (T := TX3) (N := 15) (ci := 3) (k := 6) hx hb hts iX3 hown hG hP (yi_179 hL) (yt_179 hL) rfl (by decide) w_309 (fun _ h9 => h9) rfl rfl (yr_179_6 hL) d_5_8_44 ?_
    refine lv_aload_n hx hb d_5_8_47 rfl (lv_at hl 1 rfl) ?_
    refine m_grN (j := (p1 + 4)) (C := "Ballothall$Count") (T := TX2) (N := 10) (ci := 2) (k := 9) hx hb hts iX2 hown hG hP (isCt_i h_p1) (isCt_T h_p1) rfl (by decide) n_1099 rfl (fun _ h9 => h9) rfl rfl (isCt_r9 h_p1) d_5_8_48 ?_
    refine lv_aload_n hx hb d_5_8_51 rfl (lv_at hl 1 rfl) ?_
    refine lv_iload_n hx hb d_5_8_52 rfl (lv_at hl 2 rfl) ?_
    refine lv_bipush (v := oI 9) hx hb d_5_8_53 (by decide +kernel) ?_
    obtain ⟨r105, g105, h⟩ := bd_e h
    refine kVN (As := [.int (oI ((M p1 4) + (M p1 5))), .int (oI 9)]) (rest := [.ref (ad (p1 + 4)), .ref (ad 183)]) (s_Ct_placeOf l z ad E M104 p1 ((M p1 4) + (M p1 5)) 9 r105 hL g105) hx hb hml hown hts w_614 n_610 w_612 w_s_4a352f w_29 md_4ba11b ⟨Nat.le_of_ble_eq_true rfl, Nat.le_of_ble_eq_true rfl⟩ hG hZ hP hD hS hA p1 (wv_o (ci := 2) (isCt_i h_p1) (isCt_T h_p1)) rfl rfl rfl hl.1 rfl (Nat.le_of_ble_eq_true rfl) d_5_8_55 ⟨Nat.le_of_ble_eq_true rfl, Nat.le_of_ble_eq_true rfl⟩ (fun _ H locs hP hD hS => ?_)
    have hP : va_P z.1 classes (wv z ad E M104) H := hP
    have hD : va_D A (wv z ad E M104) := hD
    refine W.eq (g2 := F0 m 58 ls [.int (oI r105), .ref (ad (p1 + 4)), .ref (ad 183)]) rfl ?_
    obtain ⟨M106, g106, h⟩ := bd_e h
    refine kVN (As := [.ref (ad (p1 + 4)), .int (oI r105)]) (rest := []) (s_Na_store l z ad E M104 183 (p1 + 4) r105 M106 hL g106) hx hb hml hown hts w_1151 n_1148 w_1150 w_s_e5ba2a w_9 md_2fea24 ⟨Nat.le_of_ble_eq_true rfl, Nat.le_of_ble_eq_true rfl⟩ hG hZ hP hD hS hA 183 (wv_o (ci := 8) (yi_183 hL) (yt_183 hL)) rfl rfl rfl hl.1 rfl (Nat.le_of_ble_eq_true rfl) d_5_8_58 ⟨Nat.le_of_ble_eq_true rfl, Nat.le_of_ble_eq_true rfl⟩ (fun _ H locs hP hD hS => ?_)
    have hP : va_P z.1 classes (wv z ad E M106) H := hP
    have hD : va_D A (wv z ad E M106) := hD
    refine W.eq (g2 := F0 m 61 ls []) rfl ?_
    obtain rfl := in1 h
    exact W.vret hx hb hr (fun t ht hW => qkA hP hD hS (fun k => k) rfl rfl ht) hS.2.2 d_5_8_61
  exact key _ _ _ hts hP hS
set_option maxRecDepth 100000 in
set_option maxHeartbeats 4000000 in
theorem b_Na_compareWith_14b (l : Launch) (z : Zz) (ad : Nat → Nat) (E : Ev) (M : Mm) (q0 : Nat) (q1 : Nat) (x2 : Int) (t : Nat) (w2 : Int)  {Q : State → Prop} {p : Program} {e : Env} {s : State} {m : MethodId} {below : List Frame} {meth : Method} {c : Code} {A : Nat → Prop} {args : Array Value} (hx : p.tables.exec = Jvm.exec) (hb : c.code = prog_10_method_9_code) (hml : c.maxLocals = 3) (hts : ∀ w ∈ WG, w.before args s = true) (hown : s.vm.findClass "Ballothall$Natural" = some m.cls) (hlocks : meth.locks = false) (hA : ∀ q, s.heap.size ≤ q → A q) (hG : KG z s) (hZ : FZ z A s) (hL : Lay E) (h : Na_compareWith_14b E M q0 q1 x2 = some (t, w2)) (k0 : t = 0 → ∀ (H : Heap) (locs : List Loc) (ls : Array Slot), va_P z.1 classes (wv z ad E M) H → va_D A (wv z ad E M) → va_S A s.heap H locs → lv_has ls 3 [(0, .ref (ad q0)), (1, .ref (ad q1)), (2, .int (oI w2))] → W p l e (rmK 1 41 0 0) s m args below meth c H locs 0 0 Q (F0 m 14 ls [])) (k1 : t = 1 → ∀ (H : Heap) (locs : List Loc) (ls : Array Slot), va_P z.1 classes (wv z ad E M) H → va_D A (wv z ad E M) → va_S A s.heap H locs → lv_has ls 3 [(0, .ref (ad q0)), (1, .ref (ad q1)), (2, .int (oI w2))] → W p l e (rmK 1 41 0 0) s m args below meth c H locs 0 0 Q (F0 m 31 ls [])) (k2 : t = 2 → ∀ (H : Heap) (locs : List Loc) (ls : Array Slot), va_P z.1 classes (wv z ad E M) H → va_D A (wv z ad E M) → va_S A s.heap H locs → lv_has ls 3 [] → W p l e (rmK 1 41 0 0) s m args below meth c H locs 0 0 Q (F0 m 56 ls [])) : ∀ (H : Heap) (locs : List Loc) (ls : Array Slot), va_P z.1 classes (wv z ad E M) H → va_D A (wv z ad E M) → va_S A s.heap H locs → lv_has ls 3 [(0, .ref (ad q0)), (1, .ref (ad q1)), (2, .int (oI x2))] → W p l e (rmK 1 41 0 0) s m args below meth c H locs 0 0 Q (F0 m 14 ls []) := by
  intro H locs ls hP hD hS hl
  unfold Na_compareWith_14b at h
  obtain ⟨h_q0, h⟩ := ck_e h
  obtain ⟨h_q1, h⟩ := ck_e h
  refine lv_iload_n hx hb d_10_9_14 rfl (lv_at hl 2 rfl) ?_
  obtain ⟨ok103, h⟩ := ck_e h
  refine lv_if_lt (tgt := 56) hx hb d_10_9_15 (by decide) (fun c9 => ?_) (fun c9 => ?_)
  · have h := ite_t ((oI_lt0 ok103).mp c9) h
    obtain ⟨rfl, rfl⟩ := in2 h
    exact k2 rfl H locs ls hP hD hS (lv_sub hl [] rfl)
  · have h := ite_f (fun q => c9 ((oI_lt0 ok103).mpr q)) h
    refine lv_aload_n hx hb d_10_9_18 rfl (lv_at hl 0 rfl) ?_
    refine lv_iload_n hx hb d_10_9_19 rfl (lv_at hl 2 rfl) ?_
    obtain ⟨r104, g104, h⟩ := bd_e h
    refine kV (As := [.int (oI x2)]) (rest := []) (s_Na_limbAt l z ad E M q0 x2 r104 hL g104) hx hb hml hown hts w_637 w_634 w_636 w_s_21c489 w_9 md_149093 ⟨Nat.le_of_ble_eq_true rfl, Nat.le_of_ble_eq_true rfl⟩ hG hZ hP hD hS hA q0 (wv_o (ci := 8) (isNa_i h_q0) (isNa_T h_q0)) rfl rfl rfl hl.1 rfl (Nat.le_of_ble_eq_true rfl) d_10_9_20 ⟨Nat.le_of_ble_eq_true rfl, Nat.le_of_ble_eq_true rfl⟩ (fun _ H locs hP hD hS => ?_)
    have hP : va_P z.1 classes (wv z ad E M) H := hP
    have hD : va_D A (wv z ad E M) := hD
    refine W.eq (g2 := F0 m 23 ls [.int (oI r104)]) rfl ?_
    refine lv_aload_n hx hb d_10_9_23 rfl (lv_at hl 1 rfl) ?_
    refine lv_iload_n hx hb d_10_9_24 rfl (lv_at hl 2 rfl) ?_
    obtain ⟨r105, g105, h⟩ := bd_e h
    refine kV (As := [.int (oI x2)]) (rest := [.int (oI r104)]) (s_Na_limbAt l z ad E M q1 x2 r105 hL g105) hx hb hml hown hts w_637 w_634 w_636 w_s_21c489 w_9 md_149093 ⟨Nat.le_of_ble_eq_true rfl, Nat.le_of_ble_eq_true rfl⟩ hG hZ hP hD hS hA q1 (wv_o (ci := 8) (isNa_i h_q1) (isNa_T h_q1)) rfl rfl rfl hl.1 rfl (Nat.le_of_ble_eq_true rfl) d_10_9_25 ⟨Nat.le_of_ble_eq_true rfl, Nat.le_of_ble_eq_true rfl⟩ (fun _ H locs hP hD hS => ?_)
    have hP : va_P z.1 classes (wv z ad E M) H := hP
    have hD : va_D A (wv z ad E M) := hD
    refine W.eq (g2 := F0 m 28 ls [.int (oI r105), .int (oI r104)]) rfl ?_
    obtain ⟨ok106, h⟩ := ck_e h
    obtain ⟨ok107, h⟩ := ck_e h
    refine lv_icmp_eq (tgt := 50) hx hb d_10_9_28 (by decide) (fun c9 => ?_) (fun c9 => ?_)
    · have h := ite_t ((oI_eq (a := r104) (b := r105) ok106 ok107).mp c9) h
      refine lv_iinc (v := oI (x2 + (-1))) (lv' := [(2, .int (oI (x2 + (-1)))), (0, .ref (ad q0)), (1, .ref (ad q1))]) hx hb d_10_9_50 hl (k := 2) rfl (oI_add x2 (-1)) (by decide) rfl (fun ls hl => ?_)
      refine lv_goto (tgt := 14) hx hb d_10_9_53 (by decide) ?_
      obtain ⟨rfl, rfl⟩ := in2 h
      exact k0 rfl H locs ls hP hD hS (lv_sub hl [1, 2, 0] rfl)
    · have h := ite_f (fun q => c9 ((oI_eq (a := r104) (b := r105) ok106 ok107).mpr q)) h
      obtain ⟨rfl, rfl⟩ := in2 h
      exact k1 rfl H locs ls hP hD hS (lv_sub hl [0, 1, 2] rfl)
set_option maxRecDepth 100000 in
set_option maxHeartbeats 4000000 in
theorem s_Na_compareWith_14 (l : Launch) (z : Zz) (ad : Nat → Nat) (E : Ev) (q0 : Nat) (q1 : Nat) {Q : State → Prop} {p : Program} {e : Env} {s : State} {m : MethodId} {below : List Frame} {meth : Method} {c : Code} {A : Nat → Prop} {args : Array Value} (hx : p.tables.exec = Jvm.exec) (hb : c.code = prog_10_method_9_code) (hml : c.maxLocals = 3) (hts : ∀ w ∈ WG, w.before args s = true) (hown : s.vm.findClass "Ballothall$Natural" = some m.cls) (hlocks : meth.locks = false) (hA : ∀ q, s.heap.size ≤ q → A q) (hG : KG z s) (hZ : FZ z A s) (hL : Lay E) : ∀ (fu : Nat) (M : Mm) (x2 : Int) (t : Nat) (w2 : Int), l_Na_compareWith_14 E q0 q1 fu M x2 = some (t, w2) → (t = 1 → ∀ (H : Heap) (locs : List Loc) (ls : Array Slot), va_P z.1 classes (wv z ad E M) H → va_D A (wv z ad E M) → va_S A s.heap H locs → lv_has ls 3 [(0, .ref (ad q0)), (1, .ref (ad q1)), (2, .int (oI w2))] → W p l e (rmK 1 41 0 0) s m args below meth c H locs 0 0 Q (F0 m 31 ls [])) → (t = 2 → ∀ (H : Heap) (locs : List Loc) (ls : Array Slot), va_P z.1 classes (wv z ad E M) H → va_D A (wv z ad E M) → va_S A s.heap H locs → lv_has ls 3 [] → W p l e (rmK 1 41 0 0) s m args below meth c H locs 0 0 Q (F0 m 56 ls [])) → ∀ (H : Heap) (locs : List Loc) (ls : Array Slot), va_P z.1 classes (wv z ad E M) H → va_D A (wv z ad E M) → va_S A s.heap H locs → lv_has ls 3 [(0, .ref (ad q0)), (1, .ref (ad q1)), (2, .int (oI x2))] → W p l e (rmK 1 41 0 0) s m args below meth c H locs 0 0 Q (F0 m 14 ls []) := by
  intro fu
  induction fu with
  | zero =>
    intro M x2 t w2 h
    have h : (none : Option (Nat × Int)) = some _ := h
    cases h
  | succ fu ih =>
    intro M x2 t w2 h k1 k2 H locs ls hP hD hS hl
    obtain ⟨⟨t0, w20⟩, g0, h⟩ := bd_e h
    refine b_Na_compareWith_14b l z ad E M q0 q1 x2 t0 w20 hx hb hml hts hown hlocks hA hG hZ hL g0 (fun e0 => ?_) (fun e0 => ?_) (fun e0 => ?_) H locs ls hP hD hS hl
    · subst e0
      have h := ite_t rfl h
      exact ih M w20 t w2 h k1 k2
    · subst e0
      have h := ite_f (by decide) h
      obtain ⟨rfl, rfl⟩ := in2 h
      exact k1 rfl
    · subst e0
      have h := ite_f (by decide) h
      obtain ⟨rfl, rfl⟩ := in2 h
      exact k2 rfl
set_option maxRecDepth 100000 in
set_option maxHeartbeats 4000000 in
theorem s_Na_compareWith (l : Launch) (z : Zz) (ad : Nat → Nat) (E : Ev) (M : Mm) (p0 : Nat) (p1 : Nat) (r : Int)  (hL : Lay E) (h : f_Na_compareWith E M p0 p1 = some r) : CT l z ⟨"Ballothall$Natural", "compareWith", "(LBallothall$Natural;)I"⟩ prog_10_method_9_code 3 (some .int) [.ref (ad p0), .ref (ad p1)] (wv z ad E M) 1 41 0 0 (fun _ => some (.int (oI r))) (fun _ => (wv z ad E M)) := by
  refine CT.of (own := "Ballothall$Natural") (by decide +kernel) (Nat.le_of_ble_eq_true rfl) rfl (fun p e s m below meth c A ls hx hb hml hr hts hown hlocks hin hA hG hZ hP hD hS hl => ?_)
  have hl : lv_has ls 3 [(0, .ref (ad p0)), (1, .ref (ad p1))] := hl
  have key : ∀ (H : Heap) (locs : List Loc) (args : Array Value), (∀ w ∈ WG, w.before args s = true) → va_P z.1 classes (wv z ad E M) H → va_S A s.heap H locs → W p l e (rmK 1 41 0 0) s m args below meth c H locs 0 0 (MQ below (QK z A (fun _ => some (.int (oI r))) (fun _ => (wv z ad E M))) args s 0 0 A) (F0 m 0 ls []) := by
    intro H locs args hts hP hS
    unfold f_Na_compareWith at h
    obtain ⟨h_p0, h⟩ := ck_e h
    obtain ⟨h_p1, h⟩ := ck_e h
    refine lv_aload_n hx hb d_10_9_0 rfl (lv_at hl 0 rfl) ?_
    refine m_gi (C := "Ballothall$Natural") (T := TX8) (N := 2) (ci := 8) (k := 1) hx hb hts iX8 hown hG hP (isNa_i h_p0) (isNa_T h_p0) rfl (by decide) w_295 (fun _ h9 => h9) rfl rfl d_10_9_1 ?_
    refine lv_aload_n hx hb d_10_9_4 rfl (lv_at hl 1 rfl) ?_
    refine m_gi (C := "Ballothall$Natural") (T := TX8) (N := 2) (ci := 8) (k := 1) hx hb hts iX8 hown hG hP (isNa_i h_p1) (isNa_T h_p1) rfl (by decide) w_295 (fun _ h9 => h9) rfl rfl d_10_9_5 ?_
    obtain ⟨ok100, h⟩ := ck_e h
    obtain ⟨ok101, h⟩ := ck_e h
    refine va_mmax hx hb (by rw [hml]; exact hl.1.symm) hown (hts _ w_631) (hts _ w_632) (hts _ w_17) (hts _ w_max) (Nat.le_of_ble_eq_true rfl) (Nat.le_of_ble_eq_true rfl) (Nat.le_of_ble_eq_true rfl) (Nat.le_of_ble_eq_true rfl) d_10_9_8 ?_
    refine nrm (mx_oI (a := (M p0 1)) (b := (M p1 1)) ok100 ok101) ?_
    refine lv_iconst (v := oI 1) hx hb d_10_9_11 (by decide +kernel) ?_
    refine lv_isub hx hb d_10_9_12 ?_
    refine nrm (oI_sub _ _) ?_
    obtain ⟨v102, e102, h⟩ := nb_e h
    refine nrm (congrArg oI e102.symm) ?_
    refine lv_istore_n (lv' := [(2, .int (oI v102)), (0, .ref (ad p0)), (1, .ref (ad p1))]) hx hb d_10_9_13 rfl hl (by decide) rfl (fun ls hl => ?_)
    obtain ⟨⟨t108, v108_2⟩, g108, h⟩ := bd_e h
    refine s_Na_compareWith_14 l z ad E p0 p1 hx hb hml hts hown hlocks hA hG hZ hL FU M v102 t108 v108_2 g108 (fun e108 H locs ls hP hD hS hl => ?_) (fun e108 H locs ls hP hD hS hl => ?_) H locs ls hP hD hS (lv_sub hl [1, 2, 0] rfl)
    · subst e108
      have h := ite_t rfl h
      refine lv_aload_n hx hb d_10_9_31 rfl (lv_at hl 0 rfl) ?_
      refine lv_iload_n hx hb d_10_9_32 rfl (lv_at hl 2 rfl) ?_
      obtain ⟨r109, g109, h⟩ := bd_e h
      refine kV (As := [.int (oI v108_2)]) (rest := []) (s_Na_limbAt l z ad E M p0 v108_2 r109 hL g109) hx hb hml hown hts w_637 w_634 w_636 w_s_21c489 w_9 md_149093 ⟨Nat.le_of_ble_eq_true rfl, Nat.le_of_ble_eq_true rfl⟩ hG hZ hP hD hS hA p0 (wv_o (ci := 8) (isNa_i h_p0) (isNa_T h_p0)) rfl rfl rfl hl.1 rfl (Nat.le_of_ble_eq_true rfl) d_10_9_33 ⟨Nat.le_of_ble_eq_true rfl, Nat.le_of_ble_eq_true rfl⟩ (fun _ H locs hP hD hS => ?_)
      have hP : va_P z.1 classes (wv z ad E M) H := hP
      have hD : va_D A (wv z ad E M) := hD
      refine W.eq (g2 := F0 m 36 ls [.int (oI r109)]) rfl ?_
      refine lv_aload_n hx hb d_10_9_36 rfl (lv_at hl 1 rfl) ?_
      refine lv_iload_n hx hb d_10_9_37 rfl (lv_at hl 2 rfl) ?_
      obtain ⟨r110, g110, h⟩ := bd_e h
      refine kV (As := [.int (oI v108_2)]) (rest := [.int (oI r109)]) (s_Na_limbAt l z ad E M p1 v108_2 r110 hL g110) hx hb hml hown hts w_637 w_634 w_636 w_s_21c489 w_9 md_149093 ⟨Nat.le_of_ble_eq_true rfl, Nat.le_of_ble_eq_true rfl⟩ hG hZ hP hD hS hA p1 (wv_o (ci := 8) (isNa_i h_p1) (isNa_T h_p1)) rfl rfl rfl hl.1 rfl (Nat.le_of_ble_eq_true rfl) d_10_9_38 ⟨Nat.le_of_ble_eq_true rfl, Nat.le_of_ble_eq_true rfl⟩ (fun _ H locs hP hD hS => ?_)
      have hP : va_P z.1 classes (wv z ad E M) H := hP
      have hD : va_D A (wv z ad E M) := hD
      refine W.eq (g2 := F0 m 41 ls [.int (oI r110), .int (oI r109)]) rfl ?_
      obtain ⟨ok111, h⟩ := ck_e h
      obtain ⟨ok112, h⟩ := ck_e h
      refine lv_icmp_ge (tgt := 48) hx hb d_10_9_41 (by decide) (fun c9 => ?_) (fun c9 => ?_)
      · have h := ite_t ((oI_le (a := r110) (b := r109) ok112 ok111).mp c9) h
        refine lv_iconst (v := oI 1) hx hb d_10_9_48 (by decide +kernel) ?_
        obtain rfl := in1 h
        exact W.iret hx hb hr (fun t ht hW => qkA hP hD hS (fun k => k) rfl rfl ht) hS.2.2 d_10_9_49
      · have h := ite_f (fun q => c9 ((oI_le (a := r110) (b := r109) ok112 ok111).mpr q)) h
        refine lv_iconst (v := oI (-1)) hx hb d_10_9_44 (by decide +kernel) ?_
        refine lv_goto (tgt := 49) hx hb d_10_9_45 (by decide) ?_
        obtain rfl := in1 h
        exact W.iret hx hb hr (fun t ht hW => qkA hP hD hS (fun k => k) rfl rfl ht) hS.2.2 d_10_9_49
    · subst e108
      have h := ite_f (by decide) h
      have h := ite_t rfl h
      refine lv_iconst (v := oI 0) hx hb d_10_9_56 (by decide +kernel) ?_
      obtain rfl := in1 h
      exact W.iret hx hb hr (fun t ht hW => qkA hP hD hS (fun k => k) rfl rfl ht) hS.2.2 d_10_9_57
  exact key _ _ _ hts hP hS
set_option maxRecDepth 100000 in
set_option maxHeartbeats 4000000 in
theorem s_Bx_winsLot (l : Launch) (z : Zz) (ad : Nat → Nat) (E : Ev) (M : Mm) (x1 : Int) (x2 : Int) (r : Int)  (hL : Lay E) (h : f_Bx_winsLot E M x1 x2 = some r) : CT l z ⟨"Ballothall$BallotBox", "winsLot", "(II)Z"⟩ prog_2_method_3_code 3 (some .boolean) [.ref (ad 2), .int (oI x1), .int (oI x2)] (wv z ad E M) 0 20 0 0 (fun _ => some (.int (oI r))) (fun _ => (wv z ad E M)) := by
  refine CT.of (own := "Ballothall$BallotBox") (by decide +kernel) (Nat.le_of_ble_eq_true rfl) rfl (fun p e s m below meth c A ls hx hb hml hr hts hown hlocks hin hA hG hZ hP hD hS hl => ?_)
  have hl : lv_has ls 3 [(0, .ref (ad 2)), (1, .int (oI x1)), (2, .int (oI x2))] := hl
  have key : ∀ (H : Heap) (locs : List Loc) (args : Array Value), (∀ w ∈ WG, w.before args s = true) → va_P z.1 classes (wv z ad E M) H → va_S A s.heap H locs → W p l e (rmK 0 20 0 0) s m args below meth c H locs 0 0 (MQ below (QK z A (fun _ => some (.int (oI r))) (fun _ => (wv z ad E M))) args s 0 0 A) (F0 m 0 ls []) := by
    intro H locs args hts hP hS
    unfold f_Bx_winsLot at h
    refine lv_aload_n hx hb d_2_3_0 rfl (lv_at hl 0 rfl) ?_
    refine m_gr (j := 4) (C := "Ballothall$BallotBox") (T := TX0) (N := 10) (ci := 0) (k := 4) hx hb hts iX0 hown hG hP (yi_2 hL) (yt_2 hL) rfl (by decide) w_61 (fun _ h9 => h9) rfl rfl (yr_2_4 hL) d_2_3_1 ?_
    refine lv_iload_n hx hb d_2_3_4 rfl (lv_at hl 1 rfl) ?_
    obtain ⟨ok100, h⟩ := ck_e h
    refine m_ia hx hb hG hP (yi_4 hL) (yt_4 hL) ok100 d_2_3_5 ?_
    refine lv_aload_n hx hb d_2_3_6 rfl (lv_at hl 0 rfl) ?_
    refine m_gr (j := 4) (C := "Ballothall$BallotBox") (T := TX0) (N := 10) (ci := 0) (k := 4) hx hb hts iX0 hown hG hP (yi_2 hL) (yt_2 hL) rfl (by decide) w_61 (fun _ h9 => h9) rfl rfl (yr_2_4 hL) d_2_3_7 ?_
    refine lv_iload_n hx hb d_2_3_10 rfl (lv_at hl 2 rfl) ?_
    obtain ⟨ok101, h⟩ := ck_e h
    refine m_ia hx hb hG hP (yi_4 hL) (yt_4 hL) ok101 d_2_3_11 ?_
    obtain ⟨ok102, h⟩ := ck_e h
    obtain ⟨ok103, h⟩ := ck_e h
    refine lv_icmp_lt (tgt := 35) hx hb d_2_3_12 (by decide) (fun c9 => ?_) (fun c9 => ?_)
    · have h := ite_t ((oI_lt (a := (M 4 x1.toNat)) (b := (M 4 x2.toNat)) ok102 ok103).mp c9) h
      refine lv_iconst (v := oI 1) hx hb d_2_3_35 (by decide +kernel) ?_
      refine lv_goto (tgt := 40) hx hb d_2_3_36 (by decide) ?_
      obtain rfl := in1 h
      exact W.zret hx hb hr rfl (fun t ht hW => qkA hP hD hS (fun k => k) rfl rfl ht) hS.2.2 d_2_3_40
    · have h := ite_f (fun q => c9 ((oI_lt (a := (M 4 x1.toNat)) (b := (M 4 x2.toNat)) ok102 ok103).mpr q)) h
      refine lv_aload_n hx hb d_2_3_15 rfl (lv_at hl 0 rfl) ?_
      refine m_gr (j := 4) (C := "Ballothall$BallotBox") (T := TX0) (N := 10) (ci := 0) (k := 4) hx hb hts iX0 hown hG hP (yi_2 hL) (yt_2 hL) rfl (by decide) w_61 (fun _ h9 => h9) rfl rfl (yr_2_4 hL) d_2_3_16 ?_
      refine lv_iload_n hx hb d_2_3_19 rfl (lv_at hl 1 rfl) ?_
      refine m_ia hx hb hG hP (yi_4 hL) (yt_4 hL) ok100 d_2_3_20 ?_
      refine lv_aload_n hx hb d_2_3_21 rfl (lv_at hl 0 rfl) ?_
      refine m_gr (j := 4) (C := "Ballothall$BallotBox") (T := TX0) (N := 10) (ci := 0) (k := 4) hx hb hts iX0 hown hG hP (yi_2 hL) (yt_2 hL) rfl (by decide) w_61 (fun _ h9 => h9) rfl rfl (yr_2_4 hL) d_2_3_22 ?_
      refine lv_iload_n hx hb d_2_3_25 rfl (lv_at hl 2 rfl) ?_
      refine m_ia hx hb hG hP (yi_4 hL) (yt_4 hL) ok101 d_2_3_26 ?_
      refine lv_icmp_ne (tgt := 39) hx hb d_2_3_27 (by decide) (fun c9 => ?_) (fun c9 => ?_)
      · have h := ite_f (fun q => c9 ((oI_eq (a := (M 4 x1.toNat)) (b := (M 4 x2.toNat)) ok102 ok103).mpr q)) h
        refine lv_iconst (v := oI 0) hx hb d_2_3_39 (by decide +kernel) ?_
        obtain rfl := in1 h
        exact W.zret hx hb hr rfl (fun t ht hW => qkA hP hD hS (fun k => k) rfl rfl ht) hS.2.2 d_2_3_40
      · have h := ite_t ((oI_eq (a := (M 4 x1.toNat)) (b := (M 4 x2.toNat)) ok102 ok103).mp c9) h
        refine lv_iload_n hx hb d_2_3_30 rfl (lv_at hl 1 rfl) ?_
        refine lv_iload_n hx hb d_2_3_31 rfl (lv_at hl 2 rfl) ?_
        refine lv_icmp_ge (tgt := 39) hx hb d_2_3_32 (by decide) (fun c9 => ?_) (fun c9 => ?_)
        · have h := ite_t ((oI_le (a := x2) (b := x1) (inb_rg ok101) (inb_rg ok100)).mp c9) h
          refine lv_iconst (v := oI 0) hx hb d_2_3_39 (by decide +kernel) ?_
          obtain rfl := in1 h
          exact W.zret hx hb hr rfl (fun t ht hW => qkA hP hD hS (fun k => k) rfl rfl ht) hS.2.2 d_2_3_40
        · have h := ite_f (fun q => c9 ((oI_le (a := x2) (b := x1) (inb_rg ok101) (inb_rg ok100)).mpr q)) h
          refine lv_iconst (v := oI 1) hx hb d_2_3_35 (by decide +kernel) ?_
          refine lv_goto (tgt := 40) hx hb d_2_3_36 (by decide) ?_
          obtain rfl := in1 h
          exact W.zret hx hb hr rfl (fun t ht hW => qkA hP hD hS (fun k => k) rfl rfl ht) hS.2.2 d_2_3_40
  exact key _ _ _ hts hP hS
set_option maxRecDepth 100000 in
set_option maxHeartbeats 4000000 in
theorem s_Co_isAhead (l : Launch) (z : Zz) (ad : Nat → Nat) (E : Ev) (M : Mm) (x1 : Int) (x2 : Int) (r : Int)  (hL : Lay E) (h : f_Co_isAhead E M x1 x2 = some r) : CT l z ⟨"Ballothall$Counting", "isAhead", "(II)Z"⟩ prog_5_method_12_code 4 (some .boolean) [.ref (ad 179), .int (oI x1), .int (oI x2)] (wv z ad E M) 2 63 0 0 (fun _ => some (.int (oI r))) (fun _ => (wv z ad E M)) := by
  refine CT.of (own := "Ballothall$Counting") (by decide +kernel) (Nat.le_of_ble_eq_true rfl) rfl (fun p e s m below meth c A ls hx hb hml hr hts hown hlocks hin hA hG hZ hP hD hS hl => ?_)
  have hl : lv_has ls 4 [(0, .ref (ad 179)), (1, .int (oI x1)), (2, .int (oI x2))] := hl
  have key : ∀ (H : Heap) (locs : List Loc) (args : Array Value), (∀ w ∈ WG, w.before args s = true) → va_P z.1 classes (wv z ad E M) H → va_S A s.heap H locs → W p l e (rmK 2 63 0 0) s m args below meth c H locs 0 0 (MQ below (QK z A (fun _ => some (.int (oI r))) (fun _ => (wv z ad E M))) args s 0 0 A) (F0 m 0 ls []) := by
    intro H locs args hts hP hS
    unfold f_Co_isAhead at h
    refine lv_aload_n hx hb d_5_12_0 rfl (lv_at hl 0 rfl) ?_
    refine m_gr (j := 182) (C := "Ballothall$Counting") (T := TX3) (N := 15) (ci := 3) (k := 5) hx hb hts iX3 hown hG hP (yi_179 hL) (yt_179 hL) rfl (by decide) w_308 (fun _ h9 => h9) rfl rfl (yr_179_5 hL) d_5_12_1 ?_
    refine lv_iload_n hx hb d_5_12_4 rfl (lv_at hl 1 rfl) ?_
    obtain ⟨ok100, h⟩ := ck_e h
    refine m_aa (k := (201 + 2 * x1.toNat)) (t := 5) (C := "Ballothall$Natural") hx hb hG hP (yi_182 hL) (yt_182 hL) rfl rfl ok100 (ya_182 hL (inb_lt ok100)) d_5_12_5 ?_
    refine lv_aload_n hx hb d_5_12_6 rfl (lv_at hl 0 rfl) ?_
    refine m_gr (j := 182) (C := "Ballothall$Counting") (T := TX3) (N := 15) (ci := 3) (k := 5) hx hb hts iX3 hown hG hP (yi_179 hL) (yt_179 hL) rfl (by decide) w_308 (fun _ h9 => h9) rfl rfl (yr_179_5 hL) d_5_12_7 ?_
    refine lv_iload_n hx hb d_5_12_10 rfl (lv_at hl 2 rfl) ?_
    obtain ⟨ok101, h⟩ := ck_e h
    refine m_aa (k := (201 + 2 * x2.toNat)) (t := 5) (C := "Ballothall$Natural") hx hb hG hP (yi_182 hL) (yt_182 hL) rfl rfl ok101 (ya_182 hL (inb_lt ok101)) d_5_12_11 ?_
    obtain ⟨r102, g102, h⟩ := bd_e h
    refine kVN (As := [.ref (ad (201 + 2 * x2.toNat))]) (rest := []) (s_Na_compareWith l z ad E M (201 + 2 * x1.toNat) (201 + 2 * x2.toNat) r102 hL g102) hx hb hml hown hts w_646 n_643 w_645 w_s_c7eea3 w_9 md_c6b535 ⟨Nat.le_of_ble_eq_true rfl, Nat.le_of_ble_eq_true rfl⟩ hG hZ hP hD hS hA (201 + 2 * x1.toNat) (wv_o (ci := 8) (isNa_i (yg_182 hL ok100)) (isNa_T (yg_182 hL ok100))) rfl rfl rfl hl.1 rfl (Nat.le_of_ble_eq_true rfl) d_5_12_12 ⟨Nat.le_of_ble_eq_true rfl, Nat.le_of_ble_eq_true rfl⟩ (fun _ H locs hP hD hS => ?_)
    have hP : va_P z.1 classes (wv z ad E M) H := hP
    have hD : va_D A (wv z ad E M) := hD
    refine W.eq (g2 := F0 m 15 ls [.int (oI r102)]) rfl ?_
    refine lv_istore_n (lv' := [(3, .int (oI r102)), (0, .ref (ad 179)), (1, .int (oI x1)), (2, .int (oI x2))]) hx hb d_5_12_15 rfl hl (by decide) rfl (fun ls hl => ?_)
    refine lv_iload_n hx hb d_5_12_16 rfl (lv_at hl 0 rfl) ?_
    obtain ⟨ok103, h⟩ := ck_e h
    refine lv_if_gt (tgt := 36) hx hb d_5_12_17 (by decide) (fun c9 => ?_) (fun c9 => ?_)
    · have h := ite_t ((oI_gt0 ok103).mp c9) h
      refine lv_iconst (v := oI 1) hx hb d_5_12_36 (by decide +kernel) ?_
      refine lv_goto (tgt := 41) hx hb d_5_12_37 (by decide) ?_
      obtain rfl := in1 h
      exact W.zret hx hb hr rfl (fun t ht hW => qkA hP hD hS (fun k => k) rfl rfl ht) hS.2.2 d_5_12_41
    · have h := ite_f (fun q => c9 ((oI_gt0 ok103).mpr q)) h
      refine lv_iload_n hx hb d_5_12_20 rfl (lv_at hl 0 rfl) ?_
      refine lv_if_ne (tgt := 40) hx hb d_5_12_21 (by decide) (fun c9 => ?_) (fun c9 => ?_)
      · have h := ite_f (fun q => c9 ((oI_eq0 ok103).mpr q)) h
        refine lv_iconst (v := oI 0) hx hb d_5_12_40 (by decide +kernel) ?_
        obtain rfl := in1 h
        exact W.zret hx hb hr rfl (fun t ht hW => qkA hP hD hS (fun k => k) rfl rfl ht) hS.2.2 d_5_12_41
      · have h := ite_t ((oI_eq0 ok103).mp c9) h
        refine lv_aload_n hx hb d_5_12_24 rfl (lv_at hl 1 rfl) ?_
        refine m_gr (j := 2) (C := "Ballothall$Counting") (T := TX3) (N := 15) (ci := 3) (k := 0) hx hb hts iX3 hown hG hP (yi_179 hL) (yt_179 hL) rfl (by decide) w_303 (fun _ h9 => h9) rfl rfl (yr_179_0 hL) d_5_12_25 ?_
        refine lv_iload_n hx hb d_5_12_28 rfl (lv_at hl 2 rfl) ?_
        refine lv_iload_n hx hb d_5_12_29 rfl (lv_at hl 3 rfl) ?_
        obtain ⟨r104, g104, h⟩ := bd_e h
        refine kVN (As := [.int (oI x1), .int (oI x2)]) (rest := []) (s_Bx_winsLot l z ad E M x1 x2 r104 hL g104) hx hb hml hown hts w_1163 n_1160 w_1162 w_s_85fec9 w_2 md_aa27a3 ⟨Nat.le_of_ble_eq_true rfl, Nat.le_of_ble_eq_true rfl⟩ hG hZ hP hD hS hA 2 (wv_o (ci := 0) (yi_2 hL) (yt_2 hL)) rfl rfl rfl hl.1 rfl (Nat.le_of_ble_eq_true rfl) d_5_12_30 ⟨Nat.le_of_ble_eq_true rfl, Nat.le_of_ble_eq_true rfl⟩ (fun _ H locs hP hD hS => ?_)
        have hP : va_P z.1 classes (wv z ad E M) H := hP
        have hD : va_D A (wv z ad E M) := hD
        refine W.eq (g2 := F0 m 33 ls [.int (oI r104)]) rfl ?_
        obtain ⟨ok105, h⟩ := ck_e h
        refine lv_if_eq (tgt := 40) hx hb d_5_12_33 (by decide) (fun c9 => ?_) (fun c9 => ?_)
        · have h := ite_t ((oI_eq0 ok105).mp c9) h
          refine lv_iconst (v := oI 0) hx hb d_5_12_40 (by decide +kernel) ?_
          obtain rfl := in1 h
          exact W.zret hx hb hr rfl (fun t ht hW => qkA hP hD hS (fun k => k) rfl rfl ht) hS.2.2 d_5_12_41
        · have h := ite_f (fun q => c9 ((oI_eq0 ok105).mpr q)) h
          refine lv_iconst (v := oI 1) hx hb d_5_12_36 (by decide +kernel) ?_
          refine lv_goto (tgt := 41) hx hb d_5_12_37 (by decide) ?_
          obtain rfl := in1 h
          exact W.zret hx hb hr rfl (fun t ht hW => qkA hP hD hS (fun k => k) rfl rfl ht) hS.2.2 d_5_12_41
  exact key _ _ _ hts hP hS
set_option maxRecDepth 100000 in
set_option maxHeartbeats 4000000 in
theorem b_Co_greatestPile_4b (l : Launch) (z : Zz) (ad : Nat → Nat) (E : Ev) (M : Mm) (x1 : Int) (x2 : Int) (t : Nat) (w1 : Int) (w2 : Int)  {Q : State → Prop} {p : Program} {e : Env} {s : State} {m : MethodId} {below : List Frame} {meth : Method} {c : Code} {A : Nat → Prop} {args : Array Value} (hx : p.tables.exec = Jvm.exec) (hb : c.code = prog_5_method_10_code) (hml : c.maxLocals = 3) (hts : ∀ w ∈ WG, w.before args s = true) (hown : s.vm.findClass "Ballothall$Counting" = some m.cls) (hlocks : meth.locks = false) (hA : ∀ q, s.heap.size ≤ q → A q) (hG : KG z s) (hZ : FZ z A s) (hL : Lay E) (h : Co_greatestPile_4b E M x1 x2 = some (t, w1, w2)) (k0 : t = 0 → ∀ (H : Heap) (locs : List Loc) (ls : Array Slot), va_P z.1 classes (wv z ad E M) H → va_D A (wv z ad E M) → va_S A s.heap H locs → lv_has ls 3 [(0, .ref (ad 179)), (1, .int (oI w1)), (2, .int (oI w2))] → W p l e (rmK 3 86 0 0) s m args below meth c H locs 0 0 Q (F0 m 4 ls [])) (k1 : t = 1 → ∀ (H : Heap) (locs : List Loc) (ls : Array Slot), va_P z.1 classes (wv z ad E M) H → va_D A (wv z ad E M) → va_S A s.heap H locs → lv_has ls 3 [(1, .int (oI w1))] → W p l e (rmK 3 86 0 0) s m args below meth c H locs 0 0 Q (F0 m 48 ls [])) : ∀ (H : Heap) (locs : List Loc) (ls : Array Slot), va_P z.1 classes (wv z ad E M) H → va_D A (wv z ad E M) → va_S A s.heap H locs → lv_has ls 3 [(0, .ref (ad 179)), (1, .int (oI x1)), (2, .int (oI x2))] → W p l e (rmK 3 86 0 0) s m args below meth c H locs 0 0 Q (F0 m 4 ls []) := by
  intro H locs ls hP hD hS hl
  unfold Co_greatestPile_4b at h
  refine lv_iload_n hx hb d_5_10_4 rfl (lv_at hl 2 rfl) ?_
  refine lv_aload_n hx hb d_5_10_5 rfl (lv_at hl 0 rfl) ?_
  refine m_gr (j := 2) (C := "Ballothall$Counting") (T := TX3) (N := 15) (ci := 3) (k := 0) hx hb hts iX3 hown hG hP (yi_179 hL) (yt_179 hL) rfl (by decide) w_303 (fun _ h9 => h9) rfl rfl (yr_179_0 hL) d_5_10_6 ?_
  refine m_giN (C := "Ballothall$BallotBox") (T := TX0) (N := 10) (ci := 0) (k := 2) hx hb hts iX0 hown hG hP (yi_2 hL) (yt_2 hL) rfl (by decide) n_55 rfl (fun _ h9 => h9) rfl rfl d_5_10_9 ?_
  obtain ⟨ok100, h⟩ := ck_e h
  obtain ⟨ok101, h⟩ := ck_e h
  refine lv_icmp_ge (tgt := 48) hx hb d_5_10_12 (by decide) (fun c9 => ?_) (fun c9 => ?_)
  · have h := ite_t ((oI_le (a := (M 2 2)) (b := x2) ok101 ok100).mp c9) h
    obtain ⟨rfl, rfl, rfl⟩ := in3 h
    exact k1 rfl H locs ls hP hD hS (lv_sub hl [1] rfl)
  · have h := ite_f (fun q => c9 ((oI_le (a := (M 2 2)) (b := x2) ok101 ok100).mpr q)) h
    refine lv_aload_n hx hb d_5_10_15 rfl (lv_at hl 0 rfl) ?_
    refine m_gi (C := "Ballothall$Counting") (T := TX3) (N := 15) (ci := 3) (k := 3) hx hb hts iX3 hown hG hP (yi_179 hL) (yt_179 hL) rfl (by decide) w_306 (fun _ h9 => h9) rfl rfl d_5_10_16 ?_
    refine lv_iload_n hx hb d_5_10_19 rfl (lv_at hl 2 rfl) ?_
    obtain ⟨r102, g102, h⟩ := bd_e h
    refine kSN (As := [.int (oI (M 179 3)), .int (oI x2)]) (rest := []) (s_B_has l z ad E M (M 179 3) x2 r102 hL g102) hx hb hml hown hts w_693 n_1143 w_692 w_1 md_26545c ⟨Nat.le_of_ble_eq_true rfl, Nat.le_of_ble_eq_true rfl⟩ hG hZ hP hD hS hA rfl hl.1 rfl (Nat.le_of_ble_eq_true rfl) d_5_10_20 ⟨Nat.le_of_ble_eq_true rfl, Nat.le_of_ble_eq_true rfl⟩ (fun _ H locs hP hD hS => ?_)
    have hP : va_P z.1 classes (wv z ad E M) H := hP
    have hD : va_D A (wv z ad E M) := hD
    refine W.eq (g2 := F0 m 23 ls [.int (oI r102)]) rfl ?_
    obtain ⟨ok103, h⟩ := ck_e h
    refine lv_if_eq (tgt := 42) hx hb d_5_10_23 (by decide) (fun c9 => ?_) (fun c9 => ?_)
    · have h := ite_t ((oI_eq0 ok103).mp c9) h
      refine lv_iinc (v := oI (x2 + 1)) (lv' := [(2, .int (oI (x2 + 1))), (0, .ref (ad 179)), (1, .int (oI x1))]) hx hb d_5_10_42 hl (k := 2) rfl (oI_add x2 1) (by decide) rfl (fun ls hl => ?_)
      refine lv_goto (tgt := 4) hx hb d_5_10_45 (by decide) ?_
      obtain ⟨rfl, rfl, rfl⟩ := in3 h
      exact k0 rfl H locs ls hP hD hS (lv_sub hl [1, 2, 0] rfl)
    · have h := ite_f (fun q => c9 ((oI_eq0 ok103).mpr q)) h
      refine lv_iload_n hx hb d_5_10_26 rfl (lv_at hl 1 rfl) ?_
      refine lv_iconst (v := oI (-1)) hx hb d_5_10_27 (by decide +kernel) ?_
      obtain ⟨ok104, h⟩ := ck_e h
      refine lv_icmp_eq (tgt := 40) hx hb d_5_10_28 (by decide) (fun c9 => ?_) (fun c9 => ?_)
      · have h := ite_t ((oI_eq (a := x1) (b := (-1 : Int)) ok104 (by decide)).mp c9) h
        refine lv_iload_n hx hb d_5_10_40 rfl (lv_at hl 2 rfl) ?_
        refine lv_istore_n (lv' := [(1, .int (oI x2)), (0, .ref (ad 179)), (2, .int (oI x2))]) hx hb d_5_10_41 rfl hl (by decide) rfl (fun ls hl => ?_)
        refine lv_iinc (v := oI (x2 + 1)) (lv' := [(2, .int (oI (x2 + 1))), (1, .int (oI x2)), (0, .ref (ad 179))]) hx hb d_5_10_42 hl (k := 2) rfl (oI_add x2 1) (by decide) rfl (fun ls hl => ?_)
        refine lv_goto (tgt := 4) hx hb d_5_10_45 (by decide) ?_
        obtain ⟨rfl, rfl, rfl⟩ := in3 h
        exact k0 rfl H locs ls hP hD hS (lv_sub hl [2, 1, 0] rfl)
      · have h := ite_f (fun q => c9 ((oI_eq (a := x1) (b := (-1 : Int)) ok104 (by decide)).mpr q)) h
        refine lv_aload_n hx hb d_5_10_31 rfl (lv_at hl 0 rfl) ?_
        refine lv_iload_n hx hb d_5_10_32 rfl (lv_at hl 2 rfl) ?_
        refine lv_iload_n hx hb d_5_10_33 rfl (lv_at hl 1 rfl) ?_
        obtain ⟨r105, g105, h⟩ := bd_e h
        refine kV (As := [.int (oI x2), .int (oI x1)]) (rest := []) (s_Co_isAhead l z ad E M x2 x1 r105 hL g105) hx hb hml hown hts w_1159 w_1156 w_1158 w_s_1c537b w_8 md_e91d6f ⟨Nat.le_of_ble_eq_true rfl, Nat.le_of_ble_eq_true rfl⟩ hG hZ hP hD hS hA 179 (wv_o (ci := 3) (yi_179 hL) (yt_179 hL)) rfl rfl rfl hl.1 rfl (Nat.le_of_ble_eq_true rfl) d_5_10_34 ⟨Nat.le_of_ble_eq_true rfl, Nat.le_of_ble_eq_true rfl⟩ (fun _ H locs hP hD hS => ?_)
        have hP : va_P z.1 classes (wv z ad E M) H := hP
        have hD : va_D A (wv z ad E M) := hD
        refine W.eq (g2 := F0 m 37 ls [.int (oI r105)]) rfl ?_
        obtain ⟨ok106, h⟩ := ck_e h
        refine lv_if_eq (tgt := 42) hx hb d_5_10_37 (by decide) (fun c9 => ?_) (fun c9 => ?_)
        · have h := ite_t ((oI_eq0 ok106).mp c9) h
          refine lv_iinc (v := oI (x2 + 1)) (lv' := [(2, .int (oI (x2 + 1))), (0, .ref (ad 179)), (1, .int (oI x1))]) hx hb d_5_10_42 hl (k := 2) rfl (oI_add x2 1) (by decide) rfl (fun ls hl => ?_)
          refine lv_goto (tgt := 4) hx hb d_5_10_45 (by decide) ?_
          obtain ⟨rfl, rfl, rfl⟩ := in3 h
          exact k0 rfl H locs ls hP hD hS (lv_sub hl [1, 2, 0] rfl)
        · have h := ite_f (fun q => c9 ((oI_eq0 ok106).mpr q)) h
          refine lv_iload_n hx hb d_5_10_40 rfl (lv_at hl 2 rfl) ?_
          refine lv_istore_n (lv' := [(1, .int (oI x2)), (0, .ref (ad 179)), (2, .int (oI x2))]) hx hb d_5_10_41 rfl hl (by decide) rfl (fun ls hl => ?_)
          refine lv_iinc (v := oI (x2 + 1)) (lv' := [(2, .int (oI (x2 + 1))), (1, .int (oI x2)), (0, .ref (ad 179))]) hx hb d_5_10_42 hl (k := 2) rfl (oI_add x2 1) (by decide) rfl (fun ls hl => ?_)
          refine lv_goto (tgt := 4) hx hb d_5_10_45 (by decide) ?_
          obtain ⟨rfl, rfl, rfl⟩ := in3 h
          exact k0 rfl H locs ls hP hD hS (lv_sub hl [2, 1, 0] rfl)
set_option maxRecDepth 100000 in
set_option maxHeartbeats 4000000 in
theorem s_Co_greatestPile_4 (l : Launch) (z : Zz) (ad : Nat → Nat) (E : Ev) {Q : State → Prop} {p : Program} {e : Env} {s : State} {m : MethodId} {below : List Frame} {meth : Method} {c : Code} {A : Nat → Prop} {args : Array Value} (hx : p.tables.exec = Jvm.exec) (hb : c.code = prog_5_method_10_code) (hml : c.maxLocals = 3) (hts : ∀ w ∈ WG, w.before args s = true) (hown : s.vm.findClass "Ballothall$Counting" = some m.cls) (hlocks : meth.locks = false) (hA : ∀ q, s.heap.size ≤ q → A q) (hG : KG z s) (hZ : FZ z A s) (hL : Lay E) : ∀ (fu : Nat) (M : Mm) (x1 : Int) (x2 : Int) (t : Nat) (w1 : Int) (w2 : Int), l_Co_greatestPile_4 E fu M x1 x2 = some (t, w1, w2) → (t = 1 → ∀ (H : Heap) (locs : List Loc) (ls : Array Slot), va_P z.1 classes (wv z ad E M) H → va_D A (wv z ad E M) → va_S A s.heap H locs → lv_has ls 3 [(1, .int (oI w1))] → W p l e (rmK 3 86 0 0) s m args below meth c H locs 0 0 Q (F0 m 48 ls [])) → ∀ (H : Heap) (locs : List Loc) (ls : Array Slot), va_P z.1 classes (wv z ad E M) H → va_D A (wv z ad E M) → va_S A s.heap H locs → lv_has ls 3 [(0, .ref (ad 179)), (1, .int (oI x1)), (2, .int (oI x2))] → W p l e (rmK 3 86 0 0) s m args below meth c H locs 0 0 Q (F0 m 4 ls []) := by
  intro fu
  induction fu with
  | zero =>
    intro M x1 x2 t w1 w2 h
    have h : (none : Option (Nat × Int × Int)) = some _ := h
    cases h
  | succ fu ih =>
    intro M x1 x2 t w1 w2 h k1 H locs ls hP hD hS hl
    obtain ⟨⟨t0, w10, w20⟩, g0, h⟩ := bd_e h
    refine b_Co_greatestPile_4b l z ad E M x1 x2 t0 w10 w20 hx hb hml hts hown hlocks hA hG hZ hL g0 (fun e0 => ?_) (fun e0 => ?_) H locs ls hP hD hS hl
    · subst e0
      have h := ite_t rfl h
      exact ih M w10 w20 t w1 w2 h k1
    · subst e0
      have h := ite_f (by decide) h
      obtain ⟨rfl, rfl, rfl⟩ := in3 h
      exact k1 rfl
set_option maxRecDepth 100000 in
set_option maxHeartbeats 4000000 in
theorem s_Co_greatestPile (l : Launch) (z : Zz) (ad : Nat → Nat) (E : Ev) (M : Mm) (r : Int)  (hL : Lay E) (h : f_Co_greatestPile E M = some r) : CT l z ⟨"Ballothall$Counting", "greatestPile", "()I"⟩ prog_5_method_10_code 3 (some .int) [.ref (ad 179)] (wv z ad E M) 3 86 0 0 (fun _ => some (.int (oI r))) (fun _ => (wv z ad E M)) := by
  refine CT.of (own := "Ballothall$Counting") (by decide +kernel) (Nat.le_of_ble_eq_true rfl) rfl (fun p e s m below meth c A ls hx hb hml hr hts hown hlocks hin hA hG hZ hP hD hS hl => ?_)
  have hl : lv_has ls 3 [(0, .ref (ad 179))] := hl
  have key : ∀ (H : Heap) (locs : List Loc) (args : Array Value), (∀ w ∈ WG, w.before args s = true) → va_P z.1 classes (wv z ad E M) H → va_S A s.heap H locs → W p l e (rmK 3 86 0 0) s m args below meth c H locs 0 0 (MQ below (QK z A (fun _ => some (.int (oI r))) (fun _ => (wv z ad E M))) args s 0 0 A) (F0 m 0 ls []) := by
    intro H locs args hts hP hS
    unfold f_Co_greatestPile at h
    refine lv_iconst (v := oI (-1)) hx hb d_5_10_0 (by decide +kernel) ?_
    refine lv_istore_n (lv' := [(1, .int (oI (-1))), (0, .ref (ad 179))]) hx hb d_5_10_1 rfl hl (by decide) rfl (fun ls hl => ?_)
    refine lv_iconst (v := oI 0) hx hb d_5_10_2 (by decide +kernel) ?_
    refine lv_istore_n (lv' := [(2, .int (oI 0)), (1, .int (oI (-1))), (0, .ref (ad 179))]) hx hb d_5_10_3 rfl hl (by decide) rfl (fun ls hl => ?_)
    obtain ⟨⟨t107, v107_1, v107_2⟩, g107, h⟩ := bd_e h
    obtain ⟨ok107, h⟩ := ck_e h
    refine s_Co_greatestPile_4 l z ad E hx hb hml hts hown hlocks hA hG hZ hL FU M (-1) 0 t107 v107_1 v107_2 g107 (fun e107 H locs ls hP hD hS hl => ?_) H locs ls hP hD hS (lv_sub hl [2, 1, 0] rfl)
    refine lv_iload_n hx hb d_5_10_48 rfl (lv_at hl 0 rfl) ?_
    obtain rfl := in1 h
    exact W.iret hx hb hr (fun t ht hW => qkA hP hD hS (fun k => k) rfl rfl ht) hS.2.2 d_5_10_49
  exact key _ _ _ hts hP hS
set_option maxRecDepth 100000 in
set_option maxHeartbeats 4000000 in
theorem s_Co_elect (l : Launch) (z : Zz) (ad : Nat → Nat) (E : Ev) (M : Mm) (p1 : Nat) (x2 : Int) (N : Mm) (hL : Lay E) (h : f_Co_elect E M p1 x2 = some N) : CT l z ⟨"Ballothall$Counting", "elect", "(LBallothall$Count;I)V"⟩ prog_5_method_13_code 3 none [.ref (ad 179), .ref (ad p1), .int (oI x2)] (wv z ad E M) 0 20 0 0 (fun _ => none) (fun _ => (wv z ad E N)) := by
  refine CT.of (own := "Ballothall$Counting") (by decide +kernel) (Nat.le_of_ble_eq_true rfl) rfl (fun p e s m below meth c A ls hx hb hml hr hts hown hlocks hin hA hG hZ hP hD hS hl => ?_)
  have hl : lv_has ls 3 [(0, .ref (ad 179)), (1, .ref (ad p1)), (2, .int (oI x2))] := hl
  have key : ∀ (H : Heap) (locs : List Loc) (args : Array Value), (∀ w ∈ WG, w.before args s = true) → va_P z.1 classes (wv z ad E M) H → va_S A s.heap H locs → W p l e (rmK 0 20 0 0) s m args below meth c H locs 0 0 (MQ below (QK z A (fun _ => none) (fun _ => (wv z ad E N))) args s 0 0 A) (F0 m 0 ls []) := by
    intro H locs args hts hP hS
    unfold f_Co_elect at h
    obtain ⟨h_p1, h⟩ := ck_e h
    refine lv_aload_n hx hb d_5_13_0 rfl (lv_at hl 0 rfl) ?_
    refine lv_dup hx hb d_5_13_1 rfl ?_
    refine m_gi (C := "Ballothall$Counting") (T := TX3) (N := 15) (ci := 3) (k := 3) hx hb hts iX3 hown hG hP (yi_179 hL) (yt_179 hL) rfl (by decide) w_306 (fun _ h9 => h9) rfl rfl d_5_13_2 ?_
    refine lv_iconst (v := oI 1) hx hb d_5_13_5 (by decide +kernel) ?_
    refine lv_iload_n hx hb d_5_13_6 rfl (lv_at hl 2 rfl) ?_
    obtain ⟨ok100, h⟩ := ck_e h
    refine lv_ishl hx hb d_5_13_7 ?_
    refine nrm (oI_one_shl ok100) ?_
    refine lv_iconst (v := oI (-1)) hx hb d_5_13_8 (by decide +kernel) ?_
    refine lv_ixor hx hb d_5_13_9 ?_
    refine nrm (oI_not _) ?_
    obtain ⟨ok101, h⟩ := ck_e h
    obtain ⟨ok102, h⟩ := ck_e h
    refine lv_iand hx hb d_5_13_10 ?_
    refine nrm (oI_dif ok101.1 ok101.2 ok102.1 ok102.2) ?_
    refine m_pi (C := "Ballothall$Counting") (T := TX3) (N := 15) (ci := 3) (k := 3) (ty := .int) hx hb hts iX3 hown hG hP hD hS (yi_179 hL) (yt_179 hL) rfl (by decide) w_306 (fun _ h9 => h9) rfl rfl tyX3_ok nmX3 rfl (by decide +kernel) rfl rfl d_5_13_11 (fun H locs hP hD hS => ?_)
    have hP : va_P z.1 classes (wv z ad E (u2 M 179 3 (dfI (M 179 3) (2 ^ x2.toNat)))) H := hP
    have hD : va_D A (wv z ad E (u2 M 179 3 (dfI (M 179 3) (2 ^ x2.toNat)))) := hD
    refine lv_aload_n hx hb d_5_13_14 rfl (lv_at hl 1 rfl) ?_
    refine m_giN (C := "Ballothall$Count") (T := TX2) (N := 10) (ci := 2) (k := 4) hx hb hts iX2 hown hG hP (isCt_i h_p1) (isCt_T h_p1) rfl (by decide) n_1086 rfl (fun _ h9 => h9) rfl rfl d_5_13_15 ?_
    refine lv_iconst (v := oI 3) hx hb d_5_13_18 (by decide +kernel) ?_
    obtain ⟨ok103, h⟩ := ck_e h
    refine lv_icmp_ge (tgt := 42) hx hb d_5_13_19 (by decide) (fun c9 => ?_) (fun c9 => ?_)
    · have h := ite_t ((oI_le (a := (3 : Int)) (b := ((u2 M 179 3 (dfI (M 179 3) (2 ^ x2.toNat))) p1 4)) (by decide) ok103).mp c9) h
      obtain rfl := in1 h
      exact W.vret hx hb hr (fun t ht hW => qkA hP hD hS (fun k => k) rfl rfl ht) hS.2.2 d_5_13_42
    · have h := ite_f (fun q => c9 ((oI_le (a := (3 : Int)) (b := ((u2 M 179 3 (dfI (M 179 3) (2 ^ x2.toNat))) p1 4)) (by decide) ok103).mpr q)) h
      refine lv_aload_n hx hb d_5_13_22 rfl (lv_at hl 1 rfl) ?_
      refine m_grN (j := (p1 + 2)) (C := "Ballothall$Count") (T := TX2) (N := 10) (ci := 2) (k := 7) hx hb hts iX2 hown hG hP (isCt_i h_p1) (isCt_T h_p1) rfl (by decide) n_1094 rfl (fun _ h9 => h9) rfl rfl (isCt_r7 h_p1) d_5_13_23 ?_
      refine lv_aload_n hx hb d_5_13_26 rfl (lv_at hl 1 rfl) ?_
      refine m_giN (C := "Ballothall$Count") (T := TX2) (N := 10) (ci := 2) (k := 4) hx hb hts iX2 hown hG hP (isCt_i h_p1) (isCt_T h_p1) rfl (by decide) n_1086 rfl (fun _ h9 => h9) rfl rfl d_5_13_27 ?_
      refine lv_iload_n hx hb d_5_13_30 rfl (lv_at hl 2 rfl) ?_
      obtain ⟨ok104, h⟩ := ck_e h
      refine m_is hx hb hG hP hD hS (isCt_i2 h_p1) (isCt_t2 h_p1) ok104 d_5_13_31 (fun H locs hP hD hS => ?_)
      have hP : va_P z.1 classes (wv z ad E (u2 (u2 M 179 3 (dfI (M 179 3) (2 ^ x2.toNat))) (p1 + 2) ((u2 M 179 3 (dfI (M 179 3) (2 ^ x2.toNat))) p1 4).toNat x2)) H := hP
      have hD : va_D A (wv z ad E (u2 (u2 M 179 3 (dfI (M 179 3) (2 ^ x2.toNat))) (p1 + 2) ((u2 M 179 3 (dfI (M 179 3) (2 ^ x2.toNat))) p1 4).toNat x2)) := hD
      obtain ⟨M105, e105, h⟩ := nb_e h
      rw [← e105] at hP hD
      refine lv_aload_n hx hb d_5_13_32 rfl (lv_at hl 1 rfl) ?_
      refine lv_dup hx hb d_5_13_33 rfl ?_
      refine m_giN (C := "Ballothall$Count") (T := TX2) (N := 10) (ci := 2) (k := 4) hx hb hts iX2 hown hG hP (isCt_i h_p1) (isCt_T h_p1) rfl (by decide) n_1086 rfl (fun _ h9 => h9) rfl rfl d_5_13_34 ?_
      refine lv_iconst (v := oI 1) hx hb d_5_13_37 (by decide +kernel) ?_
      refine lv_iadd hx hb d_5_13_38 ?_
      refine nrm (oI_add _ _) ?_
      refine m_piN (C := "Ballothall$Count") (T := TX2) (N := 10) (ci := 2) (k := 4) (ty := .int) hx hb hts iX2 hown hG hP hD hS (isCt_i h_p1) (isCt_T h_p1) rfl (by decide) n_1086 rfl (fun _ h9 => h9) rfl rfl tyX2_ok nmX2 rfl (by decide +kernel) rfl rfl d_5_13_39 (fun H locs hP hD hS => ?_)
      have hP : va_P z.1 classes (wv z ad E (u2 M105 p1 4 ((M105 p1 4) + 1))) H := hP
      have hD : va_D A (wv z ad E (u2 M105 p1 4 ((M105 p1 4) + 1))) := hD
      obtain rfl := in1 h
      exact W.vret hx hb hr (fun t ht hW => qkA hP hD hS (fun k => k) rfl rfl ht) hS.2.2 d_5_13_42
  exact key _ _ _ hts hP hS
set_option maxRecDepth 100000 in
set_option maxHeartbeats 4000000 in
theorem s_Na_copyFrom (l : Launch) (z : Zz) (ad : Nat → Nat) (E : Ev) (M : Mm) (p0 : Nat) (p1 : Nat) (N : Mm) (hL : Lay E) (h : f_Na_copyFrom E M p0 p1 = some N) : CT l z ⟨"Ballothall$Natural", "copyFrom", "(LBallothall$Natural;)V"⟩ prog_10_method_3_code 2 none [.ref (ad p0), .ref (ad p1)] (wv z ad E M) 1 60 0 0 (fun _ => none) (fun _ => (wv z ad E N)) := by
  refine CT.of (own := "Ballothall$Natural") (by decide +kernel) (Nat.le_of_ble_eq_true rfl) rfl (fun p e s m below meth c A ls hx hb hml hr hts hown hlocks hin hA hG hZ hP hD hS hl => ?_)
  have hl : lv_has ls 2 [(0, .ref (ad p0)), (1, .ref (ad p1))] := hl
  have key : ∀ (H : Heap) (locs : List Loc) (args : Array Value), (∀ w ∈ WG, w.before args s = true) → va_P z.1 classes (wv z ad E M) H → va_S A s.heap H locs → W p l e (rmK 1 60 0 0) s m args below meth c H locs 0 0 (MQ below (QK z A (fun _ => none) (fun _ => (wv z ad E N))) args s 0 0 A) (F0 m 0 ls []) := by
    intro H locs args hts hP hS
    unfold f_Na_copyFrom at h
    obtain ⟨h_p0, h⟩ := ck_e h
    obtain ⟨h_p1, h⟩ := ck_e h
    refine lv_aload_n hx hb d_10_3_0 rfl (lv_at hl 1 rfl) ?_
    refine m_gr (j := (p1 + 1)) (C := "Ballothall$Natural") (T := TX8) (N := 2) (ci := 8) (k := 0) hx hb hts iX8 hown hG hP (isNa_i h_p1) (isNa_T h_p1) rfl (by decide) w_294 (fun _ h9 => h9) rfl rfl (isNa_r0 h_p1) d_10_3_1 ?_
    refine lv_iconst (v := oI 0) hx hb d_10_3_4 (by decide +kernel) ?_
    refine lv_aload_n hx hb d_10_3_5 rfl (lv_at hl 0 rfl) ?_
    refine m_gr (j := (p0 + 1)) (C := "Ballothall$Natural") (T := TX8) (N := 2) (ci := 8) (k := 0) hx hb hts iX8 hown hG hP (isNa_i h_p0) (isNa_T h_p0) rfl (by decide) w_294 (fun _ h9 => h9) rfl rfl (isNa_r0 h_p0) d_10_3_6 ?_
    refine lv_iconst (v := oI 0) hx hb d_10_3_9 (by decide +kernel) ?_
    refine lv_aload_n hx hb d_10_3_10 rfl (lv_at hl 1 rfl) ?_
    refine m_gi (C := "Ballothall$Natural") (T := TX8) (N := 2) (ci := 8) (k := 1) hx hb hts iX8 hown hG hP (isNa_i h_p1) (isNa_T h_p1) rfl (by decide) w_295 (fun _ h9 => h9) rfl rfl d_10_3_11 ?_
    obtain ⟨ok100, h⟩ := ck_e h
    refine m_cpy hx hb (by rw [hml]; exact hl.1.symm) hown (hts _ w_619) (hts _ w_621) (hts _ w_620) (hts _ w_24) hG hP hD hS (isNa_i1 h_p1) (isNa_t1 h_p1) (isNa_i1 h_p0) (isNa_t1 h_p0) ok100 (Nat.le_of_ble_eq_true rfl) (Nat.le_of_ble_eq_true rfl) d_10_3_14 (fun H locs hP hD hS => ?_)
    have hP : va_P z.1 classes (wv z ad E (uA M (p0 + 1) (va_cpy (M (p1 + 1)) (M (p0 + 1)) 0 0 (M p1 1).toNat))) H := hP
    have hD : va_D A (wv z ad E (uA M (p0 + 1) (va_cpy (M (p1 + 1)) (M (p0 + 1)) 0 0 (M p1 1).toNat))) := hD
    refine lv_aload_n hx hb d_10_3_17 rfl (lv_at hl 0 rfl) ?_
    refine lv_aload_n hx hb d_10_3_18 rfl (lv_at hl 1 rfl) ?_
    refine m_gi (C := "Ballothall$Natural") (T := TX8) (N := 2) (ci := 8) (k := 1) hx hb hts iX8 hown hG hP (isNa_i h_p1) (isNa_T h_p1) rfl (by decide) w_295 (fun _ h9 => h9) rfl rfl d_10_3_19 ?_
    refine m_pi (C := "Ballothall$Natural") (T := TX8) (N := 2) (ci := 8) (k := 1) (ty := .int) hx hb hts iX8 hown hG hP hD hS (isNa_i h_p0) (isNa_T h_p0) rfl (by decide) w_295 (fun _ h9 => h9) rfl rfl tyX8_ok nmX8 rfl (by decide +kernel) rfl rfl d_10_3_22 (fun H locs hP hD hS => ?_)
    have hP : va_P z.1 classes (wv z ad E (u2 (uA M (p0 + 1) (va_cpy (M (p1 + 1)) (M (p0 + 1)) 0 0 (M p1 1).toNat)) p0 1 ((uA M (p0 + 1) (va_cpy (M (p1 + 1)) (M (p0 + 1)) 0 0 (M p1 1).toNat)) p1 1))) H := hP
    have hD : va_D A (wv z ad E (u2 (uA M (p0 + 1) (va_cpy (M (p1 + 1)) (M (p0 + 1)) 0 0 (M p1 1).toNat)) p0 1 ((uA M (p0 + 1) (va_cpy (M (p1 + 1)) (M (p0 + 1)) 0 0 (M p1 1).toNat)) p1 1))) := hD
    obtain ⟨M101, e101, h⟩ := nb_e h
    rw [← e101] at hP hD
    obtain rfl := in1 h
    exact W.vret hx hb hr (fun t ht hW => qkA hP hD hS (fun k => k) rfl rfl ht) hS.2.2 d_10_3_25
  exact key _ _ _ hts hP hS
set_option maxRecDepth 100000 in
set_option maxHeartbeats 4000000 in
theorem b_Na_multiplySmall_17b (l : Launch) (z : Zz) (ad : Nat → Nat) (E : Ev) (M : Mm) (q0 : Nat) (x1 : Int) (x2 : Int) (x3 : Int) (x5 : Int) (t : Nat) (w3 : Int) (w5 : Int) (N : Mm) {Q : State → Prop} {p : Program} {e : Env} {s : State} {m : MethodId} {below : List Frame} {meth : Method} {c : Code} {A : Nat → Prop} {args : Array Value} (hx : p.tables.exec = Jvm.exec) (hb : c.code = prog_10_method_12_code) (hml : c.maxLocals = 6) (hts : ∀ w ∈ WG, w.before args s = true) (hown : s.vm.findClass "Ballothall$Natural" = some m.cls) (hlocks : meth.locks = false) (hA : ∀ q, s.heap.size ≤ q → A q) (hG : KG z s) (hZ : FZ z A s) (hL : Lay E) (h : Na_multiplySmall_17b E M q0 x1 x2 x3 x5 = some (t, w3, w5, N)) (k0 : t = 0 → ∀ (H : Heap) (locs : List Loc) (ls : Array Slot), va_P z.1 classes (wv z ad E N) H → va_D A (wv z ad E N) → va_S A s.heap H locs → lv_has ls 6 [(0, .ref (ad q0)), (1, .int (oI x1)), (2, .int (oI x2)), (3, .long (oJ w3)), (5, .int (oI w5))] → W p l e (rmK 2 61 0 0) s m args below meth c H locs 0 0 Q (F0 m 17 ls [])) (k1 : t = 1 → ∀ (H : Heap) (locs : List Loc) (ls : Array Slot), va_P z.1 classes (wv z ad E N) H → va_D A (wv z ad E N) → va_S A s.heap H locs → lv_has ls 6 [(0, .ref (ad q0)), (2, .int (oI x2))] → W p l e (rmK 2 61 0 0) s m args below meth c H locs 0 0 Q (F0 m 60 ls [])) : ∀ (H : Heap) (locs : List Loc) (ls : Array Slot), va_P z.1 classes (wv z ad E M) H → va_D A (wv z ad E M) → va_S A s.heap H locs → lv_has ls 6 [(0, .ref (ad q0)), (1, .int (oI x1)), (2, .int (oI x2)), (3, .long (oJ x3)), (5, .int (oI x5))] → W p l e (rmK 2 61 0 0) s m args below meth c H locs 0 0 Q (F0 m 17 ls []) := by
  intro H locs ls hP hD hS hl
  unfold Na_multiplySmall_17b at h
  obtain ⟨h_q0, h⟩ := ck_e h
  refine lv_iload hx hb d_10_12_17 (lv_at hl 4 rfl) ?_
  refine lv_iload_n hx hb d_10_12_19 rfl (lv_at hl 2 rfl) ?_
  obtain ⟨ok101, h⟩ := ck_e h
  obtain ⟨ok102, h⟩ := ck_e h
  refine lv_icmp_ge (tgt := 60) hx hb d_10_12_20 (by decide) (fun c9 => ?_) (fun c9 => ?_)
  · have h := ite_t ((oI_le (a := x2) (b := x5) ok102 ok101).mp c9) h
    obtain ⟨rfl, rfl, rfl, rfl⟩ := in4 h
    exact k1 rfl H locs ls hP hD hS (lv_sub hl [0, 2] rfl)
  · have h := ite_f (fun q => c9 ((oI_le (a := x2) (b := x5) ok102 ok101).mpr q)) h
    refine lv_lload_n hx hb d_10_12_23 rfl (lv_at hl 3 rfl) ?_
    refine lv_aload_n hx hb d_10_12_24 rfl (lv_at hl 0 rfl) ?_
    refine lv_iload hx hb d_10_12_25 (lv_at hl 4 rfl) ?_
    obtain ⟨r103, g103, h⟩ := bd_e h
    refine kV (As := [.int (oI x5)]) (rest := [.long (oJ x3)]) (s_Na_limbAt l z ad E M q0 x5 r103 hL g103) hx hb hml hown hts w_637 w_634 w_636 w_s_21c489 w_9 md_149093 ⟨Nat.le_of_ble_eq_true rfl, Nat.le_of_ble_eq_true rfl⟩ hG hZ hP hD hS hA q0 (wv_o (ci := 8) (isNa_i h_q0) (isNa_T h_q0)) rfl rfl rfl hl.1 rfl (Nat.le_of_ble_eq_true rfl) d_10_12_27 ⟨Nat.le_of_ble_eq_true rfl, Nat.le_of_ble_eq_true rfl⟩ (fun _ H locs hP hD hS => ?_)
    have hP : va_P z.1 classes (wv z ad E M) H := hP
    have hD : va_D A (wv z ad E M) := hD
    refine W.eq (g2 := F0 m 30 ls [.int (oI r103), .long (oJ x3)]) rfl ?_
    obtain ⟨ok104, h⟩ := ck_e h
    refine lv_i2l (v := oJ r103) hx hb d_10_12_30 (oI_l ok104) ?_
    refine lv_iload_n hx hb d_10_12_31 rfl (lv_at hl 1 rfl) ?_
    obtain ⟨ok105, h⟩ := ck_e h
    refine lv_i2l (v := oJ x1) hx hb d_10_12_32 (oI_l ok105) ?_
    refine lv_lmul hx hb d_10_12_33 ?_
    refine nrmL (oJ_mul _ _) ?_
    refine lv_ladd hx hb d_10_12_34 ?_
    refine nrmL (oJ_add _ _) ?_
    refine lv_lstore_n (lv' := [(3, .long (oJ (x3 + (r103 * x1)))), (0, .ref (ad q0)), (1, .int (oI x1)), (2, .int (oI x2)), (5, .int (oI x5))]) hx hb d_10_12_35 rfl hl (by decide) rfl (fun ls hl => ?_)
    refine lv_aload_n hx hb d_10_12_36 rfl (lv_at hl 1 rfl) ?_
    refine m_gr (j := (q0 + 1)) (C := "Ballothall$Natural") (T := TX8) (N := 2) (ci := 8) (k := 0) hx hb hts iX8 hown hG hP (isNa_i h_q0) (isNa_T h_q0) rfl (by decide) w_294 (fun _ h9 => h9) rfl rfl (isNa_r0 h_q0) d_10_12_37 ?_
    refine lv_iload hx hb d_10_12_40 (lv_at hl 4 rfl) ?_
    refine lv_lload_n hx hb d_10_12_42 rfl (lv_at hl 0 rfl) ?_
    refine lv_ldc2 hx hb hown (hts _ w_605) d_10_12_43 ?_
    refine nrmL (x1 := oJ 1073741823) (by decide +kernel) ?_
    refine lv_land hx hb d_10_12_46 ?_
    refine nrmL (oJ_m30 _) ?_
    refine lv_l2i (v := oI ((x3 + (r103 * x1)) % 1073741824)) hx hb d_10_12_47 (oJ_i _) ?_
    obtain ⟨v106, e106, h⟩ := nb_e h
    refine nrm (congrArg oI e106.symm) ?_
    obtain ⟨ok107, h⟩ := ck_e h
    refine m_is hx hb hG hP hD hS (isNa_i1 h_q0) (isNa_t1 h_q0) ok107 d_10_12_48 (fun H locs hP hD hS => ?_)
    have hP : va_P z.1 classes (wv z ad E (u2 M (q0 + 1) x5.toNat v106)) H := hP
    have hD : va_D A (wv z ad E (u2 M (q0 + 1) x5.toNat v106)) := hD
    refine lv_lload_n hx hb d_10_12_49 rfl (lv_at hl 0 rfl) ?_
    refine lv_bipush (v := oI 30) hx hb d_10_12_50 (by decide +kernel) ?_
    obtain ⟨ok108, h⟩ := ck_e h
    refine lv_lshr (v := oJ ((x3 + (r103 * x1)) / 1073741824)) hx hb d_10_12_52 (oJ_shr (b := (30 : Int)) ok108 (by decide) (by decide)) ?_
    obtain ⟨v109, e109, h⟩ := nb_e h
    refine nrmL (congrArg oJ e109.symm) ?_
    refine lv_lstore_n (lv' := [(3, .long (oJ v109)), (0, .ref (ad q0)), (1, .int (oI x1)), (2, .int (oI x2)), (5, .int (oI x5))]) hx hb d_10_12_53 rfl hl (by decide) rfl (fun ls hl => ?_)
    refine lv_iinc (v := oI (x5 + 1)) (lv' := [(5, .int (oI (x5 + 1))), (3, .long (oJ v109)), (0, .ref (ad q0)), (1, .int (oI x1)), (2, .int (oI x2))]) hx hb d_10_12_54 hl (k := 4) rfl (oI_add x5 1) (by decide) rfl (fun ls hl => ?_)
    refine lv_goto (tgt := 17) hx hb d_10_12_57 (by decide) ?_
    obtain ⟨rfl, rfl, rfl, rfl⟩ := in4 h
    exact k0 rfl H locs ls hP hD hS (lv_sub hl [2, 3, 4, 1, 0] rfl)
set_option maxRecDepth 100000 in
set_option maxHeartbeats 4000000 in
theorem s_Na_multiplySmall_17 (l : Launch) (z : Zz) (ad : Nat → Nat) (E : Ev) (q0 : Nat) (x1 : Int) (x2 : Int) {Q : State → Prop} {p : Program} {e : Env} {s : State} {m : MethodId} {below : List Frame} {meth : Method} {c : Code} {A : Nat → Prop} {args : Array Value} (hx : p.tables.exec = Jvm.exec) (hb : c.code = prog_10_method_12_code) (hml : c.maxLocals = 6) (hts : ∀ w ∈ WG, w.before args s = true) (hown : s.vm.findClass "Ballothall$Natural" = some m.cls) (hlocks : meth.locks = false) (hA : ∀ q, s.heap.size ≤ q → A q) (hG : KG z s) (hZ : FZ z A s) (hL : Lay E) : ∀ (fu : Nat) (M : Mm) (x3 : Int) (x5 : Int) (t : Nat) (w3 : Int) (w5 : Int) (N : Mm), l_Na_multiplySmall_17 E q0 x1 x2 fu M x3 x5 = some (t, w3, w5, N) → (t = 1 → ∀ (H : Heap) (locs : List Loc) (ls : Array Slot), va_P z.1 classes (wv z ad E N) H → va_D A (wv z ad E N) → va_S A s.heap H locs → lv_has ls 6 [(0, .ref (ad q0)), (2, .int (oI x2))] → W p l e (rmK 2 61 0 0) s m args below meth c H locs 0 0 Q (F0 m 60 ls [])) → ∀ (H : Heap) (locs : List Loc) (ls : Array Slot), va_P z.1 classes (wv z ad E M) H → va_D A (wv z ad E M) → va_S A s.heap H locs → lv_has ls 6 [(0, .ref (ad q0)), (1, .int (oI x1)), (2, .int (oI x2)), (3, .long (oJ x3)), (5, .int (oI x5))] → W p l e (rmK 2 61 0 0) s m args below meth c H locs 0 0 Q (F0 m 17 ls []) := by
  intro fu
  induction fu with
  | zero =>
    intro M x3 x5 t w3 w5 N h
    have h : (none : Option (Nat × Int × Int × Mm)) = some _ := h
    cases h
  | succ fu ih =>
    intro M x3 x5 t w3 w5 N h k1 H locs ls hP hD hS hl
    obtain ⟨⟨t0, w30, w50, N9⟩, g0, h⟩ := bd_e h
    refine b_Na_multiplySmall_17b l z ad E M q0 x1 x2 x3 x5 t0 w30 w50 N9 hx hb hml hts hown hlocks hA hG hZ hL g0 (fun e0 => ?_) (fun e0 => ?_) H locs ls hP hD hS hl
    · subst e0
      have h := ite_t rfl h
      exact ih N9 w30 w50 t w3 w5 N h k1
    · subst e0
      have h := ite_f (by decide) h
      obtain ⟨rfl, rfl, rfl, rfl⟩ := in4 h
      exact k1 rfl
set_option maxRecDepth 100000 in
set_option maxHeartbeats 4000000 in
theorem s_Na_multiplySmall (l : Launch) (z : Zz) (ad : Nat → Nat) (E : Ev) (M : Mm) (p0 : Nat) (x1 : Int) (N : Mm) (hL : Lay E) (h : f_Na_multiplySmall E M p0 x1 = some N) : CT l z ⟨"Ballothall$Natural", "multiplySmall", "(I)V"⟩ prog_10_method_12_code 6 none [.ref (ad p0), .int (oI x1)] (wv z ad E M) 2 61 0 0 (fun _ => none) (fun _ => (wv z ad E N)) := by
  refine CT.of (own := "Ballothall$Natural") (by decide +kernel) (Nat.le_of_ble_eq_true rfl) rfl (fun p e s m below meth c A ls hx hb hml hr hts hown hlocks hin hA hG hZ hP hD hS hl => ?_)
  have hl : lv_has ls 6 [(0, .ref (ad p0)), (1, .int (oI x1))] := hl
  have key : ∀ (H : Heap) (locs : List Loc) (args : Array Value), (∀ w ∈ WG, w.before args s = true) → va_P z.1 classes (wv z ad E M) H → va_S A s.heap H locs → W p l e (rmK 2 61 0 0) s m args below meth c H locs 0 0 (MQ below (QK z A (fun _ => none) (fun _ => (wv z ad E N))) args s 0 0 A) (F0 m 0 ls []) := by
    intro H locs args hts hP hS
    unfold f_Na_multiplySmall at h
    obtain ⟨h_p0, h⟩ := ck_e h
    refine lv_aload_n hx hb d_10_12_0 rfl (lv_at hl 0 rfl) ?_
    refine m_gi (C := "Ballothall$Natural") (T := TX8) (N := 2) (ci := 8) (k := 1) hx hb hts iX8 hown hG hP (isNa_i h_p0) (isNa_T h_p0) rfl (by decide) w_295 (fun _ h9 => h9) rfl rfl d_10_12_1 ?_
    refine lv_iconst (v := oI 2) hx hb d_10_12_4 (by decide +kernel) ?_
    refine lv_iadd hx hb d_10_12_5 ?_
    refine nrm (oI_add _ _) ?_
    refine lv_bipush (v := oI 13) hx hb d_10_12_6 (by decide +kernel) ?_
    obtain ⟨ok100, h⟩ := ck_e h
    refine va_mmin hx hb (by rw [hml]; exact hl.1.symm) hown (hts _ w_626) (hts _ w_521) (hts _ w_17) (hts _ w_min) (Nat.le_of_ble_eq_true rfl) (Nat.le_of_ble_eq_true rfl) (Nat.le_of_ble_eq_true rfl) (Nat.le_of_ble_eq_true rfl) d_10_12_8 ?_
    refine nrm (mn_oI (a := ((M p0 1) + 2)) (b := (13 : Int)) ok100 (by decide)) ?_
    refine lv_istore_n (lv' := [(2, .int (oI (min ((M p0 1) + 2) 13))), (0, .ref (ad p0)), (1, .int (oI x1))]) hx hb d_10_12_11 rfl hl (by decide) rfl (fun ls hl => ?_)
    refine lv_lconst (v := oJ 0) hx hb d_10_12_12 (by decide +kernel) ?_
    refine lv_lstore_n (lv' := [(3, .long (oJ 0)), (2, .int (oI (min ((M p0 1) + 2) 13))), (0, .ref (ad p0)), (1, .int (oI x1))]) hx hb d_10_12_13 rfl hl (by decide) rfl (fun ls hl => ?_)
    refine lv_iconst (v := oI 0) hx hb d_10_12_14 (by decide +kernel) ?_
    refine lv_istore (lv' := [(5, .int (oI 0)), (3, .long (oJ 0)), (2, .int (oI (min ((M p0 1) + 2) 13))), (0, .ref (ad p0)), (1, .int (oI x1))]) hx hb d_10_12_15 hl (by decide) rfl (fun ls hl => ?_)
    obtain ⟨⟨t110, v110_3, v110_5, M110⟩, g110, h⟩ := bd_e h
    obtain ⟨ok110, h⟩ := ck_e h
    refine s_Na_multiplySmall_17 l z ad E p0 x1 (min ((M p0 1) + 2) 13) hx hb hml hts hown hlocks hA hG hZ hL FU M 0 0 t110 v110_3 v110_5 M110 g110 (fun e110 H locs ls hP hD hS hl => ?_) H locs ls hP hD hS (lv_sub hl [3, 4, 2, 1, 0] rfl)
    refine lv_aload_n hx hb d_10_12_60 rfl (lv_at hl 0 rfl) ?_
    refine lv_iload_n hx hb d_10_12_61 rfl (lv_at hl 1 rfl) ?_
    obtain ⟨M111, g111, h⟩ := bd_e h
    refine kV (As := [.int (oI (min ((M p0 1) + 2) 13))]) (rest := []) (s_Na_trimTo l z ad E M110 p0 (min ((M p0 1) + 2) 13) M111 hL g111) hx hb hml hown hts w_625 w_622 w_624 w_s_8e7085 w_9 md_0a866a ⟨Nat.le_of_ble_eq_true rfl, Nat.le_of_ble_eq_true rfl⟩ hG hZ hP hD hS hA p0 (wv_o (ci := 8) (isNa_i h_p0) (isNa_T h_p0)) rfl rfl rfl hl.1 rfl (Nat.le_of_ble_eq_true rfl) d_10_12_62 ⟨Nat.le_of_ble_eq_true rfl, Nat.le_of_ble_eq_true rfl⟩ (fun _ H locs hP hD hS => ?_)
    have hP : va_P z.1 classes (wv z ad E M111) H := hP
    have hD : va_D A (wv z ad E M111) := hD
    refine W.eq (g2 := F0 m 65 ls []) rfl ?_
    obtain rfl := in1 h
    exact W.vret hx hb hr (fun t ht hW => qkA hP hD hS (fun k => k) rfl rfl ht) hS.2.2 d_10_12_65
  exact key _ _ _ hts hP hS
set_option maxRecDepth 100000 in
set_option maxHeartbeats 4000000 in
theorem b_Co_smallestPile_4b (l : Launch) (z : Zz) (ad : Nat → Nat) (E : Ev) (M : Mm) (x1 : Int) (x2 : Int) (t : Nat) (w1 : Int) (w2 : Int)  {Q : State → Prop} {p : Program} {e : Env} {s : State} {m : MethodId} {below : List Frame} {meth : Method} {c : Code} {A : Nat → Prop} {args : Array Value} (hx : p.tables.exec = Jvm.exec) (hb : c.code = prog_5_method_11_code) (hml : c.maxLocals = 3) (hts : ∀ w ∈ WG, w.before args s = true) (hown : s.vm.findClass "Ballothall$Counting" = some m.cls) (hlocks : meth.locks = false) (hA : ∀ q, s.heap.size ≤ q → A q) (hG : KG z s) (hZ : FZ z A s) (hL : Lay E) (h : Co_smallestPile_4b E M x1 x2 = some (t, w1, w2)) (k0 : t = 0 → ∀ (H : Heap) (locs : List Loc) (ls : Array Slot), va_P z.1 classes (wv z ad E M) H → va_D A (wv z ad E M) → va_S A s.heap H locs → lv_has ls 3 [(0, .ref (ad 179)), (1, .int (oI w1)), (2, .int (oI w2))] → W p l e (rmK 3 86 0 0) s m args below meth c H locs 0 0 Q (F0 m 4 ls [])) (k1 : t = 1 → ∀ (H : Heap) (locs : List Loc) (ls : Array Slot), va_P z.1 classes (wv z ad E M) H → va_D A (wv z ad E M) → va_S A s.heap H locs → lv_has ls 3 [(1, .int (oI w1))] → W p l e (rmK 3 86 0 0) s m args below meth c H locs 0 0 Q (F0 m 48 ls [])) : ∀ (H : Heap) (locs : List Loc) (ls : Array Slot), va_P z.1 classes (wv z ad E M) H → va_D A (wv z ad E M) → va_S A s.heap H locs → lv_has ls 3 [(0, .ref (ad 179)), (1, .int (oI x1)), (2, .int (oI x2))] → W p l e (rmK 3 86 0 0) s m args below meth c H locs 0 0 Q (F0 m 4 ls []) := by
  intro H locs ls hP hD hS hl
  unfold Co_smallestPile_4b at h
  refine lv_iload_n hx hb d_5_11_4 rfl (lv_at hl 2 rfl) ?_
  refine lv_aload_n hx hb d_5_11_5 rfl (lv_at hl 0 rfl) ?_
  refine m_gr (j := 2) (C := "Ballothall$Counting") (T := TX3) (N := 15) (ci := 3) (k := 0) hx hb hts iX3 hown hG hP (yi_179 hL) (yt_179 hL) rfl (by decide) w_303 (fun _ h9 => h9) rfl rfl (yr_179_0 hL) d_5_11_6 ?_
  refine m_giN (C := "Ballothall$BallotBox") (T := TX0) (N := 10) (ci := 0) (k := 2) hx hb hts iX0 hown hG hP (yi_2 hL) (yt_2 hL) rfl (by decide) n_55 rfl (fun _ h9 => h9) rfl rfl d_5_11_9 ?_
  obtain ⟨ok100, h⟩ := ck_e h
  obtain ⟨ok101, h⟩ := ck_e h
  refine lv_icmp_ge (tgt := 48) hx hb d_5_11_12 (by decide) (fun c9 => ?_) (fun c9 => ?_)
  · have h := ite_t ((oI_le (a := (M 2 2)) (b := x2) ok101 ok100).mp c9) h
    obtain ⟨rfl, rfl, rfl⟩ := in3 h
    exact k1 rfl H locs ls hP hD hS (lv_sub hl [1] rfl)
  · have h := ite_f (fun q => c9 ((oI_le (a := (M 2 2)) (b := x2) ok101 ok100).mpr q)) h
    refine lv_aload_n hx hb d_5_11_15 rfl (lv_at hl 0 rfl) ?_
    refine m_gi (C := "Ballothall$Counting") (T := TX3) (N := 15) (ci := 3) (k := 3) hx hb hts iX3 hown hG hP (yi_179 hL) (yt_179 hL) rfl (by decide) w_306 (fun _ h9 => h9) rfl rfl d_5_11_16 ?_
    refine lv_iload_n hx hb d_5_11_19 rfl (lv_at hl 2 rfl) ?_
    obtain ⟨r102, g102, h⟩ := bd_e h
    refine kSN (As := [.int (oI (M 179 3)), .int (oI x2)]) (rest := []) (s_B_has l z ad E M (M 179 3) x2 r102 hL g102) hx hb hml hown hts w_693 n_1143 w_692 w_1 md_26545c ⟨Nat.le_of_ble_eq_true rfl, Nat.le_of_ble_eq_true rfl⟩ hG hZ hP hD hS hA rfl hl.1 rfl (Nat.le_of_ble_eq_true rfl) d_5_11_20 ⟨Nat.le_of_ble_eq_true rfl, Nat.le_of_ble_eq_true rfl⟩ (fun _ H locs hP hD hS => ?_)
    have hP : va_P z.1 classes (wv z ad E M) H := hP
    have hD : va_D A (wv z ad E M) := hD
    refine W.eq (g2 := F0 m 23 ls [.int (oI r102)]) rfl ?_
    obtain ⟨ok103, h⟩ := ck_e h
    refine lv_if_eq (tgt := 42) hx hb d_5_11_23 (by decide) (fun c9 => ?_) (fun c9 => ?_)
    · have h := ite_t ((oI_eq0 ok103).mp c9) h
      refine lv_iinc (v := oI (x2 + 1)) (lv' := [(2, .int (oI (x2 + 1))), (0, .ref (ad 179)), (1, .int (oI x1))]) hx hb d_5_11_42 hl (k := 2) rfl (oI_add x2 1) (by decide) rfl (fun ls hl => ?_)
      refine lv_goto (tgt := 4) hx hb d_5_11_45 (by decide) ?_
      obtain ⟨rfl, rfl, rfl⟩ := in3 h
      exact k0 rfl H locs ls hP hD hS (lv_sub hl [1, 2, 0] rfl)
    · have h := ite_f (fun q => c9 ((oI_eq0 ok103).mpr q)) h
      refine lv_iload_n hx hb d_5_11_26 rfl (lv_at hl 1 rfl) ?_
      refine lv_iconst (v := oI (-1)) hx hb d_5_11_27 (by decide +kernel) ?_
      obtain ⟨ok104, h⟩ := ck_e h
      refine lv_icmp_eq (tgt := 40) hx hb d_5_11_28 (by decide) (fun c9 => ?_) (fun c9 => ?_)
      · have h := ite_t ((oI_eq (a := x1) (b := (-1 : Int)) ok104 (by decide)).mp c9) h
        refine lv_iload_n hx hb d_5_11_40 rfl (lv_at hl 2 rfl) ?_
        refine lv_istore_n (lv' := [(1, .int (oI x2)), (0, .ref (ad 179)), (2, .int (oI x2))]) hx hb d_5_11_41 rfl hl (by decide) rfl (fun ls hl => ?_)
        refine lv_iinc (v := oI (x2 + 1)) (lv' := [(2, .int (oI (x2 + 1))), (1, .int (oI x2)), (0, .ref (ad 179))]) hx hb d_5_11_42 hl (k := 2) rfl (oI_add x2 1) (by decide) rfl (fun ls hl => ?_)
        refine lv_goto (tgt := 4) hx hb d_5_11_45 (by decide) ?_
        obtain ⟨rfl, rfl, rfl⟩ := in3 h
        exact k0 rfl H locs ls hP hD hS (lv_sub hl [2, 1, 0] rfl)
      · have h := ite_f (fun q => c9 ((oI_eq (a := x1) (b := (-1 : Int)) ok104 (by decide)).mpr q)) h
        refine lv_aload_n hx hb d_5_11_31 rfl (lv_at hl 0 rfl) ?_
        refine lv_iload_n hx hb d_5_11_32 rfl (lv_at hl 1 rfl) ?_
        refine lv_iload_n hx hb d_5_11_33 rfl (lv_at hl 2 rfl) ?_
        obtain ⟨r105, g105, h⟩ := bd_e h
        refine kV (As := [.int (oI x1), .int (oI x2)]) (rest := []) (s_Co_isAhead l z ad E M x1 x2 r105 hL g105) hx hb hml hown hts w_1159 w_1156 w_1158 w_s_1c537b w_8 md_e91d6f ⟨Nat.le_of_ble_eq_true rfl, Nat.le_of_ble_eq_true rfl⟩ hG hZ hP hD hS hA 179 (wv_o (ci := 3) (yi_179 hL) (yt_179 hL)) rfl rfl rfl hl.1 rfl (Nat.le_of_ble_eq_true rfl) d_5_11_34 ⟨Nat.le_of_ble_eq_true rfl, Nat.le_of_ble_eq_true rfl⟩ (fun _ H locs hP hD hS => ?_)
        have hP : va_P z.1 classes (wv z ad E M) H := hP
        have hD : va_D A (wv z ad E M) := hD
        refine W.eq (g2 := F0 m 37 ls [.int (oI r105)]) rfl ?_
        obtain ⟨ok106, h⟩ := ck_e h
        refine lv_if_eq (tgt := 42) hx hb d_5_11_37 (by decide) (fun c9 => ?_) (fun c9 => ?_)
        · have h := ite_t ((oI_eq0 ok106).mp c9) h
          refine lv_iinc (v := oI (x2 + 1)) (lv' := [(2, .int (oI (x2 + 1))), (0, .ref (ad 179)), (1, .int (oI x1))]) hx hb d_5_11_42 hl (k := 2) rfl (oI_add x2 1) (by decide) rfl (fun ls hl => ?_)
          refine lv_goto (tgt := 4) hx hb d_5_11_45 (by decide) ?_
          obtain ⟨rfl, rfl, rfl⟩ := in3 h
          exact k0 rfl H locs ls hP hD hS (lv_sub hl [1, 2, 0] rfl)
        · have h := ite_f (fun q => c9 ((oI_eq0 ok106).mpr q)) h
          refine lv_iload_n hx hb d_5_11_40 rfl (lv_at hl 2 rfl) ?_
          refine lv_istore_n (lv' := [(1, .int (oI x2)), (0, .ref (ad 179)), (2, .int (oI x2))]) hx hb d_5_11_41 rfl hl (by decide) rfl (fun ls hl => ?_)
          refine lv_iinc (v := oI (x2 + 1)) (lv' := [(2, .int (oI (x2 + 1))), (1, .int (oI x2)), (0, .ref (ad 179))]) hx hb d_5_11_42 hl (k := 2) rfl (oI_add x2 1) (by decide) rfl (fun ls hl => ?_)
          refine lv_goto (tgt := 4) hx hb d_5_11_45 (by decide) ?_
          obtain ⟨rfl, rfl, rfl⟩ := in3 h
          exact k0 rfl H locs ls hP hD hS (lv_sub hl [2, 1, 0] rfl)
