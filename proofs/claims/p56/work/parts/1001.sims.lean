set_option maxRecDepth 100000 in
set_option maxHeartbeats 4000000 in
theorem b_Co_init_138b (l : Launch) (z : Zz) (E0 : Ev) (ad0 : Nat → Nat) (ad : Nat → Nat) (E : Ev) (M : Mm) (q0 : Nat) (x2 : Int) (t : Nat) (w2 : Int) (F : Ev) (N : Mm) {Q : State → Prop} {p : Program} {e : Env} {s : State} {m : MethodId} {below : List Frame} {meth : Method} {c : Code} {A : Nat → Prop} {args : Array Value} (hx : p.tables.exec = Jvm.exec) (hb : c.code = prog_5_method_1_code) (hml : c.maxLocals = 3) (hts : ∀ w ∈ WG, w.before args s = true) (hown : s.vm.findClass "Ballothall$Counting" = some m.cls) (hlocks : meth.locks = false) (hA : ∀ q, s.heap.size ≤ q → A q) (hG : KG z s) (hZ : FZ z A s) (mc ms c0 s0 c1 s1 : Nat) (hc : c0 + 2 ≤ c1) (hs : s0 + 15 ≤ s1) (hm : c1 ≤ mc) (hm2 : s1 ≤ ms) (hag0 : ∀ i, i < nE E0 → ad i = ad0 i) (hE0 : nE E0 ≤ nE E) (h : Co_init_138b E M q0 x2 = some (t, w2, F, N)) (k0 : ∀ (ad1 : Nat → Nat), (∀ i, i < nE E0 → ad1 i = ad0 i) → nE E0 ≤ nE F → t = 0 → ∀ (H : Heap) (locs : List Loc) (ls : Array Slot), va_P z.1 classes (wv z ad1 F N) H → va_D A (wv z ad1 F N) → va_S A s.heap H locs → lv_has ls 3 [(0, .ref (ad1 q0)), (2, .int (oI w2))] → W p l e (rmK 2 60 mc ms) s m args below meth c H locs c1 s1 Q (F0 m 138 ls [])) (k1 : ∀ (ad1 : Nat → Nat), (∀ i, i < nE E0 → ad1 i = ad0 i) → nE E0 ≤ nE F → t = 1 → ∀ (H : Heap) (locs : List Loc) (ls : Array Slot), va_P z.1 classes (wv z ad1 F N) H → va_D A (wv z ad1 F N) → va_S A s.heap H locs → lv_has ls 3 [] → W p l e (rmK 2 60 mc ms) s m args below meth c H locs c1 s1 Q (F0 m 163 ls [])) : ∀ (H : Heap) (locs : List Loc) (ls : Array Slot), va_P z.1 classes (wv z ad E M) H → va_D A (wv z ad E M) → va_S A s.heap H locs → lv_has ls 3 [(0, .ref (ad q0)), (2, .int (oI x2))] → W p l e (rmK 2 60 mc ms) s m args below meth c H locs c0 s0 Q (F0 m 138 ls []) := by
  intro H locs ls hP hD hS hl
  unfold Co_init_138b at h
  obtain ⟨h_q0, h⟩ := ck_e h
  refine lv_iload_n hx hb d_5_1_138 rfl (lv_at hl 1 rfl) ?_
  refine lv_bipush (v := oI 9) hx hb d_5_1_139 (by decide +kernel) ?_
  obtain ⟨ok134, h⟩ := ck_e h
  refine lv_icmp_ge (tgt := 163) hx hb d_5_1_141 (by decide) (fun c9 => ?_) (fun c9 => ?_)
  · have h := ite_t ((oI_le (a := (9 : Int)) (b := x2) (by decide) ok134).mp c9) h
    obtain ⟨rfl, rfl, rfl, rfl⟩ := in4 h
    exact W.wide (by omega) (by omega) (k1 ad hag0 hE0 rfl H locs ls hP hD hS (lv_sub hl [] rfl))
  · have h := ite_f (fun q => c9 ((oI_le (a := (9 : Int)) (b := x2) (by decide) ok134).mpr q)) h
    refine lv_aload_n hx hb d_5_1_144 rfl (lv_at hl 0 rfl) ?_
    obtain ⟨p135, g135, h⟩ := bd_e h
    obtain ⟨h_p135, h⟩ := ck_e h
    refine m_gr (j := p135) (C := "Ballothall$Counting") (T := TX3) (N := 15) (ci := 3) (k := 5) hx hb hts iX3 hown hG hP h_q0.1 h_q0.2 rfl (by decide) w_308 (fun _ h9 => h9) rfl rfl g135 d_5_1_145 ?_
    refine lv_iload_n hx hb d_5_1_148 rfl (lv_at hl 1 rfl) ?_
    obtain ⟨p136, ep136, h⟩ := nb_e h
    obtain ⟨E136, eE136, h⟩ := nb_e h
    obtain ⟨M136, eM136, h⟩ := nb_e h
    refine m_newO (ci := 8) (C := "Ballothall$Natural") (T := TX8) (n := 2) hx hb hts iX8 tyX8_ok hown w_287 w_289 w_9 rfl (fun _ => fsX8) hG hP hD hS hA (show _ ≤ mc by omega) (show _ ≤ ms by omega) d_5_1_149 (fun ad136 H hag136 hP hD hS => ?_)
    have hP : va_P z.1 classes (wv z ad136 E136 M136) H := by rw [eE136, eM136]; exact hP
    have hD : va_D A (wv z ad136 E136 M136) := by rw [eE136, eM136]; exact hD
    refine W.eq (g2 := F0 m 152 ls (.ref (ad136 p136) :: [.int (oI x2), .ref (ad136 p135)])) (by rw [ep136, hag136 p135 h_p135.1] <;> rfl) ?_
    have hl : lv_has ls 3 [(0, .ref (ad136 q0)), (2, .int (oI x2))] := by rw [hag136 q0 h_q0.1]; exact hl
    have hgw136 : Gw E E136 := by rw [eE136]; exact gw_new _ _
    have hag0 : ∀ i, i < nE E0 → ad136 i = ad0 i := fun i hi => (hag136 i (Nat.lt_of_lt_of_le hi hE0)).trans (hag0 i hi)
    have hE0 : nE E0 ≤ nE E136 := Nat.le_trans hE0 hgw136.1
    have h_q0 : isO 3 E136 q0 := isO_up hgw136 h_q0
    have h_p135 : isQ 5 E136 p135 := isA_up hgw136 h_p135
    have h_p136 : isO 8 E136 p136 := by rw [ep136, eE136]; exact ⟨new_i _ _, new_T _ _⟩
    refine lv_dup hx hb d_5_1_152 rfl ?_
    obtain ⟨⟨E137, M137⟩, g137, h⟩ := bd_e h
    obtain ⟨hgw137, h⟩ := ck_e h
    refine kIN (As := []) (rest := [.ref (ad136 p136), .int (oI x2), .ref (ad136 p135)]) (s_Na_init l z ad136 E136 M136 p136 E137 M137 g137) hx hb hml hown hts w_292 n_290 w_291 rfl w_9 md_72d9bf ⟨Nat.le_of_ble_eq_true rfl, Nat.le_of_ble_eq_true rfl⟩ hG hZ hP hD hS hA rfl hl.1 rfl (Nat.le_of_ble_eq_true rfl) d_5_1_153 ⟨(show _ ≤ mc by omega), (show _ ≤ ms by omega)⟩ (fun u137 H locs hP hD hS => ?_)
    obtain ⟨ad137, had137⟩ : ∃ q, q = adj E136 ad136 u137 := ⟨_, rfl⟩
    have hP : va_P z.1 classes (wv z ad137 E137 M137) H := by rw [had137]; exact hP
    have hD : va_D A (wv z ad137 E137 M137) := by rw [had137]; exact hD
    have hag137 : ∀ i, i < nE E136 → ad137 i = ad136 i := fun i hi => by rw [had137]; exact adj_lt hi
    have hl : lv_has ls 3 [(0, .ref (ad137 q0)), (2, .int (oI x2))] := by rw [hag137 q0 h_q0.1]; exact hl
    refine W.eq (g2 := F0 m 156 ls [.ref (ad137 p136), .int (oI x2), .ref (ad137 p135)]) (by rw [hag137 p136 h_p136.1, hag137 p135 h_p135.1] <;> rfl) ?_
    have hag0 : ∀ i, i < nE E0 → ad137 i = ad0 i := fun i hi => (hag137 i (Nat.lt_of_lt_of_le hi hE0)).trans (hag0 i hi)
    have hE0 : nE E0 ≤ nE E137 := Nat.le_trans hE0 hgw137.1
    have h_q0 : isO 3 E137 q0 := isO_up hgw137 h_q0
    have h_p136 : isO 8 E137 p136 := isO_up hgw137 h_p136
    have h_p135 : isQ 5 E137 p135 := isA_up hgw137 h_p135
    obtain ⟨ok138, h⟩ := ck_e h
    obtain ⟨E139, eE139, h⟩ := nb_e h
    refine m_as (t := 5) (ci := 8) (r := ("Ballothall$Natural", TX8, 2)) (x := x2) hx hb hG hP hD hS h_p135.1 (isQ_T h_p135) rfl rfl h_p136.1 h_p136.2 rfl ok138 d_5_1_156 (fun H locs hP hD hS => ?_)
    have hP : va_P z.1 classes (wv z ad137 E139 M137) H := by rw [eE139]; exact hP
    have hD : va_D A (wv z ad137 E139 M137) := by rw [eE139]; exact hD
    have hgw139 : Gw E137 E139 := by rw [eE139]; exact gw_ref _ _ _ _
    have hE0 : nE E0 ≤ nE E139 := Nat.le_trans hE0 hgw139.1
    have h_q0 : isO 3 E139 q0 := isO_up hgw139 h_q0
    refine W.eq (g2 := F0 m 157 ls []) rfl ?_
    refine lv_iinc (v := oI (x2 + 1)) (lv' := [(2, .int (oI (x2 + 1))), (0, .ref (ad137 q0))]) hx hb d_5_1_157 hl (k := 1) rfl (oI_add x2 1) (by decide) rfl (fun ls hl => ?_)
    refine lv_goto (tgt := 138) hx hb d_5_1_160 (by decide) ?_
    obtain ⟨rfl, rfl, rfl, rfl⟩ := in4 h
    exact W.wide (by omega) (by omega) (k0 ad137 hag0 hE0 rfl H locs ls hP hD hS (lv_sub hl [1, 0] rfl))
set_option maxRecDepth 100000 in
set_option maxHeartbeats 4000000 in
theorem s_Co_init_138 (l : Launch) (z : Zz) (E0 : Ev) (ad0 : Nat → Nat) (q0 : Nat) {Q : State → Prop} {p : Program} {e : Env} {s : State} {m : MethodId} {below : List Frame} {meth : Method} {c : Code} {A : Nat → Prop} {args : Array Value} (hx : p.tables.exec = Jvm.exec) (hb : c.code = prog_5_method_1_code) (hml : c.maxLocals = 3) (hts : ∀ w ∈ WG, w.before args s = true) (hown : s.vm.findClass "Ballothall$Counting" = some m.cls) (hlocks : meth.locks = false) (hA : ∀ q, s.heap.size ≤ q → A q) (hG : KG z s) (hZ : FZ z A s) (mc ms c1 s1 : Nat) (hm : c1 ≤ mc) (hm2 : s1 ≤ ms) : ∀ (fu c0 s0 : Nat) (ad : Nat → Nat) (E : Ev) (M : Mm) (x2 : Int) (t : Nat) (w2 : Int) (F : Ev) (N : Mm), c0 + fu * 2 ≤ c1 → s0 + fu * 15 ≤ s1 → (∀ i, i < nE E0 → ad i = ad0 i) → nE E0 ≤ nE E → l_Co_init_138 q0 fu E M x2 = some (t, w2, F, N) → (∀ (ad1 : Nat → Nat), (∀ i, i < nE E0 → ad1 i = ad0 i) → nE E0 ≤ nE F → t = 1 → ∀ (H : Heap) (locs : List Loc) (ls : Array Slot), va_P z.1 classes (wv z ad1 F N) H → va_D A (wv z ad1 F N) → va_S A s.heap H locs → lv_has ls 3 [] → W p l e (rmK 2 60 mc ms) s m args below meth c H locs c1 s1 Q (F0 m 163 ls [])) → ∀ (H : Heap) (locs : List Loc) (ls : Array Slot), va_P z.1 classes (wv z ad E M) H → va_D A (wv z ad E M) → va_S A s.heap H locs → lv_has ls 3 [(0, .ref (ad q0)), (2, .int (oI x2))] → W p l e (rmK 2 60 mc ms) s m args below meth c H locs c0 s0 Q (F0 m 138 ls []) := by
  intro fu
  induction fu with
  | zero =>
    intro c0 s0 ad E M x2 t w2 F N hc hs hag0 hE0 h
    have h : (none : Option (Nat × Int × Ev × Mm)) = some _ := h
    cases h
  | succ fu ih =>
    intro c0 s0 ad E M x2 t w2 F N hc hs hag0 hE0 h k1 H locs ls hP hD hS hl
    obtain ⟨⟨t0, w20, F9, N9⟩, g0, h⟩ := bd_e h
    refine W.wide (Nat.le_refl _) (Nat.le_refl _) (b_Co_init_138b l z E0 ad0 ad E M q0 x2 t0 w20 F9 N9 hx hb hml hts hown hlocks hA hG hZ mc ms c0 s0 (c0 + 2) (s0 + 15) (Nat.le_refl _) (Nat.le_refl _) (by omega) (by omega) hag0 hE0 g0 (fun ad1 ha he e0 => ?_) (fun ad1 ha he e0 => ?_) H locs ls hP hD hS hl)
    · subst e0
      have h := ite_t rfl h
      exact ih (c0 + 2) (s0 + 15) ad1 F9 N9 w20 t w2 F N (by omega) (by omega) ha he h k1
    · subst e0
      have h := ite_f (by decide) h
      obtain ⟨rfl, rfl, rfl, rfl⟩ := in4 h
      exact fun H locs ls hP hD hS hl => W.wide (by omega) (by omega) (k1 ad1 ha he rfl H locs ls hP hD hS hl)
set_option maxRecDepth 100000 in
set_option maxHeartbeats 4000000 in
theorem s_Co_init (l : Launch) (z : Zz) (ad : Nat → Nat) (E : Ev) (M : Mm) (p0 : Nat) (p1 : Nat) (F : Ev) (N : Mm) (h : f_Co_init E M p0 p1 = some (F, N)) : CT l z ⟨"Ballothall$Counting", "<init>", "(LBallothall$BallotBox;)V"⟩ prog_5_method_1_code 3 none [.ref (ad p0), .ref (ad p1)] (wv z ad E M) 2 60 85 885 (fun u => none) (fun u => wv z (adj E ad u) F N) := by
  refine CT.of (own := "Ballothall$Counting") (by decide +kernel) (Nat.le_of_ble_eq_true rfl) rfl (fun p e s m below meth c A ls hx hb hml hr hts hown hlocks hin hA hG hZ hP hD hS hl => ?_)
  have hl : lv_has ls 3 [(0, .ref (ad p0)), (1, .ref (ad p1))] := hl
  have key : ∀ (E0 : Ev) (ad0 : Nat → Nat) (mc ms c0 s0 c1 s1 : Nat) (H : Heap) (locs : List Loc) (args : Array Value), c0 + 85 ≤ c1 → s0 + 885 ≤ s1 → c1 ≤ mc → s1 ≤ ms → (∀ i, i < nE E0 → ad i = ad0 i) → nE E0 ≤ nE E → (∀ w ∈ WG, w.before args s = true) → va_P z.1 classes (wv z ad E M) H → va_S A s.heap H locs → W p l e (rmK 2 60 mc ms) s m args below meth c H locs c0 s0 (MQ below (QK z A (fun u => none) (fun u => wv z (adj E0 ad0 u) F N)) args s c1 s1 A) (F0 m 0 ls []) := by
    intro E0 ad0 mc ms c0 s0 c1 s1 H locs args hc hs hm hm2 hag0 hE0 hts hP hS
    unfold f_Co_init at h
    obtain ⟨h_p0, h⟩ := ck_e h
    obtain ⟨h_p1, h⟩ := ck_e h
    refine lv_aload_n hx hb d_5_1_0 rfl (lv_at hl 0 rfl) ?_
    refine W.objInit hx hb hown (hts _ w_284) (hts _ w_38) (hts _ w_obj) rfl (by rw [hml]; exact hl.1) rfl d_5_1_1 (Nat.le_of_ble_eq_true rfl) (Nat.le_of_ble_eq_true rfl) ?_
    refine W.eq (g2 := F0 m 4 ls []) rfl ?_
    refine lv_aload_n hx hb d_5_1_4 rfl (lv_at hl 0 rfl) ?_
    refine lv_bipush (v := oI 21) hx hb d_5_1_5 (by decide +kernel) ?_
    obtain ⟨p100, ep100, h⟩ := nb_e h
    obtain ⟨E100, eE100, h⟩ := nb_e h
    obtain ⟨M100, eM100, h⟩ := nb_e h
    refine m_newq (C := "Ballothall$Count") (t := 4) (x := (21 : Int)) (N := 21) hx hb (by decide) (by decide) (by decide) hown (hts _ w_285) (by decide) rfl (fun _ h => ty_eq4 h) hG hP hD hS hA (show _ ≤ mc by omega) (show _ ≤ ms by omega) d_5_1_7 (fun ad100 H hag100 hP hD hS => ?_)
    have hP : va_P z.1 classes (wv z ad100 E100 M100) H := by rw [eE100, eM100]; exact hP
    have hD : va_D A (wv z ad100 E100 M100) := by rw [eE100, eM100]; exact hD
    refine W.eq (g2 := F0 m 10 ls (.ref (ad100 p100) :: [.ref (ad100 p0)])) (by rw [ep100, hag100 p0 h_p0.1] <;> rfl) ?_
    have hl : lv_has ls 3 [(0, .ref (ad100 p0)), (1, .ref (ad100 p1))] := by rw [hag100 p0 h_p0.1, hag100 p1 h_p1.1]; exact hl
    have hgw100 : Gw E E100 := by rw [eE100]; exact gw_new _ _
    have hag0 : ∀ i, i < nE E0 → ad100 i = ad0 i := fun i hi => (hag100 i (Nat.lt_of_lt_of_le hi hE0)).trans (hag0 i hi)
    have hE0 : nE E0 ≤ nE E100 := Nat.le_trans hE0 hgw100.1
    have h_p0 : isO 3 E100 p0 := isO_up hgw100 h_p0
    have h_p1 : isO 0 E100 p1 := isO_up hgw100 h_p1
    have h_p100 : isQ 4 E100 p100 := by rw [ep100, eE100]; exact ⟨new_i _ _, by rw [new_T]⟩
    obtain ⟨E101, eE101, h⟩ := nb_e h
    refine m_prF (C := "Ballothall$Counting") (T := TX3) (N := 15) (ci := 3) (k := 1) (ty := (.array (.object "Ballothall$Count"))) hx hb hts iX3 hown hG hP hD hS h_p0.1 h_p0.2 rfl (by decide) w_304 (fun _ h9 => h9) rfl rfl tyX3_ok nmX3 rfl hin rfl (by decide +kernel) h_p100.1 (fun _ => rfl) (fun _ => rfl) d_5_1_10 (fun H locs hP hD hS => ?_)
    have hP : va_P z.1 classes (wv z ad100 E101 M100) H := by rw [eE101]; exact hP
    have hD : va_D A (wv z ad100 E101 M100) := by rw [eE101]; exact hD
    have hgw101 : Gw E100 E101 := by rw [eE101]; exact gw_ref _ _ _ _
    have hE0 : nE E0 ≤ nE E101 := Nat.le_trans hE0 hgw101.1
    have h_p0 : isO 3 E101 p0 := isO_up hgw101 h_p0
    have h_p1 : isO 0 E101 p1 := isO_up hgw101 h_p1
    refine W.eq (g2 := F0 m 13 ls []) rfl ?_
    refine lv_aload_n hx hb d_5_1_13 rfl (lv_at hl 0 rfl) ?_
    refine lv_sipush (v := oI 240) hx hb d_5_1_14 (by decide +kernel) ?_
    obtain ⟨p102, ep102, h⟩ := nb_e h
    obtain ⟨E102, eE102, h⟩ := nb_e h
    obtain ⟨M102, eM102, h⟩ := nb_e h
    refine m_newq (C := "Ballothall$Natural") (t := 5) (x := (240 : Int)) (N := 240) hx hb (by decide) (by decide) (by decide) hown (hts _ w_287) (by decide) rfl (fun _ h => ty_eq5 h) hG hP hD hS hA (show _ ≤ mc by omega) (show _ ≤ ms by omega) d_5_1_17 (fun ad102 H hag102 hP hD hS => ?_)
    have hP : va_P z.1 classes (wv z ad102 E102 M102) H := by rw [eE102, eM102]; exact hP
    have hD : va_D A (wv z ad102 E102 M102) := by rw [eE102, eM102]; exact hD
    refine W.eq (g2 := F0 m 20 ls (.ref (ad102 p102) :: [.ref (ad102 p0)])) (by rw [ep102, hag102 p0 h_p0.1] <;> rfl) ?_
    have hl : lv_has ls 3 [(0, .ref (ad102 p0)), (1, .ref (ad102 p1))] := by rw [hag102 p0 h_p0.1, hag102 p1 h_p1.1]; exact hl
    have hgw102 : Gw E101 E102 := by rw [eE102]; exact gw_new _ _
    have hag0 : ∀ i, i < nE E0 → ad102 i = ad0 i := fun i hi => (hag102 i (Nat.lt_of_lt_of_le hi hE0)).trans (hag0 i hi)
    have hE0 : nE E0 ≤ nE E102 := Nat.le_trans hE0 hgw102.1
    have h_p0 : isO 3 E102 p0 := isO_up hgw102 h_p0
    have h_p1 : isO 0 E102 p1 := isO_up hgw102 h_p1
    have h_p102 : isQ 5 E102 p102 := by rw [ep102, eE102]; exact ⟨new_i _ _, by rw [new_T]⟩
    obtain ⟨E103, eE103, h⟩ := nb_e h
    refine m_prF (C := "Ballothall$Counting") (T := TX3) (N := 15) (ci := 3) (k := 4) (ty := (.array (.object "Ballothall$Natural"))) hx hb hts iX3 hown hG hP hD hS h_p0.1 h_p0.2 rfl (by decide) w_307 (fun _ h9 => h9) rfl rfl tyX3_ok nmX3 rfl hin rfl (by decide +kernel) h_p102.1 (fun _ => rfl) (fun _ => rfl) d_5_1_20 (fun H locs hP hD hS => ?_)
    have hP : va_P z.1 classes (wv z ad102 E103 M102) H := by rw [eE103]; exact hP
    have hD : va_D A (wv z ad102 E103 M102) := by rw [eE103]; exact hD
    have hgw103 : Gw E102 E103 := by rw [eE103]; exact gw_ref _ _ _ _
    have hE0 : nE E0 ≤ nE E103 := Nat.le_trans hE0 hgw103.1
    have h_p0 : isO 3 E103 p0 := isO_up hgw103 h_p0
    have h_p1 : isO 0 E103 p1 := isO_up hgw103 h_p1
    refine W.eq (g2 := F0 m 23 ls []) rfl ?_
    refine lv_aload_n hx hb d_5_1_23 rfl (lv_at hl 0 rfl) ?_
    refine lv_bipush (v := oI 9) hx hb d_5_1_24 (by decide +kernel) ?_
    obtain ⟨p104, ep104, h⟩ := nb_e h
    obtain ⟨E104, eE104, h⟩ := nb_e h
    obtain ⟨M104, eM104, h⟩ := nb_e h
    refine m_newq (C := "Ballothall$Natural") (t := 5) (x := (9 : Int)) (N := 9) hx hb (by decide) (by decide) (by decide) hown (hts _ w_287) (by decide) rfl (fun _ h => ty_eq5 h) hG hP hD hS hA (show _ ≤ mc by omega) (show _ ≤ ms by omega) d_5_1_26 (fun ad104 H hag104 hP hD hS => ?_)
    have hP : va_P z.1 classes (wv z ad104 E104 M104) H := by rw [eE104, eM104]; exact hP
    have hD : va_D A (wv z ad104 E104 M104) := by rw [eE104, eM104]; exact hD
    refine W.eq (g2 := F0 m 29 ls (.ref (ad104 p104) :: [.ref (ad104 p0)])) (by rw [ep104, hag104 p0 h_p0.1] <;> rfl) ?_
    have hl : lv_has ls 3 [(0, .ref (ad104 p0)), (1, .ref (ad104 p1))] := by rw [hag104 p0 h_p0.1, hag104 p1 h_p1.1]; exact hl
    have hgw104 : Gw E103 E104 := by rw [eE104]; exact gw_new _ _
    have hag0 : ∀ i, i < nE E0 → ad104 i = ad0 i := fun i hi => (hag104 i (Nat.lt_of_lt_of_le hi hE0)).trans (hag0 i hi)
    have hE0 : nE E0 ≤ nE E104 := Nat.le_trans hE0 hgw104.1
    have h_p0 : isO 3 E104 p0 := isO_up hgw104 h_p0
    have h_p1 : isO 0 E104 p1 := isO_up hgw104 h_p1
    have h_p104 : isQ 5 E104 p104 := by rw [ep104, eE104]; exact ⟨new_i _ _, by rw [new_T]⟩
    obtain ⟨E105, eE105, h⟩ := nb_e h
    refine m_prF (C := "Ballothall$Counting") (T := TX3) (N := 15) (ci := 3) (k := 5) (ty := (.array (.object "Ballothall$Natural"))) hx hb hts iX3 hown hG hP hD hS h_p0.1 h_p0.2 rfl (by decide) w_308 (fun _ h9 => h9) rfl rfl tyX3_ok nmX3 rfl hin rfl (by decide +kernel) h_p104.1 (fun _ => rfl) (fun _ => rfl) d_5_1_29 (fun H locs hP hD hS => ?_)
    have hP : va_P z.1 classes (wv z ad104 E105 M104) H := by rw [eE105]; exact hP
    have hD : va_D A (wv z ad104 E105 M104) := by rw [eE105]; exact hD
    have hgw105 : Gw E104 E105 := by rw [eE105]; exact gw_ref _ _ _ _
    have hE0 : nE E0 ≤ nE E105 := Nat.le_trans hE0 hgw105.1
    have h_p0 : isO 3 E105 p0 := isO_up hgw105 h_p0
    have h_p1 : isO 0 E105 p1 := isO_up hgw105 h_p1
    refine W.eq (g2 := F0 m 32 ls []) rfl ?_
    refine lv_aload_n hx hb d_5_1_32 rfl (lv_at hl 0 rfl) ?_
    obtain ⟨p106, ep106, h⟩ := nb_e h
    obtain ⟨E106, eE106, h⟩ := nb_e h
    obtain ⟨M106, eM106, h⟩ := nb_e h
    refine m_newO (ci := 8) (C := "Ballothall$Natural") (T := TX8) (n := 2) hx hb hts iX8 tyX8_ok hown w_287 w_289 w_9 rfl (fun _ => fsX8) hG hP hD hS hA (show _ ≤ mc by omega) (show _ ≤ ms by omega) d_5_1_33 (fun ad106 H hag106 hP hD hS => ?_)
    have hP : va_P z.1 classes (wv z ad106 E106 M106) H := by rw [eE106, eM106]; exact hP
    have hD : va_D A (wv z ad106 E106 M106) := by rw [eE106, eM106]; exact hD
    refine W.eq (g2 := F0 m 36 ls (.ref (ad106 p106) :: [.ref (ad106 p0)])) (by rw [ep106, hag106 p0 h_p0.1] <;> rfl) ?_
    have hl : lv_has ls 3 [(0, .ref (ad106 p0)), (1, .ref (ad106 p1))] := by rw [hag106 p0 h_p0.1, hag106 p1 h_p1.1]; exact hl
    have hgw106 : Gw E105 E106 := by rw [eE106]; exact gw_new _ _
    have hag0 : ∀ i, i < nE E0 → ad106 i = ad0 i := fun i hi => (hag106 i (Nat.lt_of_lt_of_le hi hE0)).trans (hag0 i hi)
    have hE0 : nE E0 ≤ nE E106 := Nat.le_trans hE0 hgw106.1
    have h_p0 : isO 3 E106 p0 := isO_up hgw106 h_p0
    have h_p1 : isO 0 E106 p1 := isO_up hgw106 h_p1
    have h_p106 : isO 8 E106 p106 := by rw [ep106, eE106]; exact ⟨new_i _ _, new_T _ _⟩
    refine lv_dup hx hb d_5_1_36 rfl ?_
    obtain ⟨⟨E107, M107⟩, g107, h⟩ := bd_e h
    obtain ⟨hgw107, h⟩ := ck_e h
    refine kIN (As := []) (rest := [.ref (ad106 p106), .ref (ad106 p0)]) (s_Na_init l z ad106 E106 M106 p106 E107 M107 g107) hx hb hml hown hts w_292 n_290 w_291 rfl w_9 md_72d9bf ⟨Nat.le_of_ble_eq_true rfl, Nat.le_of_ble_eq_true rfl⟩ hG hZ hP hD hS hA rfl hl.1 rfl (Nat.le_of_ble_eq_true rfl) d_5_1_37 ⟨(show _ ≤ mc by omega), (show _ ≤ ms by omega)⟩ (fun u107 H locs hP hD hS => ?_)
    obtain ⟨ad107, had107⟩ : ∃ q, q = adj E106 ad106 u107 := ⟨_, rfl⟩
    have hP : va_P z.1 classes (wv z ad107 E107 M107) H := by rw [had107]; exact hP
    have hD : va_D A (wv z ad107 E107 M107) := by rw [had107]; exact hD
    have hag107 : ∀ i, i < nE E106 → ad107 i = ad106 i := fun i hi => by rw [had107]; exact adj_lt hi
    have hl : lv_has ls 3 [(0, .ref (ad107 p0)), (1, .ref (ad107 p1))] := by rw [hag107 p0 h_p0.1, hag107 p1 h_p1.1]; exact hl
    refine W.eq (g2 := F0 m 40 ls [.ref (ad107 p106), .ref (ad107 p0)]) (by rw [hag107 p106 h_p106.1, hag107 p0 h_p0.1] <;> rfl) ?_
    have hag0 : ∀ i, i < nE E0 → ad107 i = ad0 i := fun i hi => (hag107 i (Nat.lt_of_lt_of_le hi hE0)).trans (hag0 i hi)
    have hE0 : nE E0 ≤ nE E107 := Nat.le_trans hE0 hgw107.1
    have h_p0 : isO 3 E107 p0 := isO_up hgw107 h_p0
    have h_p1 : isO 0 E107 p1 := isO_up hgw107 h_p1
    have h_p106 : isO 8 E107 p106 := isO_up hgw107 h_p106
    obtain ⟨E108, eE108, h⟩ := nb_e h
    refine m_prF (C := "Ballothall$Counting") (T := TX3) (N := 15) (ci := 3) (k := 6) (ty := (.object "Ballothall$Natural")) hx hb hts iX3 hown hG hP hD hS h_p0.1 h_p0.2 rfl (by decide) w_309 (fun _ h9 => h9) rfl rfl tyX3_ok nmX3 rfl hin rfl (by decide +kernel) h_p106.1 (fun _ => rfl) (fun _ => rfl) d_5_1_40 (fun H locs hP hD hS => ?_)
    have hP : va_P z.1 classes (wv z ad107 E108 M107) H := by rw [eE108]; exact hP
    have hD : va_D A (wv z ad107 E108 M107) := by rw [eE108]; exact hD
    have hgw108 : Gw E107 E108 := by rw [eE108]; exact gw_ref _ _ _ _
    have hE0 : nE E0 ≤ nE E108 := Nat.le_trans hE0 hgw108.1
    have h_p0 : isO 3 E108 p0 := isO_up hgw108 h_p0
    have h_p1 : isO 0 E108 p1 := isO_up hgw108 h_p1
    refine W.eq (g2 := F0 m 43 ls []) rfl ?_
    refine lv_aload_n hx hb d_5_1_43 rfl (lv_at hl 0 rfl) ?_
    obtain ⟨p109, ep109, h⟩ := nb_e h
    obtain ⟨E109, eE109, h⟩ := nb_e h
    obtain ⟨M109, eM109, h⟩ := nb_e h
    refine m_newO (ci := 8) (C := "Ballothall$Natural") (T := TX8) (n := 2) hx hb hts iX8 tyX8_ok hown w_287 w_289 w_9 rfl (fun _ => fsX8) hG hP hD hS hA (show _ ≤ mc by omega) (show _ ≤ ms by omega) d_5_1_44 (fun ad109 H hag109 hP hD hS => ?_)
    have hP : va_P z.1 classes (wv z ad109 E109 M109) H := by rw [eE109, eM109]; exact hP
    have hD : va_D A (wv z ad109 E109 M109) := by rw [eE109, eM109]; exact hD
    refine W.eq (g2 := F0 m 47 ls (.ref (ad109 p109) :: [.ref (ad109 p0)])) (by rw [ep109, hag109 p0 h_p0.1] <;> rfl) ?_
    have hl : lv_has ls 3 [(0, .ref (ad109 p0)), (1, .ref (ad109 p1))] := by rw [hag109 p0 h_p0.1, hag109 p1 h_p1.1]; exact hl
    have hgw109 : Gw E108 E109 := by rw [eE109]; exact gw_new _ _
    have hag0 : ∀ i, i < nE E0 → ad109 i = ad0 i := fun i hi => (hag109 i (Nat.lt_of_lt_of_le hi hE0)).trans (hag0 i hi)
    have hE0 : nE E0 ≤ nE E109 := Nat.le_trans hE0 hgw109.1
    have h_p0 : isO 3 E109 p0 := isO_up hgw109 h_p0
    have h_p1 : isO 0 E109 p1 := isO_up hgw109 h_p1
    have h_p109 : isO 8 E109 p109 := by rw [ep109, eE109]; exact ⟨new_i _ _, new_T _ _⟩
    refine lv_dup hx hb d_5_1_47 rfl ?_
    obtain ⟨⟨E110, M110⟩, g110, h⟩ := bd_e h
    obtain ⟨hgw110, h⟩ := ck_e h
    refine kIN (As := []) (rest := [.ref (ad109 p109), .ref (ad109 p0)]) (s_Na_init l z ad109 E109 M109 p109 E110 M110 g110) hx hb hml hown hts w_292 n_290 w_291 rfl w_9 md_72d9bf ⟨Nat.le_of_ble_eq_true rfl, Nat.le_of_ble_eq_true rfl⟩ hG hZ hP hD hS hA rfl hl.1 rfl (Nat.le_of_ble_eq_true rfl) d_5_1_48 ⟨(show _ ≤ mc by omega), (show _ ≤ ms by omega)⟩ (fun u110 H locs hP hD hS => ?_)
    obtain ⟨ad110, had110⟩ : ∃ q, q = adj E109 ad109 u110 := ⟨_, rfl⟩
    have hP : va_P z.1 classes (wv z ad110 E110 M110) H := by rw [had110]; exact hP
    have hD : va_D A (wv z ad110 E110 M110) := by rw [had110]; exact hD
    have hag110 : ∀ i, i < nE E109 → ad110 i = ad109 i := fun i hi => by rw [had110]; exact adj_lt hi
    have hl : lv_has ls 3 [(0, .ref (ad110 p0)), (1, .ref (ad110 p1))] := by rw [hag110 p0 h_p0.1, hag110 p1 h_p1.1]; exact hl
    refine W.eq (g2 := F0 m 51 ls [.ref (ad110 p109), .ref (ad110 p0)]) (by rw [hag110 p109 h_p109.1, hag110 p0 h_p0.1] <;> rfl) ?_
    have hag0 : ∀ i, i < nE E0 → ad110 i = ad0 i := fun i hi => (hag110 i (Nat.lt_of_lt_of_le hi hE0)).trans (hag0 i hi)
    have hE0 : nE E0 ≤ nE E110 := Nat.le_trans hE0 hgw110.1
    have h_p0 : isO 3 E110 p0 := isO_up hgw110 h_p0
    have h_p1 : isO 0 E110 p1 := isO_up hgw110 h_p1
    have h_p109 : isO 8 E110 p109 := isO_up hgw110 h_p109
    obtain ⟨E111, eE111, h⟩ := nb_e h
    refine m_prF (C := "Ballothall$Counting") (T := TX3) (N := 15) (ci := 3) (k := 7) (ty := (.object "Ballothall$Natural")) hx hb hts iX3 hown hG hP hD hS h_p0.1 h_p0.2 rfl (by decide) w_310 (fun _ h9 => h9) rfl rfl tyX3_ok nmX3 rfl hin rfl (by decide +kernel) h_p109.1 (fun _ => rfl) (fun _ => rfl) d_5_1_51 (fun H locs hP hD hS => ?_)
    have hP : va_P z.1 classes (wv z ad110 E111 M110) H := by rw [eE111]; exact hP
    have hD : va_D A (wv z ad110 E111 M110) := by rw [eE111]; exact hD
    have hgw111 : Gw E110 E111 := by rw [eE111]; exact gw_ref _ _ _ _
    have hE0 : nE E0 ≤ nE E111 := Nat.le_trans hE0 hgw111.1
    have h_p0 : isO 3 E111 p0 := isO_up hgw111 h_p0
    have h_p1 : isO 0 E111 p1 := isO_up hgw111 h_p1
    refine W.eq (g2 := F0 m 54 ls []) rfl ?_
    refine lv_aload_n hx hb d_5_1_54 rfl (lv_at hl 0 rfl) ?_
    obtain ⟨p112, ep112, h⟩ := nb_e h
    obtain ⟨E112, eE112, h⟩ := nb_e h
    obtain ⟨M112, eM112, h⟩ := nb_e h
    refine m_newO (ci := 8) (C := "Ballothall$Natural") (T := TX8) (n := 2) hx hb hts iX8 tyX8_ok hown w_287 w_289 w_9 rfl (fun _ => fsX8) hG hP hD hS hA (show _ ≤ mc by omega) (show _ ≤ ms by omega) d_5_1_55 (fun ad112 H hag112 hP hD hS => ?_)
    have hP : va_P z.1 classes (wv z ad112 E112 M112) H := by rw [eE112, eM112]; exact hP
    have hD : va_D A (wv z ad112 E112 M112) := by rw [eE112, eM112]; exact hD
    refine W.eq (g2 := F0 m 58 ls (.ref (ad112 p112) :: [.ref (ad112 p0)])) (by rw [ep112, hag112 p0 h_p0.1] <;> rfl) ?_
    have hl : lv_has ls 3 [(0, .ref (ad112 p0)), (1, .ref (ad112 p1))] := by rw [hag112 p0 h_p0.1, hag112 p1 h_p1.1]; exact hl
    have hgw112 : Gw E111 E112 := by rw [eE112]; exact gw_new _ _
    have hag0 : ∀ i, i < nE E0 → ad112 i = ad0 i := fun i hi => (hag112 i (Nat.lt_of_lt_of_le hi hE0)).trans (hag0 i hi)
    have hE0 : nE E0 ≤ nE E112 := Nat.le_trans hE0 hgw112.1
    have h_p0 : isO 3 E112 p0 := isO_up hgw112 h_p0
    have h_p1 : isO 0 E112 p1 := isO_up hgw112 h_p1
    have h_p112 : isO 8 E112 p112 := by rw [ep112, eE112]; exact ⟨new_i _ _, new_T _ _⟩
    refine lv_dup hx hb d_5_1_58 rfl ?_
    obtain ⟨⟨E113, M113⟩, g113, h⟩ := bd_e h
    obtain ⟨hgw113, h⟩ := ck_e h
    refine kIN (As := []) (rest := [.ref (ad112 p112), .ref (ad112 p0)]) (s_Na_init l z ad112 E112 M112 p112 E113 M113 g113) hx hb hml hown hts w_292 n_290 w_291 rfl w_9 md_72d9bf ⟨Nat.le_of_ble_eq_true rfl, Nat.le_of_ble_eq_true rfl⟩ hG hZ hP hD hS hA rfl hl.1 rfl (Nat.le_of_ble_eq_true rfl) d_5_1_59 ⟨(show _ ≤ mc by omega), (show _ ≤ ms by omega)⟩ (fun u113 H locs hP hD hS => ?_)
    obtain ⟨ad113, had113⟩ : ∃ q, q = adj E112 ad112 u113 := ⟨_, rfl⟩
    have hP : va_P z.1 classes (wv z ad113 E113 M113) H := by rw [had113]; exact hP
    have hD : va_D A (wv z ad113 E113 M113) := by rw [had113]; exact hD
    have hag113 : ∀ i, i < nE E112 → ad113 i = ad112 i := fun i hi => by rw [had113]; exact adj_lt hi
    have hl : lv_has ls 3 [(0, .ref (ad113 p0)), (1, .ref (ad113 p1))] := by rw [hag113 p0 h_p0.1, hag113 p1 h_p1.1]; exact hl
    refine W.eq (g2 := F0 m 62 ls [.ref (ad113 p112), .ref (ad113 p0)]) (by rw [hag113 p112 h_p112.1, hag113 p0 h_p0.1] <;> rfl) ?_
    have hag0 : ∀ i, i < nE E0 → ad113 i = ad0 i := fun i hi => (hag113 i (Nat.lt_of_lt_of_le hi hE0)).trans (hag0 i hi)
    have hE0 : nE E0 ≤ nE E113 := Nat.le_trans hE0 hgw113.1
    have h_p0 : isO 3 E113 p0 := isO_up hgw113 h_p0
    have h_p1 : isO 0 E113 p1 := isO_up hgw113 h_p1
    have h_p112 : isO 8 E113 p112 := isO_up hgw113 h_p112
    obtain ⟨E114, eE114, h⟩ := nb_e h
    refine m_prF (C := "Ballothall$Counting") (T := TX3) (N := 15) (ci := 3) (k := 8) (ty := (.object "Ballothall$Natural")) hx hb hts iX3 hown hG hP hD hS h_p0.1 h_p0.2 rfl (by decide) w_311 (fun _ h9 => h9) rfl rfl tyX3_ok nmX3 rfl hin rfl (by decide +kernel) h_p112.1 (fun _ => rfl) (fun _ => rfl) d_5_1_62 (fun H locs hP hD hS => ?_)
    have hP : va_P z.1 classes (wv z ad113 E114 M113) H := by rw [eE114]; exact hP
    have hD : va_D A (wv z ad113 E114 M113) := by rw [eE114]; exact hD
    have hgw114 : Gw E113 E114 := by rw [eE114]; exact gw_ref _ _ _ _
    have hE0 : nE E0 ≤ nE E114 := Nat.le_trans hE0 hgw114.1
    have h_p0 : isO 3 E114 p0 := isO_up hgw114 h_p0
    have h_p1 : isO 0 E114 p1 := isO_up hgw114 h_p1
    refine W.eq (g2 := F0 m 65 ls []) rfl ?_
    refine lv_aload_n hx hb d_5_1_65 rfl (lv_at hl 0 rfl) ?_
    obtain ⟨p115, ep115, h⟩ := nb_e h
    obtain ⟨E115, eE115, h⟩ := nb_e h
    obtain ⟨M115, eM115, h⟩ := nb_e h
    refine m_newO (ci := 8) (C := "Ballothall$Natural") (T := TX8) (n := 2) hx hb hts iX8 tyX8_ok hown w_287 w_289 w_9 rfl (fun _ => fsX8) hG hP hD hS hA (show _ ≤ mc by omega) (show _ ≤ ms by omega) d_5_1_66 (fun ad115 H hag115 hP hD hS => ?_)
    have hP : va_P z.1 classes (wv z ad115 E115 M115) H := by rw [eE115, eM115]; exact hP
    have hD : va_D A (wv z ad115 E115 M115) := by rw [eE115, eM115]; exact hD
    refine W.eq (g2 := F0 m 69 ls (.ref (ad115 p115) :: [.ref (ad115 p0)])) (by rw [ep115, hag115 p0 h_p0.1] <;> rfl) ?_
    have hl : lv_has ls 3 [(0, .ref (ad115 p0)), (1, .ref (ad115 p1))] := by rw [hag115 p0 h_p0.1, hag115 p1 h_p1.1]; exact hl
    have hgw115 : Gw E114 E115 := by rw [eE115]; exact gw_new _ _
    have hag0 : ∀ i, i < nE E0 → ad115 i = ad0 i := fun i hi => (hag115 i (Nat.lt_of_lt_of_le hi hE0)).trans (hag0 i hi)
    have hE0 : nE E0 ≤ nE E115 := Nat.le_trans hE0 hgw115.1
    have h_p0 : isO 3 E115 p0 := isO_up hgw115 h_p0
    have h_p1 : isO 0 E115 p1 := isO_up hgw115 h_p1
    have h_p115 : isO 8 E115 p115 := by rw [ep115, eE115]; exact ⟨new_i _ _, new_T _ _⟩
    refine lv_dup hx hb d_5_1_69 rfl ?_
    obtain ⟨⟨E116, M116⟩, g116, h⟩ := bd_e h
    obtain ⟨hgw116, h⟩ := ck_e h
    refine kIN (As := []) (rest := [.ref (ad115 p115), .ref (ad115 p0)]) (s_Na_init l z ad115 E115 M115 p115 E116 M116 g116) hx hb hml hown hts w_292 n_290 w_291 rfl w_9 md_72d9bf ⟨Nat.le_of_ble_eq_true rfl, Nat.le_of_ble_eq_true rfl⟩ hG hZ hP hD hS hA rfl hl.1 rfl (Nat.le_of_ble_eq_true rfl) d_5_1_70 ⟨(show _ ≤ mc by omega), (show _ ≤ ms by omega)⟩ (fun u116 H locs hP hD hS => ?_)
    obtain ⟨ad116, had116⟩ : ∃ q, q = adj E115 ad115 u116 := ⟨_, rfl⟩
    have hP : va_P z.1 classes (wv z ad116 E116 M116) H := by rw [had116]; exact hP
    have hD : va_D A (wv z ad116 E116 M116) := by rw [had116]; exact hD
    have hag116 : ∀ i, i < nE E115 → ad116 i = ad115 i := fun i hi => by rw [had116]; exact adj_lt hi
    have hl : lv_has ls 3 [(0, .ref (ad116 p0)), (1, .ref (ad116 p1))] := by rw [hag116 p0 h_p0.1, hag116 p1 h_p1.1]; exact hl
    refine W.eq (g2 := F0 m 73 ls [.ref (ad116 p115), .ref (ad116 p0)]) (by rw [hag116 p115 h_p115.1, hag116 p0 h_p0.1] <;> rfl) ?_
    have hag0 : ∀ i, i < nE E0 → ad116 i = ad0 i := fun i hi => (hag116 i (Nat.lt_of_lt_of_le hi hE0)).trans (hag0 i hi)
    have hE0 : nE E0 ≤ nE E116 := Nat.le_trans hE0 hgw116.1
    have h_p0 : isO 3 E116 p0 := isO_up hgw116 h_p0
    have h_p1 : isO 0 E116 p1 := isO_up hgw116 h_p1
    have h_p115 : isO 8 E116 p115 := isO_up hgw116 h_p115
    obtain ⟨E117, eE117, h⟩ := nb_e h
    refine m_prF (C := "Ballothall$Counting") (T := TX3) (N := 15) (ci := 3) (k := 9) (ty := (.object "Ballothall$Natural")) hx hb hts iX3 hown hG hP hD hS h_p0.1 h_p0.2 rfl (by decide) w_312 (fun _ h9 => h9) rfl rfl tyX3_ok nmX3 rfl hin rfl (by decide +kernel) h_p115.1 (fun _ => rfl) (fun _ => rfl) d_5_1_73 (fun H locs hP hD hS => ?_)
    have hP : va_P z.1 classes (wv z ad116 E117 M116) H := by rw [eE117]; exact hP
    have hD : va_D A (wv z ad116 E117 M116) := by rw [eE117]; exact hD
    have hgw117 : Gw E116 E117 := by rw [eE117]; exact gw_ref _ _ _ _
    have hE0 : nE E0 ≤ nE E117 := Nat.le_trans hE0 hgw117.1
    have h_p0 : isO 3 E117 p0 := isO_up hgw117 h_p0
    have h_p1 : isO 0 E117 p1 := isO_up hgw117 h_p1
    refine W.eq (g2 := F0 m 76 ls []) rfl ?_
    refine lv_aload_n hx hb d_5_1_76 rfl (lv_at hl 0 rfl) ?_
    obtain ⟨p118, ep118, h⟩ := nb_e h
    obtain ⟨E118, eE118, h⟩ := nb_e h
    obtain ⟨M118, eM118, h⟩ := nb_e h
    refine m_newO (ci := 8) (C := "Ballothall$Natural") (T := TX8) (n := 2) hx hb hts iX8 tyX8_ok hown w_287 w_289 w_9 rfl (fun _ => fsX8) hG hP hD hS hA (show _ ≤ mc by omega) (show _ ≤ ms by omega) d_5_1_77 (fun ad118 H hag118 hP hD hS => ?_)
    have hP : va_P z.1 classes (wv z ad118 E118 M118) H := by rw [eE118, eM118]; exact hP
    have hD : va_D A (wv z ad118 E118 M118) := by rw [eE118, eM118]; exact hD
    refine W.eq (g2 := F0 m 80 ls (.ref (ad118 p118) :: [.ref (ad118 p0)])) (by rw [ep118, hag118 p0 h_p0.1] <;> rfl) ?_
    have hl : lv_has ls 3 [(0, .ref (ad118 p0)), (1, .ref (ad118 p1))] := by rw [hag118 p0 h_p0.1, hag118 p1 h_p1.1]; exact hl
    have hgw118 : Gw E117 E118 := by rw [eE118]; exact gw_new _ _
    have hag0 : ∀ i, i < nE E0 → ad118 i = ad0 i := fun i hi => (hag118 i (Nat.lt_of_lt_of_le hi hE0)).trans (hag0 i hi)
    have hE0 : nE E0 ≤ nE E118 := Nat.le_trans hE0 hgw118.1
    have h_p0 : isO 3 E118 p0 := isO_up hgw118 h_p0
    have h_p1 : isO 0 E118 p1 := isO_up hgw118 h_p1
    have h_p118 : isO 8 E118 p118 := by rw [ep118, eE118]; exact ⟨new_i _ _, new_T _ _⟩
    refine lv_dup hx hb d_5_1_80 rfl ?_
    obtain ⟨⟨E119, M119⟩, g119, h⟩ := bd_e h
    obtain ⟨hgw119, h⟩ := ck_e h
    refine kIN (As := []) (rest := [.ref (ad118 p118), .ref (ad118 p0)]) (s_Na_init l z ad118 E118 M118 p118 E119 M119 g119) hx hb hml hown hts w_292 n_290 w_291 rfl w_9 md_72d9bf ⟨Nat.le_of_ble_eq_true rfl, Nat.le_of_ble_eq_true rfl⟩ hG hZ hP hD hS hA rfl hl.1 rfl (Nat.le_of_ble_eq_true rfl) d_5_1_81 ⟨(show _ ≤ mc by omega), (show _ ≤ ms by omega)⟩ (fun u119 H locs hP hD hS => ?_)
    obtain ⟨ad119, had119⟩ : ∃ q, q = adj E118 ad118 u119 := ⟨_, rfl⟩
    have hP : va_P z.1 classes (wv z ad119 E119 M119) H := by rw [had119]; exact hP
    have hD : va_D A (wv z ad119 E119 M119) := by rw [had119]; exact hD
    have hag119 : ∀ i, i < nE E118 → ad119 i = ad118 i := fun i hi => by rw [had119]; exact adj_lt hi
    have hl : lv_has ls 3 [(0, .ref (ad119 p0)), (1, .ref (ad119 p1))] := by rw [hag119 p0 h_p0.1, hag119 p1 h_p1.1]; exact hl
    refine W.eq (g2 := F0 m 84 ls [.ref (ad119 p118), .ref (ad119 p0)]) (by rw [hag119 p118 h_p118.1, hag119 p0 h_p0.1] <;> rfl) ?_
    have hag0 : ∀ i, i < nE E0 → ad119 i = ad0 i := fun i hi => (hag119 i (Nat.lt_of_lt_of_le hi hE0)).trans (hag0 i hi)
    have hE0 : nE E0 ≤ nE E119 := Nat.le_trans hE0 hgw119.1
    have h_p0 : isO 3 E119 p0 := isO_up hgw119 h_p0
    have h_p1 : isO 0 E119 p1 := isO_up hgw119 h_p1
    have h_p118 : isO 8 E119 p118 := isO_up hgw119 h_p118
    obtain ⟨E120, eE120, h⟩ := nb_e h
    refine m_prF (C := "Ballothall$Counting") (T := TX3) (N := 15) (ci := 3) (k := 10) (ty := (.object "Ballothall$Natural")) hx hb hts iX3 hown hG hP hD hS h_p0.1 h_p0.2 rfl (by decide) w_314 (fun _ h9 => h9) rfl rfl tyX3_ok nmX3 rfl hin rfl (by decide +kernel) h_p118.1 (fun _ => rfl) (fun _ => rfl) d_5_1_84 (fun H locs hP hD hS => ?_)
    have hP : va_P z.1 classes (wv z ad119 E120 M119) H := by rw [eE120]; exact hP
    have hD : va_D A (wv z ad119 E120 M119) := by rw [eE120]; exact hD
    have hgw120 : Gw E119 E120 := by rw [eE120]; exact gw_ref _ _ _ _
    have hE0 : nE E0 ≤ nE E120 := Nat.le_trans hE0 hgw120.1
    have h_p0 : isO 3 E120 p0 := isO_up hgw120 h_p0
    have h_p1 : isO 0 E120 p1 := isO_up hgw120 h_p1
    refine W.eq (g2 := F0 m 87 ls []) rfl ?_
    refine lv_aload_n hx hb d_5_1_87 rfl (lv_at hl 0 rfl) ?_
    obtain ⟨p121, ep121, h⟩ := nb_e h
    obtain ⟨E121, eE121, h⟩ := nb_e h
    obtain ⟨M121, eM121, h⟩ := nb_e h
    refine m_newO (ci := 8) (C := "Ballothall$Natural") (T := TX8) (n := 2) hx hb hts iX8 tyX8_ok hown w_287 w_289 w_9 rfl (fun _ => fsX8) hG hP hD hS hA (show _ ≤ mc by omega) (show _ ≤ ms by omega) d_5_1_88 (fun ad121 H hag121 hP hD hS => ?_)
    have hP : va_P z.1 classes (wv z ad121 E121 M121) H := by rw [eE121, eM121]; exact hP
    have hD : va_D A (wv z ad121 E121 M121) := by rw [eE121, eM121]; exact hD
    refine W.eq (g2 := F0 m 91 ls (.ref (ad121 p121) :: [.ref (ad121 p0)])) (by rw [ep121, hag121 p0 h_p0.1] <;> rfl) ?_
    have hl : lv_has ls 3 [(0, .ref (ad121 p0)), (1, .ref (ad121 p1))] := by rw [hag121 p0 h_p0.1, hag121 p1 h_p1.1]; exact hl
    have hgw121 : Gw E120 E121 := by rw [eE121]; exact gw_new _ _
    have hag0 : ∀ i, i < nE E0 → ad121 i = ad0 i := fun i hi => (hag121 i (Nat.lt_of_lt_of_le hi hE0)).trans (hag0 i hi)
    have hE0 : nE E0 ≤ nE E121 := Nat.le_trans hE0 hgw121.1
    have h_p0 : isO 3 E121 p0 := isO_up hgw121 h_p0
    have h_p1 : isO 0 E121 p1 := isO_up hgw121 h_p1
    have h_p121 : isO 8 E121 p121 := by rw [ep121, eE121]; exact ⟨new_i _ _, new_T _ _⟩
    refine lv_dup hx hb d_5_1_91 rfl ?_
    obtain ⟨⟨E122, M122⟩, g122, h⟩ := bd_e h
    obtain ⟨hgw122, h⟩ := ck_e h
    refine kIN (As := []) (rest := [.ref (ad121 p121), .ref (ad121 p0)]) (s_Na_init l z ad121 E121 M121 p121 E122 M122 g122) hx hb hml hown hts w_292 n_290 w_291 rfl w_9 md_72d9bf ⟨Nat.le_of_ble_eq_true rfl, Nat.le_of_ble_eq_true rfl⟩ hG hZ hP hD hS hA rfl hl.1 rfl (Nat.le_of_ble_eq_true rfl) d_5_1_92 ⟨(show _ ≤ mc by omega), (show _ ≤ ms by omega)⟩ (fun u122 H locs hP hD hS => ?_)
    obtain ⟨ad122, had122⟩ : ∃ q, q = adj E121 ad121 u122 := ⟨_, rfl⟩
    have hP : va_P z.1 classes (wv z ad122 E122 M122) H := by rw [had122]; exact hP
    have hD : va_D A (wv z ad122 E122 M122) := by rw [had122]; exact hD
    have hag122 : ∀ i, i < nE E121 → ad122 i = ad121 i := fun i hi => by rw [had122]; exact adj_lt hi
    have hl : lv_has ls 3 [(0, .ref (ad122 p0)), (1, .ref (ad122 p1))] := by rw [hag122 p0 h_p0.1, hag122 p1 h_p1.1]; exact hl
    refine W.eq (g2 := F0 m 95 ls [.ref (ad122 p121), .ref (ad122 p0)]) (by rw [hag122 p121 h_p121.1, hag122 p0 h_p0.1] <;> rfl) ?_
    have hag0 : ∀ i, i < nE E0 → ad122 i = ad0 i := fun i hi => (hag122 i (Nat.lt_of_lt_of_le hi hE0)).trans (hag0 i hi)
    have hE0 : nE E0 ≤ nE E122 := Nat.le_trans hE0 hgw122.1
    have h_p0 : isO 3 E122 p0 := isO_up hgw122 h_p0
    have h_p1 : isO 0 E122 p1 := isO_up hgw122 h_p1
    have h_p121 : isO 8 E122 p121 := isO_up hgw122 h_p121
    obtain ⟨E123, eE123, h⟩ := nb_e h
    refine m_prF (C := "Ballothall$Counting") (T := TX3) (N := 15) (ci := 3) (k := 11) (ty := (.object "Ballothall$Natural")) hx hb hts iX3 hown hG hP hD hS h_p0.1 h_p0.2 rfl (by decide) w_316 (fun _ h9 => h9) rfl rfl tyX3_ok nmX3 rfl hin rfl (by decide +kernel) h_p121.1 (fun _ => rfl) (fun _ => rfl) d_5_1_95 (fun H locs hP hD hS => ?_)
    have hP : va_P z.1 classes (wv z ad122 E123 M122) H := by rw [eE123]; exact hP
    have hD : va_D A (wv z ad122 E123 M122) := by rw [eE123]; exact hD
    have hgw123 : Gw E122 E123 := by rw [eE123]; exact gw_ref _ _ _ _
    have hE0 : nE E0 ≤ nE E123 := Nat.le_trans hE0 hgw123.1
    have h_p0 : isO 3 E123 p0 := isO_up hgw123 h_p0
    have h_p1 : isO 0 E123 p1 := isO_up hgw123 h_p1
    refine W.eq (g2 := F0 m 98 ls []) rfl ?_
    refine lv_aload_n hx hb d_5_1_98 rfl (lv_at hl 0 rfl) ?_
    obtain ⟨p124, ep124, h⟩ := nb_e h
    obtain ⟨E124, eE124, h⟩ := nb_e h
    obtain ⟨M124, eM124, h⟩ := nb_e h
    refine m_newO (ci := 8) (C := "Ballothall$Natural") (T := TX8) (n := 2) hx hb hts iX8 tyX8_ok hown w_287 w_289 w_9 rfl (fun _ => fsX8) hG hP hD hS hA (show _ ≤ mc by omega) (show _ ≤ ms by omega) d_5_1_99 (fun ad124 H hag124 hP hD hS => ?_)
    have hP : va_P z.1 classes (wv z ad124 E124 M124) H := by rw [eE124, eM124]; exact hP
    have hD : va_D A (wv z ad124 E124 M124) := by rw [eE124, eM124]; exact hD
    refine W.eq (g2 := F0 m 102 ls (.ref (ad124 p124) :: [.ref (ad124 p0)])) (by rw [ep124, hag124 p0 h_p0.1] <;> rfl) ?_
    have hl : lv_has ls 3 [(0, .ref (ad124 p0)), (1, .ref (ad124 p1))] := by rw [hag124 p0 h_p0.1, hag124 p1 h_p1.1]; exact hl
    have hgw124 : Gw E123 E124 := by rw [eE124]; exact gw_new _ _
    have hag0 : ∀ i, i < nE E0 → ad124 i = ad0 i := fun i hi => (hag124 i (Nat.lt_of_lt_of_le hi hE0)).trans (hag0 i hi)
    have hE0 : nE E0 ≤ nE E124 := Nat.le_trans hE0 hgw124.1
    have h_p0 : isO 3 E124 p0 := isO_up hgw124 h_p0
    have h_p1 : isO 0 E124 p1 := isO_up hgw124 h_p1
    have h_p124 : isO 8 E124 p124 := by rw [ep124, eE124]; exact ⟨new_i _ _, new_T _ _⟩
    refine lv_dup hx hb d_5_1_102 rfl ?_
    obtain ⟨⟨E125, M125⟩, g125, h⟩ := bd_e h
    obtain ⟨hgw125, h⟩ := ck_e h
    refine kIN (As := []) (rest := [.ref (ad124 p124), .ref (ad124 p0)]) (s_Na_init l z ad124 E124 M124 p124 E125 M125 g125) hx hb hml hown hts w_292 n_290 w_291 rfl w_9 md_72d9bf ⟨Nat.le_of_ble_eq_true rfl, Nat.le_of_ble_eq_true rfl⟩ hG hZ hP hD hS hA rfl hl.1 rfl (Nat.le_of_ble_eq_true rfl) d_5_1_103 ⟨(show _ ≤ mc by omega), (show _ ≤ ms by omega)⟩ (fun u125 H locs hP hD hS => ?_)
    obtain ⟨ad125, had125⟩ : ∃ q, q = adj E124 ad124 u125 := ⟨_, rfl⟩
    have hP : va_P z.1 classes (wv z ad125 E125 M125) H := by rw [had125]; exact hP
    have hD : va_D A (wv z ad125 E125 M125) := by rw [had125]; exact hD
    have hag125 : ∀ i, i < nE E124 → ad125 i = ad124 i := fun i hi => by rw [had125]; exact adj_lt hi
    have hl : lv_has ls 3 [(0, .ref (ad125 p0)), (1, .ref (ad125 p1))] := by rw [hag125 p0 h_p0.1, hag125 p1 h_p1.1]; exact hl
    refine W.eq (g2 := F0 m 106 ls [.ref (ad125 p124), .ref (ad125 p0)]) (by rw [hag125 p124 h_p124.1, hag125 p0 h_p0.1] <;> rfl) ?_
    have hag0 : ∀ i, i < nE E0 → ad125 i = ad0 i := fun i hi => (hag125 i (Nat.lt_of_lt_of_le hi hE0)).trans (hag0 i hi)
    have hE0 : nE E0 ≤ nE E125 := Nat.le_trans hE0 hgw125.1
    have h_p0 : isO 3 E125 p0 := isO_up hgw125 h_p0
    have h_p1 : isO 0 E125 p1 := isO_up hgw125 h_p1
    have h_p124 : isO 8 E125 p124 := isO_up hgw125 h_p124
    obtain ⟨E126, eE126, h⟩ := nb_e h
    refine m_prF (C := "Ballothall$Counting") (T := TX3) (N := 15) (ci := 3) (k := 12) (ty := (.object "Ballothall$Natural")) hx hb hts iX3 hown hG hP hD hS h_p0.1 h_p0.2 rfl (by decide) w_317 (fun _ h9 => h9) rfl rfl tyX3_ok nmX3 rfl hin rfl (by decide +kernel) h_p124.1 (fun _ => rfl) (fun _ => rfl) d_5_1_106 (fun H locs hP hD hS => ?_)
    have hP : va_P z.1 classes (wv z ad125 E126 M125) H := by rw [eE126]; exact hP
    have hD : va_D A (wv z ad125 E126 M125) := by rw [eE126]; exact hD
    have hgw126 : Gw E125 E126 := by rw [eE126]; exact gw_ref _ _ _ _
    have hE0 : nE E0 ≤ nE E126 := Nat.le_trans hE0 hgw126.1
    have h_p0 : isO 3 E126 p0 := isO_up hgw126 h_p0
    have h_p1 : isO 0 E126 p1 := isO_up hgw126 h_p1
    refine W.eq (g2 := F0 m 109 ls []) rfl ?_
    refine lv_aload_n hx hb d_5_1_109 rfl (lv_at hl 0 rfl) ?_
    obtain ⟨p127, ep127, h⟩ := nb_e h
    obtain ⟨E127, eE127, h⟩ := nb_e h
    obtain ⟨M127, eM127, h⟩ := nb_e h
    refine m_newO (ci := 8) (C := "Ballothall$Natural") (T := TX8) (n := 2) hx hb hts iX8 tyX8_ok hown w_287 w_289 w_9 rfl (fun _ => fsX8) hG hP hD hS hA (show _ ≤ mc by omega) (show _ ≤ ms by omega) d_5_1_110 (fun ad127 H hag127 hP hD hS => ?_)
    have hP : va_P z.1 classes (wv z ad127 E127 M127) H := by rw [eE127, eM127]; exact hP
    have hD : va_D A (wv z ad127 E127 M127) := by rw [eE127, eM127]; exact hD
    refine W.eq (g2 := F0 m 113 ls (.ref (ad127 p127) :: [.ref (ad127 p0)])) (by rw [ep127, hag127 p0 h_p0.1] <;> rfl) ?_
    have hl : lv_has ls 3 [(0, .ref (ad127 p0)), (1, .ref (ad127 p1))] := by rw [hag127 p0 h_p0.1, hag127 p1 h_p1.1]; exact hl
    have hgw127 : Gw E126 E127 := by rw [eE127]; exact gw_new _ _
    have hag0 : ∀ i, i < nE E0 → ad127 i = ad0 i := fun i hi => (hag127 i (Nat.lt_of_lt_of_le hi hE0)).trans (hag0 i hi)
    have hE0 : nE E0 ≤ nE E127 := Nat.le_trans hE0 hgw127.1
    have h_p0 : isO 3 E127 p0 := isO_up hgw127 h_p0
    have h_p1 : isO 0 E127 p1 := isO_up hgw127 h_p1
    have h_p127 : isO 8 E127 p127 := by rw [ep127, eE127]; exact ⟨new_i _ _, new_T _ _⟩
    refine lv_dup hx hb d_5_1_113 rfl ?_
    obtain ⟨⟨E128, M128⟩, g128, h⟩ := bd_e h
    obtain ⟨hgw128, h⟩ := ck_e h
    refine kIN (As := []) (rest := [.ref (ad127 p127), .ref (ad127 p0)]) (s_Na_init l z ad127 E127 M127 p127 E128 M128 g128) hx hb hml hown hts w_292 n_290 w_291 rfl w_9 md_72d9bf ⟨Nat.le_of_ble_eq_true rfl, Nat.le_of_ble_eq_true rfl⟩ hG hZ hP hD hS hA rfl hl.1 rfl (Nat.le_of_ble_eq_true rfl) d_5_1_114 ⟨(show _ ≤ mc by omega), (show _ ≤ ms by omega)⟩ (fun u128 H locs hP hD hS => ?_)
    obtain ⟨ad128, had128⟩ : ∃ q, q = adj E127 ad127 u128 := ⟨_, rfl⟩
    have hP : va_P z.1 classes (wv z ad128 E128 M128) H := by rw [had128]; exact hP
    have hD : va_D A (wv z ad128 E128 M128) := by rw [had128]; exact hD
    have hag128 : ∀ i, i < nE E127 → ad128 i = ad127 i := fun i hi => by rw [had128]; exact adj_lt hi
    have hl : lv_has ls 3 [(0, .ref (ad128 p0)), (1, .ref (ad128 p1))] := by rw [hag128 p0 h_p0.1, hag128 p1 h_p1.1]; exact hl
    refine W.eq (g2 := F0 m 117 ls [.ref (ad128 p127), .ref (ad128 p0)]) (by rw [hag128 p127 h_p127.1, hag128 p0 h_p0.1] <;> rfl) ?_
    have hag0 : ∀ i, i < nE E0 → ad128 i = ad0 i := fun i hi => (hag128 i (Nat.lt_of_lt_of_le hi hE0)).trans (hag0 i hi)
    have hE0 : nE E0 ≤ nE E128 := Nat.le_trans hE0 hgw128.1
    have h_p0 : isO 3 E128 p0 := isO_up hgw128 h_p0
    have h_p1 : isO 0 E128 p1 := isO_up hgw128 h_p1
    have h_p127 : isO 8 E128 p127 := isO_up hgw128 h_p127
    obtain ⟨E129, eE129, h⟩ := nb_e h
    refine m_prF (C := "Ballothall$Counting") (T := TX3) (N := 15) (ci := 3) (k := 13) (ty := (.object "Ballothall$Natural")) hx hb hts iX3 hown hG hP hD hS h_p0.1 h_p0.2 rfl (by decide) w_318 (fun _ h9 => h9) rfl rfl tyX3_ok nmX3 rfl hin rfl (by decide +kernel) h_p127.1 (fun _ => rfl) (fun _ => rfl) d_5_1_117 (fun H locs hP hD hS => ?_)
    have hP : va_P z.1 classes (wv z ad128 E129 M128) H := by rw [eE129]; exact hP
    have hD : va_D A (wv z ad128 E129 M128) := by rw [eE129]; exact hD
    have hgw129 : Gw E128 E129 := by rw [eE129]; exact gw_ref _ _ _ _
    have hE0 : nE E0 ≤ nE E129 := Nat.le_trans hE0 hgw129.1
    have h_p0 : isO 3 E129 p0 := isO_up hgw129 h_p0
    have h_p1 : isO 0 E129 p1 := isO_up hgw129 h_p1
    refine W.eq (g2 := F0 m 120 ls []) rfl ?_
    refine lv_aload_n hx hb d_5_1_120 rfl (lv_at hl 0 rfl) ?_
    obtain ⟨p130, ep130, h⟩ := nb_e h
    obtain ⟨E130, eE130, h⟩ := nb_e h
    obtain ⟨M130, eM130, h⟩ := nb_e h
    refine m_newO (ci := 8) (C := "Ballothall$Natural") (T := TX8) (n := 2) hx hb hts iX8 tyX8_ok hown w_287 w_289 w_9 rfl (fun _ => fsX8) hG hP hD hS hA (show _ ≤ mc by omega) (show _ ≤ ms by omega) d_5_1_121 (fun ad130 H hag130 hP hD hS => ?_)
    have hP : va_P z.1 classes (wv z ad130 E130 M130) H := by rw [eE130, eM130]; exact hP
    have hD : va_D A (wv z ad130 E130 M130) := by rw [eE130, eM130]; exact hD
    refine W.eq (g2 := F0 m 124 ls (.ref (ad130 p130) :: [.ref (ad130 p0)])) (by rw [ep130, hag130 p0 h_p0.1] <;> rfl) ?_
    have hl : lv_has ls 3 [(0, .ref (ad130 p0)), (1, .ref (ad130 p1))] := by rw [hag130 p0 h_p0.1, hag130 p1 h_p1.1]; exact hl
    have hgw130 : Gw E129 E130 := by rw [eE130]; exact gw_new _ _
    have hag0 : ∀ i, i < nE E0 → ad130 i = ad0 i := fun i hi => (hag130 i (Nat.lt_of_lt_of_le hi hE0)).trans (hag0 i hi)
    have hE0 : nE E0 ≤ nE E130 := Nat.le_trans hE0 hgw130.1
    have h_p0 : isO 3 E130 p0 := isO_up hgw130 h_p0
    have h_p1 : isO 0 E130 p1 := isO_up hgw130 h_p1
    have h_p130 : isO 8 E130 p130 := by rw [ep130, eE130]; exact ⟨new_i _ _, new_T _ _⟩
    refine lv_dup hx hb d_5_1_124 rfl ?_
    obtain ⟨⟨E131, M131⟩, g131, h⟩ := bd_e h
    obtain ⟨hgw131, h⟩ := ck_e h
    refine kIN (As := []) (rest := [.ref (ad130 p130), .ref (ad130 p0)]) (s_Na_init l z ad130 E130 M130 p130 E131 M131 g131) hx hb hml hown hts w_292 n_290 w_291 rfl w_9 md_72d9bf ⟨Nat.le_of_ble_eq_true rfl, Nat.le_of_ble_eq_true rfl⟩ hG hZ hP hD hS hA rfl hl.1 rfl (Nat.le_of_ble_eq_true rfl) d_5_1_125 ⟨(show _ ≤ mc by omega), (show _ ≤ ms by omega)⟩ (fun u131 H locs hP hD hS => ?_)
    obtain ⟨ad131, had131⟩ : ∃ q, q = adj E130 ad130 u131 := ⟨_, rfl⟩
    have hP : va_P z.1 classes (wv z ad131 E131 M131) H := by rw [had131]; exact hP
    have hD : va_D A (wv z ad131 E131 M131) := by rw [had131]; exact hD
    have hag131 : ∀ i, i < nE E130 → ad131 i = ad130 i := fun i hi => by rw [had131]; exact adj_lt hi
    have hl : lv_has ls 3 [(0, .ref (ad131 p0)), (1, .ref (ad131 p1))] := by rw [hag131 p0 h_p0.1, hag131 p1 h_p1.1]; exact hl
    refine W.eq (g2 := F0 m 128 ls [.ref (ad131 p130), .ref (ad131 p0)]) (by rw [hag131 p130 h_p130.1, hag131 p0 h_p0.1] <;> rfl) ?_
    have hag0 : ∀ i, i < nE E0 → ad131 i = ad0 i := fun i hi => (hag131 i (Nat.lt_of_lt_of_le hi hE0)).trans (hag0 i hi)
    have hE0 : nE E0 ≤ nE E131 := Nat.le_trans hE0 hgw131.1
    have h_p0 : isO 3 E131 p0 := isO_up hgw131 h_p0
    have h_p1 : isO 0 E131 p1 := isO_up hgw131 h_p1
    have h_p130 : isO 8 E131 p130 := isO_up hgw131 h_p130
    obtain ⟨E132, eE132, h⟩ := nb_e h
    refine m_prF (C := "Ballothall$Counting") (T := TX3) (N := 15) (ci := 3) (k := 14) (ty := (.object "Ballothall$Natural")) hx hb hts iX3 hown hG hP hD hS h_p0.1 h_p0.2 rfl (by decide) w_319 (fun _ h9 => h9) rfl rfl tyX3_ok nmX3 rfl hin rfl (by decide +kernel) h_p130.1 (fun _ => rfl) (fun _ => rfl) d_5_1_128 (fun H locs hP hD hS => ?_)
    have hP : va_P z.1 classes (wv z ad131 E132 M131) H := by rw [eE132]; exact hP
    have hD : va_D A (wv z ad131 E132 M131) := by rw [eE132]; exact hD
    have hgw132 : Gw E131 E132 := by rw [eE132]; exact gw_ref _ _ _ _
    have hE0 : nE E0 ≤ nE E132 := Nat.le_trans hE0 hgw132.1
    have h_p0 : isO 3 E132 p0 := isO_up hgw132 h_p0
    have h_p1 : isO 0 E132 p1 := isO_up hgw132 h_p1
    refine W.eq (g2 := F0 m 131 ls []) rfl ?_
    refine lv_aload_n hx hb d_5_1_131 rfl (lv_at hl 0 rfl) ?_
    refine lv_aload_n hx hb d_5_1_132 rfl (lv_at hl 1 rfl) ?_
    obtain ⟨E133, eE133, h⟩ := nb_e h
    refine m_prF (C := "Ballothall$Counting") (T := TX3) (N := 15) (ci := 3) (k := 0) (ty := (.object "Ballothall$BallotBox")) hx hb hts iX3 hown hG hP hD hS h_p0.1 h_p0.2 rfl (by decide) w_303 (fun _ h9 => h9) rfl rfl tyX3_ok nmX3 rfl hin rfl (by decide +kernel) h_p1.1 (fun _ => rfl) (fun _ => rfl) d_5_1_133 (fun H locs hP hD hS => ?_)
    have hP : va_P z.1 classes (wv z ad131 E133 M131) H := by rw [eE133]; exact hP
    have hD : va_D A (wv z ad131 E133 M131) := by rw [eE133]; exact hD
    have hgw133 : Gw E132 E133 := by rw [eE133]; exact gw_ref _ _ _ _
    have hE0 : nE E0 ≤ nE E133 := Nat.le_trans hE0 hgw133.1
    have h_p0 : isO 3 E133 p0 := isO_up hgw133 h_p0
    have h_p1 : isO 0 E133 p1 := isO_up hgw133 h_p1
    refine W.eq (g2 := F0 m 136 ls []) rfl ?_
    refine lv_iconst (v := oI 0) hx hb d_5_1_136 (by decide +kernel) ?_
    refine lv_istore_n (lv' := [(2, .int (oI 0)), (0, .ref (ad131 p0)), (1, .ref (ad131 p1))]) hx hb d_5_1_137 rfl hl (by decide) rfl (fun ls hl => ?_)
    obtain ⟨⟨t140, v140_2, E140, M140⟩, g140, h⟩ := bd_e h
    obtain ⟨hgw140, h⟩ := ck_e h
    obtain ⟨ok140, h⟩ := ck_e h
    refine s_Co_init_138 l z E133 ad131 p0 hx hb hml hts hown hlocks hA hG hZ mc ms (c0 + 85) (s0 + 885) (by omega) (by omega) 32 _ _ ad131 E133 M131 0 t140 v140_2 E140 M140 (by omega) (by omega) (fun _ _ => rfl) (Nat.le_refl _) g140 (fun ad140 hag140 hEE140 e140 H locs ls hP hD hS hl => ?_) H locs ls hP hD hS (lv_sub hl [1, 0] rfl)
    have hag0 : ∀ i, i < nE E0 → ad140 i = ad0 i := fun i hi => (hag140 i (Nat.lt_of_lt_of_le hi hE0)).trans (hag0 i hi)
    have hE0 : nE E0 ≤ nE E140 := Nat.le_trans hE0 hgw140.1
    refine W.wide (k := c1) (n := s1) (by omega) (by omega) ?_
    obtain ⟨rfl, rfl⟩ := in2 h
    exact W.vret hx hb hr (fun t ht hW => qkA hP hD hS ad140 (congrArg (fun q => wv z q E140 M140) (adj_self hag0).symm) rfl ht) hS.2.2 d_5_1_163
  exact key E ad 85 885 0 0 85 885 _ _ _ (by decide) (by decide) (by decide) (by decide) (fun _ _ => rfl) (Nat.le_refl _) hts hP hS
set_option maxRecDepth 100000 in
set_option maxHeartbeats 4000000 in
theorem s_Wa_init (l : Launch) (z : Zz) (ad : Nat → Nat) (E : Ev) (M : Mm) (p0 : Nat) (F : Ev) (N : Mm) (h : f_Wa_init E M p0 = some (F, N)) : CT l z ⟨"Ballothall$Wards", "<init>", "()V"⟩ prog_12_method_1_code 1 none [.ref (ad p0)] (wv z ad E M) 1 40 23 355 (fun u => none) (fun u => wv z (adj E ad u) F N) := by
  refine CT.of (own := "Ballothall$Wards") (by decide +kernel) (Nat.le_of_ble_eq_true rfl) rfl (fun p e s m below meth c A ls hx hb hml hr hts hown hlocks hin hA hG hZ hP hD hS hl => ?_)
  have hl : lv_has ls 1 [(0, .ref (ad p0))] := hl
  have key : ∀ (E0 : Ev) (ad0 : Nat → Nat) (mc ms c0 s0 c1 s1 : Nat) (H : Heap) (locs : List Loc) (args : Array Value), c0 + 23 ≤ c1 → s0 + 355 ≤ s1 → c1 ≤ mc → s1 ≤ ms → (∀ i, i < nE E0 → ad i = ad0 i) → nE E0 ≤ nE E → (∀ w ∈ WG, w.before args s = true) → va_P z.1 classes (wv z ad E M) H → va_S A s.heap H locs → W p l e (rmK 1 40 mc ms) s m args below meth c H locs c0 s0 (MQ below (QK z A (fun u => none) (fun u => wv z (adj E0 ad0 u) F N)) args s c1 s1 A) (F0 m 0 ls []) := by
    intro E0 ad0 mc ms c0 s0 c1 s1 H locs args hc hs hm hm2 hag0 hE0 hts hP hS
    unfold f_Wa_init at h
    obtain ⟨h_p0, h⟩ := ck_e h
    refine lv_aload_n hx hb d_12_1_0 rfl (lv_at hl 0 rfl) ?_
    refine W.objInit hx hb hown (hts _ w_356) (hts _ w_38) (hts _ w_obj) rfl (by rw [hml]; exact hl.1) rfl d_12_1_1 (Nat.le_of_ble_eq_true rfl) (Nat.le_of_ble_eq_true rfl) ?_
    refine W.eq (g2 := F0 m 4 ls []) rfl ?_
    refine lv_aload_n hx hb d_12_1_4 rfl (lv_at hl 0 rfl) ?_
    refine lv_bipush (v := oI 16) hx hb d_12_1_5 (by decide +kernel) ?_
    obtain ⟨p100, ep100, h⟩ := nb_e h
    obtain ⟨E100, eE100, h⟩ := nb_e h
    obtain ⟨M100, eM100, h⟩ := nb_e h
    refine m_newI (x := (16 : Int)) (N := 16) hx hb (by decide) (by decide) (by decide) (hts _ w_100) hG hP hD hS hA (show _ ≤ mc by omega) (show _ ≤ ms by omega) d_12_1_7 (fun ad100 H hag100 hP hD hS => ?_)
    have hP : va_P z.1 classes (wv z ad100 E100 M100) H := by rw [eE100, eM100]; exact hP
    have hD : va_D A (wv z ad100 E100 M100) := by rw [eE100, eM100]; exact hD
    refine W.eq (g2 := F0 m 9 ls (.ref (ad100 p100) :: [.ref (ad100 p0)])) (by rw [ep100, hag100 p0 h_p0.1] <;> rfl) ?_
    have hl : lv_has ls 1 [(0, .ref (ad100 p0))] := by rw [hag100 p0 h_p0.1]; exact hl
    have hgw100 : Gw E E100 := by rw [eE100]; exact gw_new _ _
    have hag0 : ∀ i, i < nE E0 → ad100 i = ad0 i := fun i hi => (hag100 i (Nat.lt_of_lt_of_le hi hE0)).trans (hag0 i hi)
    have hE0 : nE E0 ≤ nE E100 := Nat.le_trans hE0 hgw100.1
    have h_p0 : isO 10 E100 p0 := isO_up hgw100 h_p0
    have h_p100 : isIA E100 p100 := by rw [ep100, eE100]; exact ⟨new_i _ _, by rw [new_T]⟩
    obtain ⟨E101, eE101, h⟩ := nb_e h
    refine m_prF (C := "Ballothall$Wards") (T := TX10) (N := 5) (ci := 10) (k := 1) (ty := (.array .int)) hx hb hts iX10 hown hG hP hD hS h_p0.1 h_p0.2 rfl (by decide) w_360 (fun _ h9 => h9) rfl rfl tyX10_ok nmX10 rfl hin rfl (by decide +kernel) h_p100.1 (fun _ => rfl) (fun _ => rfl) d_12_1_9 (fun H locs hP hD hS => ?_)
    have hP : va_P z.1 classes (wv z ad100 E101 M100) H := by rw [eE101]; exact hP
    have hD : va_D A (wv z ad100 E101 M100) := by rw [eE101]; exact hD
    have hgw101 : Gw E100 E101 := by rw [eE101]; exact gw_ref _ _ _ _
    have hE0 : nE E0 ≤ nE E101 := Nat.le_trans hE0 hgw101.1
    have h_p0 : isO 10 E101 p0 := isO_up hgw101 h_p0
    refine W.eq (g2 := F0 m 12 ls []) rfl ?_
    refine lv_aload_n hx hb d_12_1_12 rfl (lv_at hl 0 rfl) ?_
    refine lv_iconst (v := oI 2) hx hb d_12_1_13 (by decide +kernel) ?_
    refine lv_bipush (v := oI 16) hx hb d_12_1_14 (by decide +kernel) ?_
    obtain ⟨p102, ep102, h⟩ := nb_e h
    obtain ⟨E102, eE102, h⟩ := nb_e h
    obtain ⟨M102, eM102, h⟩ := nb_e h
    refine m_grid (x := (2 : Int)) (y := (16 : Int)) (N := 2) (K := 16) hx hb (by decide) (by decide) (by decide) (by decide) (by decide) (by decide) hown (hts _ w_357) (hts _ w_100) hG hP hD hS hA (show _ ≤ mc by omega) (show _ ≤ ms by omega) d_12_1_16 (fun ad102 H hag102 hP hD hS => ?_)
    have hP : va_P z.1 classes (wv z ad102 E102 M102) H := by rw [eE102, eM102]; exact hP
    have hD : va_D A (wv z ad102 E102 M102) := by rw [eE102, eM102]; exact hD
    refine W.eq (g2 := F0 m 20 ls (.ref (ad102 p102) :: [.ref (ad102 p0)])) (by rw [ep102, hag102 p0 h_p0.1] <;> rfl) ?_
    have hl : lv_has ls 1 [(0, .ref (ad102 p0))] := by rw [hag102 p0 h_p0.1]; exact hl
    have hgw102 : Gw E101 E102 := by rw [eE102]; exact gw_grid _ _ _
    have hag0 : ∀ i, i < nE E0 → ad102 i = ad0 i := fun i hi => (hag102 i (Nat.lt_of_lt_of_le hi hE0)).trans (hag0 i hi)
    have hE0 : nE E0 ≤ nE E102 := Nat.le_trans hE0 hgw102.1
    have h_p0 : isO 10 E102 p0 := isO_up hgw102 h_p0
    have h_p102 : isQ 6 E102 p102 := by rw [ep102, eE102]; exact ⟨grid_i _ _ _, by rw [grid_T]⟩
    obtain ⟨E103, eE103, h⟩ := nb_e h
    refine m_prF (C := "Ballothall$Wards") (T := TX10) (N := 5) (ci := 10) (k := 2) (ty := (.array (.array .int))) hx hb hts iX10 hown hG hP hD hS h_p0.1 h_p0.2 rfl (by decide) w_361 (fun _ h9 => h9) rfl rfl tyX10_ok nmX10 rfl hin rfl (by decide +kernel) h_p102.1 (fun _ => rfl) (fun _ => rfl) d_12_1_20 (fun H locs hP hD hS => ?_)
    have hP : va_P z.1 classes (wv z ad102 E103 M102) H := by rw [eE103]; exact hP
    have hD : va_D A (wv z ad102 E103 M102) := by rw [eE103]; exact hD
    have hgw103 : Gw E102 E103 := by rw [eE103]; exact gw_ref _ _ _ _
    have hE0 : nE E0 ≤ nE E103 := Nat.le_trans hE0 hgw103.1
    have h_p0 : isO 10 E103 p0 := isO_up hgw103 h_p0
    refine W.eq (g2 := F0 m 23 ls []) rfl ?_
    refine lv_aload_n hx hb d_12_1_23 rfl (lv_at hl 0 rfl) ?_
    refine lv_bipush (v := oI 17) hx hb d_12_1_24 (by decide +kernel) ?_
    refine lv_bipush (v := oI 16) hx hb d_12_1_26 (by decide +kernel) ?_
    obtain ⟨p104, ep104, h⟩ := nb_e h
    obtain ⟨E104, eE104, h⟩ := nb_e h
    obtain ⟨M104, eM104, h⟩ := nb_e h
    refine m_grid (x := (17 : Int)) (y := (16 : Int)) (N := 17) (K := 16) hx hb (by decide) (by decide) (by decide) (by decide) (by decide) (by decide) hown (hts _ w_357) (hts _ w_100) hG hP hD hS hA (show _ ≤ mc by omega) (show _ ≤ ms by omega) d_12_1_28 (fun ad104 H hag104 hP hD hS => ?_)
    have hP : va_P z.1 classes (wv z ad104 E104 M104) H := by rw [eE104, eM104]; exact hP
    have hD : va_D A (wv z ad104 E104 M104) := by rw [eE104, eM104]; exact hD
    refine W.eq (g2 := F0 m 32 ls (.ref (ad104 p104) :: [.ref (ad104 p0)])) (by rw [ep104, hag104 p0 h_p0.1] <;> rfl) ?_
    have hl : lv_has ls 1 [(0, .ref (ad104 p0))] := by rw [hag104 p0 h_p0.1]; exact hl
    have hgw104 : Gw E103 E104 := by rw [eE104]; exact gw_grid _ _ _
    have hag0 : ∀ i, i < nE E0 → ad104 i = ad0 i := fun i hi => (hag104 i (Nat.lt_of_lt_of_le hi hE0)).trans (hag0 i hi)
    have hE0 : nE E0 ≤ nE E104 := Nat.le_trans hE0 hgw104.1
    have h_p0 : isO 10 E104 p0 := isO_up hgw104 h_p0
    have h_p104 : isQ 6 E104 p104 := by rw [ep104, eE104]; exact ⟨grid_i _ _ _, by rw [grid_T]⟩
    obtain ⟨E105, eE105, h⟩ := nb_e h
    refine m_prF (C := "Ballothall$Wards") (T := TX10) (N := 5) (ci := 10) (k := 3) (ty := (.array (.array .int))) hx hb hts iX10 hown hG hP hD hS h_p0.1 h_p0.2 rfl (by decide) w_362 (fun _ h9 => h9) rfl rfl tyX10_ok nmX10 rfl hin rfl (by decide +kernel) h_p104.1 (fun _ => rfl) (fun _ => rfl) d_12_1_32 (fun H locs hP hD hS => ?_)
    have hP : va_P z.1 classes (wv z ad104 E105 M104) H := by rw [eE105]; exact hP
    have hD : va_D A (wv z ad104 E105 M104) := by rw [eE105]; exact hD
    have hgw105 : Gw E104 E105 := by rw [eE105]; exact gw_ref _ _ _ _
    have hE0 : nE E0 ≤ nE E105 := Nat.le_trans hE0 hgw105.1
    have h_p0 : isO 10 E105 p0 := isO_up hgw105 h_p0
    refine W.eq (g2 := F0 m 35 ls []) rfl ?_
    refine lv_aload_n hx hb d_12_1_35 rfl (lv_at hl 0 rfl) ?_
    refine lv_bipush (v := oI 16) hx hb d_12_1_36 (by decide +kernel) ?_
    obtain ⟨p106, ep106, h⟩ := nb_e h
    obtain ⟨E106, eE106, h⟩ := nb_e h
    obtain ⟨M106, eM106, h⟩ := nb_e h
    refine m_newI (x := (16 : Int)) (N := 16) hx hb (by decide) (by decide) (by decide) (hts _ w_100) hG hP hD hS hA (show _ ≤ mc by omega) (show _ ≤ ms by omega) d_12_1_38 (fun ad106 H hag106 hP hD hS => ?_)
    have hP : va_P z.1 classes (wv z ad106 E106 M106) H := by rw [eE106, eM106]; exact hP
    have hD : va_D A (wv z ad106 E106 M106) := by rw [eE106, eM106]; exact hD
    refine W.eq (g2 := F0 m 40 ls (.ref (ad106 p106) :: [.ref (ad106 p0)])) (by rw [ep106, hag106 p0 h_p0.1] <;> rfl) ?_
    have hl : lv_has ls 1 [(0, .ref (ad106 p0))] := by rw [hag106 p0 h_p0.1]; exact hl
    have hgw106 : Gw E105 E106 := by rw [eE106]; exact gw_new _ _
    have hag0 : ∀ i, i < nE E0 → ad106 i = ad0 i := fun i hi => (hag106 i (Nat.lt_of_lt_of_le hi hE0)).trans (hag0 i hi)
    have hE0 : nE E0 ≤ nE E106 := Nat.le_trans hE0 hgw106.1
    have h_p0 : isO 10 E106 p0 := isO_up hgw106 h_p0
    have h_p106 : isIA E106 p106 := by rw [ep106, eE106]; exact ⟨new_i _ _, by rw [new_T]⟩
    obtain ⟨E107, eE107, h⟩ := nb_e h
    refine m_prF (C := "Ballothall$Wards") (T := TX10) (N := 5) (ci := 10) (k := 4) (ty := (.array .int)) hx hb hts iX10 hown hG hP hD hS h_p0.1 h_p0.2 rfl (by decide) w_363 (fun _ h9 => h9) rfl rfl tyX10_ok nmX10 rfl hin rfl (by decide +kernel) h_p106.1 (fun _ => rfl) (fun _ => rfl) d_12_1_40 (fun H locs hP hD hS => ?_)
    have hP : va_P z.1 classes (wv z ad106 E107 M106) H := by rw [eE107]; exact hP
    have hD : va_D A (wv z ad106 E107 M106) := by rw [eE107]; exact hD
    have hgw107 : Gw E106 E107 := by rw [eE107]; exact gw_ref _ _ _ _
    have hE0 : nE E0 ≤ nE E107 := Nat.le_trans hE0 hgw107.1
    have h_p0 : isO 10 E107 p0 := isO_up hgw107 h_p0
    refine W.eq (g2 := F0 m 43 ls []) rfl ?_
    refine W.wide (k := c1) (n := s1) (by omega) (by omega) ?_
    obtain ⟨rfl, rfl⟩ := in2 h
    exact W.vret hx hb hr (fun t ht hW => qkA hP hD hS ad106 (congrArg (fun q => wv z q E107 M106) (adj_self hag0).symm) rfl ht) hS.2.2 d_12_1_43
  exact key E ad 23 355 0 0 23 355 _ _ _ (by decide) (by decide) (by decide) (by decide) (fun _ _ => rfl) (Nat.le_refl _) hts hP hS
set_option maxRecDepth 100000 in
set_option maxHeartbeats 4000000 in
theorem s_Cl_init (l : Launch) (z : Zz) (ad : Nat → Nat) (E : Ev) (M : Mm) (p0 : Nat) (F : Ev) (N : Mm) (h : f_Cl_init E M p0 = some (F, N)) : CT l z ⟨"Ballothall$Council", "<init>", "()V"⟩ prog_3_method_1_code 1 none [.ref (ad p0)] (wv z ad E M) 1 40 2 4108 (fun u => none) (fun u => wv z (adj E ad u) F N) := by
  refine CT.of (own := "Ballothall$Council") (by decide +kernel) (Nat.le_of_ble_eq_true rfl) rfl (fun p e s m below meth c A ls hx hb hml hr hts hown hlocks hin hA hG hZ hP hD hS hl => ?_)
  have hl : lv_has ls 1 [(0, .ref (ad p0))] := hl
  have key : ∀ (E0 : Ev) (ad0 : Nat → Nat) (mc ms c0 s0 c1 s1 : Nat) (H : Heap) (locs : List Loc) (args : Array Value), c0 + 2 ≤ c1 → s0 + 4108 ≤ s1 → c1 ≤ mc → s1 ≤ ms → (∀ i, i < nE E0 → ad i = ad0 i) → nE E0 ≤ nE E → (∀ w ∈ WG, w.before args s = true) → va_P z.1 classes (wv z ad E M) H → va_S A s.heap H locs → W p l e (rmK 1 40 mc ms) s m args below meth c H locs c0 s0 (MQ below (QK z A (fun u => none) (fun u => wv z (adj E0 ad0 u) F N)) args s c1 s1 A) (F0 m 0 ls []) := by
    intro E0 ad0 mc ms c0 s0 c1 s1 H locs args hc hs hm hm2 hag0 hE0 hts hP hS
    unfold f_Cl_init at h
    obtain ⟨h_p0, h⟩ := ck_e h
    refine lv_aload_n hx hb d_3_1_0 rfl (lv_at hl 0 rfl) ?_
    refine W.objInit hx hb hown (hts _ w_381) (hts _ w_38) (hts _ w_obj) rfl (by rw [hml]; exact hl.1) rfl d_3_1_1 (Nat.le_of_ble_eq_true rfl) (Nat.le_of_ble_eq_true rfl) ?_
    refine W.eq (g2 := F0 m 4 ls []) rfl ?_
    refine lv_aload_n hx hb d_3_1_4 rfl (lv_at hl 0 rfl) ?_
    refine lv_iconst (v := oI 1) hx hb d_3_1_5 (by decide +kernel) ?_
    refine m_pi (C := "Ballothall$Council") (T := TX1) (N := 4) (ci := 1) (k := 1) (ty := .int) hx hb hts iX1 hown hG hP hD hS h_p0.1 h_p0.2 rfl (by decide) w_384 (fun _ h9 => h9) rfl rfl tyX1_ok nmX1 rfl (by decide +kernel) rfl rfl d_3_1_6 (fun H locs hP hD hS => ?_)
    have hP : va_P z.1 classes (wv z ad E (u2 M p0 1 1)) H := hP
    have hD : va_D A (wv z ad E (u2 M p0 1 1)) := hD
    refine lv_aload_n hx hb d_3_1_9 rfl (lv_at hl 0 rfl) ?_
    refine lv_bipush (v := oI 12) hx hb d_3_1_10 (by decide +kernel) ?_
    obtain ⟨p100, ep100, h⟩ := nb_e h
    obtain ⟨E100, eE100, h⟩ := nb_e h
    obtain ⟨M100, eM100, h⟩ := nb_e h
    refine m_newI (x := (12 : Int)) (N := 12) hx hb (by decide) (by decide) (by decide) (hts _ w_100) hG hP hD hS hA (show _ ≤ mc by omega) (show _ ≤ ms by omega) d_3_1_12 (fun ad100 H hag100 hP hD hS => ?_)
    have hP : va_P z.1 classes (wv z ad100 E100 M100) H := by rw [eE100, eM100]; exact hP
    have hD : va_D A (wv z ad100 E100 M100) := by rw [eE100, eM100]; exact hD
    refine W.eq (g2 := F0 m 14 ls (.ref (ad100 p100) :: [.ref (ad100 p0)])) (by rw [ep100, hag100 p0 h_p0.1] <;> rfl) ?_
    have hl : lv_has ls 1 [(0, .ref (ad100 p0))] := by rw [hag100 p0 h_p0.1]; exact hl
    have hgw100 : Gw E E100 := by rw [eE100]; exact gw_new _ _
    have hag0 : ∀ i, i < nE E0 → ad100 i = ad0 i := fun i hi => (hag100 i (Nat.lt_of_lt_of_le hi hE0)).trans (hag0 i hi)
    have hE0 : nE E0 ≤ nE E100 := Nat.le_trans hE0 hgw100.1
    have h_p0 : isO 1 E100 p0 := isO_up hgw100 h_p0
    have h_p100 : isIA E100 p100 := by rw [ep100, eE100]; exact ⟨new_i _ _, by rw [new_T]⟩
    obtain ⟨E101, eE101, h⟩ := nb_e h
    refine m_prF (C := "Ballothall$Council") (T := TX1) (N := 4) (ci := 1) (k := 2) (ty := (.array .int)) hx hb hts iX1 hown hG hP hD hS h_p0.1 h_p0.2 rfl (by decide) w_386 (fun _ h9 => h9) rfl rfl tyX1_ok nmX1 rfl hin rfl (by decide +kernel) h_p100.1 (fun _ => rfl) (fun _ => rfl) d_3_1_14 (fun H locs hP hD hS => ?_)
    have hP : va_P z.1 classes (wv z ad100 E101 M100) H := by rw [eE101]; exact hP
    have hD : va_D A (wv z ad100 E101 M100) := by rw [eE101]; exact hD
    have hgw101 : Gw E100 E101 := by rw [eE101]; exact gw_ref _ _ _ _
    have hE0 : nE E0 ≤ nE E101 := Nat.le_trans hE0 hgw101.1
    have h_p0 : isO 1 E101 p0 := isO_up hgw101 h_p0
    refine W.eq (g2 := F0 m 17 ls []) rfl ?_
    refine lv_aload_n hx hb d_3_1_17 rfl (lv_at hl 0 rfl) ?_
    refine lv_sipush (v := oI 4096) hx hb d_3_1_18 (by decide +kernel) ?_
    obtain ⟨p102, ep102, h⟩ := nb_e h
    obtain ⟨E102, eE102, h⟩ := nb_e h
    obtain ⟨M102, eM102, h⟩ := nb_e h
    refine m_newI (x := (4096 : Int)) (N := 4096) hx hb (by decide) (by decide) (by decide) (hts _ w_100) hG hP hD hS hA (show _ ≤ mc by omega) (show _ ≤ ms by omega) d_3_1_21 (fun ad102 H hag102 hP hD hS => ?_)
    have hP : va_P z.1 classes (wv z ad102 E102 M102) H := by rw [eE102, eM102]; exact hP
    have hD : va_D A (wv z ad102 E102 M102) := by rw [eE102, eM102]; exact hD
    refine W.eq (g2 := F0 m 23 ls (.ref (ad102 p102) :: [.ref (ad102 p0)])) (by rw [ep102, hag102 p0 h_p0.1] <;> rfl) ?_
    have hl : lv_has ls 1 [(0, .ref (ad102 p0))] := by rw [hag102 p0 h_p0.1]; exact hl
    have hgw102 : Gw E101 E102 := by rw [eE102]; exact gw_new _ _
    have hag0 : ∀ i, i < nE E0 → ad102 i = ad0 i := fun i hi => (hag102 i (Nat.lt_of_lt_of_le hi hE0)).trans (hag0 i hi)
    have hE0 : nE E0 ≤ nE E102 := Nat.le_trans hE0 hgw102.1
    have h_p0 : isO 1 E102 p0 := isO_up hgw102 h_p0
    have h_p102 : isIA E102 p102 := by rw [ep102, eE102]; exact ⟨new_i _ _, by rw [new_T]⟩
    obtain ⟨E103, eE103, h⟩ := nb_e h
    refine m_prF (C := "Ballothall$Council") (T := TX1) (N := 4) (ci := 1) (k := 3) (ty := (.array .int)) hx hb hts iX1 hown hG hP hD hS h_p0.1 h_p0.2 rfl (by decide) w_387 (fun _ h9 => h9) rfl rfl tyX1_ok nmX1 rfl hin rfl (by decide +kernel) h_p102.1 (fun _ => rfl) (fun _ => rfl) d_3_1_23 (fun H locs hP hD hS => ?_)
    have hP : va_P z.1 classes (wv z ad102 E103 M102) H := by rw [eE103]; exact hP
    have hD : va_D A (wv z ad102 E103 M102) := by rw [eE103]; exact hD
    have hgw103 : Gw E102 E103 := by rw [eE103]; exact gw_ref _ _ _ _
    have hE0 : nE E0 ≤ nE E103 := Nat.le_trans hE0 hgw103.1
    have h_p0 : isO 1 E103 p0 := isO_up hgw103 h_p0
    refine W.eq (g2 := F0 m 26 ls []) rfl ?_
    refine W.wide (k := c1) (n := s1) (by omega) (by omega) ?_
    obtain ⟨rfl, rfl⟩ := in2 h
    exact W.vret hx hb hr (fun t ht hW => qkA hP hD hS ad102 (congrArg (fun q => wv z q E103 M102) (adj_self hag0).symm) rfl ht) hS.2.2 d_3_1_26
  exact key E ad 2 4108 0 0 2 4108 _ _ _ (by decide) (by decide) (by decide) (by decide) (fun _ _ => rfl) (Nat.le_refl _) hts hP hS
set_option maxRecDepth 100000 in
set_option maxHeartbeats 4000000 in
theorem s_B_init (l : Launch) (z : Zz) (ad : Nat → Nat) (E : Ev) (M : Mm) (p0 : Nat) (F : Ev) (N : Mm) (h : f_B_init E M p0 = some (F, N)) : CT l z ⟨"Ballothall", "<init>", "()V"⟩ prog_1_method_1_code 1 none [.ref (ad p0)] (wv z ad E M) 3 82 349 10025 (fun u => none) (fun u => wv z (adj E ad u) F N) := by
  refine CT.of (own := "Ballothall") (by decide +kernel) (Nat.le_of_ble_eq_true rfl) rfl (fun p e s m below meth c A ls hx hb hml hr hts hown hlocks hin hA hG hZ hP hD hS hl => ?_)
  have hl : lv_has ls 1 [(0, .ref (ad p0))] := hl
  have key : ∀ (E0 : Ev) (ad0 : Nat → Nat) (mc ms c0 s0 c1 s1 : Nat) (H : Heap) (locs : List Loc) (args : Array Value), c0 + 349 ≤ c1 → s0 + 10025 ≤ s1 → c1 ≤ mc → s1 ≤ ms → (∀ i, i < nE E0 → ad i = ad0 i) → nE E0 ≤ nE E → (∀ w ∈ WG, w.before args s = true) → va_P z.1 classes (wv z ad E M) H → va_S A s.heap H locs → W p l e (rmK 3 82 mc ms) s m args below meth c H locs c0 s0 (MQ below (QK z A (fun u => none) (fun u => wv z (adj E0 ad0 u) F N)) args s c1 s1 A) (F0 m 0 ls []) := by
    intro E0 ad0 mc ms c0 s0 c1 s1 H locs args hc hs hm hm2 hag0 hE0 hts hP hS
    unfold f_B_init at h
    obtain ⟨h_p0, h⟩ := ck_e h
    refine lv_aload_n hx hb d_1_1_0 rfl (lv_at hl 0 rfl) ?_
    refine W.objInit hx hb hown (hts _ w_37) (hts _ w_38) (hts _ w_obj) rfl (by rw [hml]; exact hl.1) rfl d_1_1_1 (Nat.le_of_ble_eq_true rfl) (Nat.le_of_ble_eq_true rfl) ?_
    refine W.eq (g2 := F0 m 4 ls []) rfl ?_
    refine lv_aload_n hx hb d_1_1_4 rfl (lv_at hl 0 rfl) ?_
    obtain ⟨p100, ep100, h⟩ := nb_e h
    obtain ⟨E100, eE100, h⟩ := nb_e h
    obtain ⟨M100, eM100, h⟩ := nb_e h
    refine m_newO (ci := 0) (C := "Ballothall$BallotBox") (T := TX0) (n := 10) hx hb hts iX0 tyX0_ok hown w_40 w_41 w_2 rfl (fun _ => fsX0) hG hP hD hS hA (show _ ≤ mc by omega) (show _ ≤ ms by omega) d_1_1_5 (fun ad100 H hag100 hP hD hS => ?_)
    have hP : va_P z.1 classes (wv z ad100 E100 M100) H := by rw [eE100, eM100]; exact hP
    have hD : va_D A (wv z ad100 E100 M100) := by rw [eE100, eM100]; exact hD
    refine W.eq (g2 := F0 m 8 ls (.ref (ad100 p100) :: [.ref (ad100 p0)])) (by rw [ep100, hag100 p0 h_p0.1] <;> rfl) ?_
    have hl : lv_has ls 1 [(0, .ref (ad100 p0))] := by rw [hag100 p0 h_p0.1]; exact hl
    have hgw100 : Gw E E100 := by rw [eE100]; exact gw_new _ _
    have hag0 : ∀ i, i < nE E0 → ad100 i = ad0 i := fun i hi => (hag100 i (Nat.lt_of_lt_of_le hi hE0)).trans (hag0 i hi)
    have hE0 : nE E0 ≤ nE E100 := Nat.le_trans hE0 hgw100.1
    have h_p0 : isO 11 E100 p0 := isO_up hgw100 h_p0
    have h_p100 : isO 0 E100 p100 := by rw [ep100, eE100]; exact ⟨new_i _ _, new_T _ _⟩
    refine lv_dup hx hb d_1_1_8 rfl ?_
    obtain ⟨⟨E101, M101⟩, g101, h⟩ := bd_e h
    obtain ⟨hgw101, h⟩ := ck_e h
    refine kIN (As := []) (rest := [.ref (ad100 p100), .ref (ad100 p0)]) (s_Bx_init l z ad100 E100 M100 p100 E101 M101 g101) hx hb hml hown hts w_44 n_42 w_43 rfl w_2 md_cf0c6c ⟨Nat.le_of_ble_eq_true rfl, Nat.le_of_ble_eq_true rfl⟩ hG hZ hP hD hS hA rfl hl.1 rfl (Nat.le_of_ble_eq_true rfl) d_1_1_9 ⟨(show _ ≤ mc by omega), (show _ ≤ ms by omega)⟩ (fun u101 H locs hP hD hS => ?_)
    obtain ⟨ad101, had101⟩ : ∃ q, q = adj E100 ad100 u101 := ⟨_, rfl⟩
    have hP : va_P z.1 classes (wv z ad101 E101 M101) H := by rw [had101]; exact hP
    have hD : va_D A (wv z ad101 E101 M101) := by rw [had101]; exact hD
    have hag101 : ∀ i, i < nE E100 → ad101 i = ad100 i := fun i hi => by rw [had101]; exact adj_lt hi
    have hl : lv_has ls 1 [(0, .ref (ad101 p0))] := by rw [hag101 p0 h_p0.1]; exact hl
    refine W.eq (g2 := F0 m 12 ls [.ref (ad101 p100), .ref (ad101 p0)]) (by rw [hag101 p100 h_p100.1, hag101 p0 h_p0.1] <;> rfl) ?_
    have hag0 : ∀ i, i < nE E0 → ad101 i = ad0 i := fun i hi => (hag101 i (Nat.lt_of_lt_of_le hi hE0)).trans (hag0 i hi)
    have hE0 : nE E0 ≤ nE E101 := Nat.le_trans hE0 hgw101.1
    have h_p0 : isO 11 E101 p0 := isO_up hgw101 h_p0
    have h_p100 : isO 0 E101 p100 := isO_up hgw101 h_p100
    obtain ⟨E102, eE102, h⟩ := nb_e h
    refine m_prF (C := "Ballothall") (T := TX11) (N := 14) (ci := 11) (k := 0) (ty := (.object "Ballothall$BallotBox")) hx hb hts iX11 hown hG hP hD hS h_p0.1 h_p0.2 rfl (by decide) w_397 (fun _ h9 => h9) rfl rfl tyX11_ok nmX11 rfl hin rfl (by decide +kernel) h_p100.1 (fun _ => rfl) (fun _ => rfl) d_1_1_12 (fun H locs hP hD hS => ?_)
    have hP : va_P z.1 classes (wv z ad101 E102 M101) H := by rw [eE102]; exact hP
    have hD : va_D A (wv z ad101 E102 M101) := by rw [eE102]; exact hD
    have hgw102 : Gw E101 E102 := by rw [eE102]; exact gw_ref _ _ _ _
    have hE0 : nE E0 ≤ nE E102 := Nat.le_trans hE0 hgw102.1
    have h_p0 : isO 11 E102 p0 := isO_up hgw102 h_p0
    refine W.eq (g2 := F0 m 15 ls []) rfl ?_
    refine lv_aload_n hx hb d_1_1_15 rfl (lv_at hl 0 rfl) ?_
    obtain ⟨p103, ep103, h⟩ := nb_e h
    obtain ⟨E103, eE103, h⟩ := nb_e h
    obtain ⟨M103, eM103, h⟩ := nb_e h
    refine m_newO (ci := 9) (C := "Ballothall$Poll") (T := TX9) (n := 12) hx hb hts iX9 tyX9_ok hown w_101 w_102 w_3 rfl (fun _ => fsX9) hG hP hD hS hA (show _ ≤ mc by omega) (show _ ≤ ms by omega) d_1_1_16 (fun ad103 H hag103 hP hD hS => ?_)
    have hP : va_P z.1 classes (wv z ad103 E103 M103) H := by rw [eE103, eM103]; exact hP
    have hD : va_D A (wv z ad103 E103 M103) := by rw [eE103, eM103]; exact hD
    refine W.eq (g2 := F0 m 19 ls (.ref (ad103 p103) :: [.ref (ad103 p0)])) (by rw [ep103, hag103 p0 h_p0.1] <;> rfl) ?_
    have hl : lv_has ls 1 [(0, .ref (ad103 p0))] := by rw [hag103 p0 h_p0.1]; exact hl
    have hgw103 : Gw E102 E103 := by rw [eE103]; exact gw_new _ _
    have hag0 : ∀ i, i < nE E0 → ad103 i = ad0 i := fun i hi => (hag103 i (Nat.lt_of_lt_of_le hi hE0)).trans (hag0 i hi)
    have hE0 : nE E0 ≤ nE E103 := Nat.le_trans hE0 hgw103.1
    have h_p0 : isO 11 E103 p0 := isO_up hgw103 h_p0
    have h_p103 : isO 9 E103 p103 := by rw [ep103, eE103]; exact ⟨new_i _ _, new_T _ _⟩
    refine lv_dup hx hb d_1_1_19 rfl ?_
    refine lv_aload_n hx hb d_1_1_20 rfl (lv_at hl 0 rfl) ?_
    obtain ⟨p104, g104, h⟩ := bd_e h
    obtain ⟨h_p104, h⟩ := ck_e h
    refine m_gr (j := p104) (C := "Ballothall") (T := TX11) (N := 14) (ci := 11) (k := 0) hx hb hts iX11 hown hG hP h_p0.1 h_p0.2 rfl (by decide) w_397 (fun _ h9 => h9) rfl rfl g104 d_1_1_21 ?_
    obtain ⟨⟨E105, M105⟩, g105, h⟩ := bd_e h
    obtain ⟨hgw105, h⟩ := ck_e h
    refine kIN (As := [.ref (ad103 p104)]) (rest := [.ref (ad103 p103), .ref (ad103 p0)]) (s_Po_init l z ad103 E103 M103 p103 p104 E105 M105 g105) hx hb hml hown hts w_105 n_103 w_104 rfl w_3 md_524278 ⟨Nat.le_of_ble_eq_true rfl, Nat.le_of_ble_eq_true rfl⟩ hG hZ hP hD hS hA rfl hl.1 rfl (Nat.le_of_ble_eq_true rfl) d_1_1_24 ⟨(show _ ≤ mc by omega), (show _ ≤ ms by omega)⟩ (fun u105 H locs hP hD hS => ?_)
    obtain ⟨ad105, had105⟩ : ∃ q, q = adj E103 ad103 u105 := ⟨_, rfl⟩
    have hP : va_P z.1 classes (wv z ad105 E105 M105) H := by rw [had105]; exact hP
    have hD : va_D A (wv z ad105 E105 M105) := by rw [had105]; exact hD
    have hag105 : ∀ i, i < nE E103 → ad105 i = ad103 i := fun i hi => by rw [had105]; exact adj_lt hi
    have hl : lv_has ls 1 [(0, .ref (ad105 p0))] := by rw [hag105 p0 h_p0.1]; exact hl
    refine W.eq (g2 := F0 m 27 ls [.ref (ad105 p103), .ref (ad105 p0)]) (by rw [hag105 p103 h_p103.1, hag105 p0 h_p0.1] <;> rfl) ?_
    have hag0 : ∀ i, i < nE E0 → ad105 i = ad0 i := fun i hi => (hag105 i (Nat.lt_of_lt_of_le hi hE0)).trans (hag0 i hi)
    have hE0 : nE E0 ≤ nE E105 := Nat.le_trans hE0 hgw105.1
    have h_p0 : isO 11 E105 p0 := isO_up hgw105 h_p0
    have h_p103 : isO 9 E105 p103 := isO_up hgw105 h_p103
    obtain ⟨E106, eE106, h⟩ := nb_e h
    refine m_prF (C := "Ballothall") (T := TX11) (N := 14) (ci := 11) (k := 1) (ty := (.object "Ballothall$Poll")) hx hb hts iX11 hown hG hP hD hS h_p0.1 h_p0.2 rfl (by decide) w_398 (fun _ h9 => h9) rfl rfl tyX11_ok nmX11 rfl hin rfl (by decide +kernel) h_p103.1 (fun _ => rfl) (fun _ => rfl) d_1_1_27 (fun H locs hP hD hS => ?_)
    have hP : va_P z.1 classes (wv z ad105 E106 M105) H := by rw [eE106]; exact hP
    have hD : va_D A (wv z ad105 E106 M105) := by rw [eE106]; exact hD
    have hgw106 : Gw E105 E106 := by rw [eE106]; exact gw_ref _ _ _ _
    have hE0 : nE E0 ≤ nE E106 := Nat.le_trans hE0 hgw106.1
    have h_p0 : isO 11 E106 p0 := isO_up hgw106 h_p0
    refine W.eq (g2 := F0 m 30 ls []) rfl ?_
    refine lv_aload_n hx hb d_1_1_30 rfl (lv_at hl 0 rfl) ?_
    obtain ⟨p107, ep107, h⟩ := nb_e h
    obtain ⟨E107, eE107, h⟩ := nb_e h
    obtain ⟨M107, eM107, h⟩ := nb_e h
    refine m_newO (ci := 5) (C := "Ballothall$FalseBallot") (T := TX5) (n := 3) hx hb hts iX5 tyX5_ok hown w_146 w_147 w_4 rfl (fun _ => fsX5) hG hP hD hS hA (show _ ≤ mc by omega) (show _ ≤ ms by omega) d_1_1_31 (fun ad107 H hag107 hP hD hS => ?_)
    have hP : va_P z.1 classes (wv z ad107 E107 M107) H := by rw [eE107, eM107]; exact hP
    have hD : va_D A (wv z ad107 E107 M107) := by rw [eE107, eM107]; exact hD
    refine W.eq (g2 := F0 m 34 ls (.ref (ad107 p107) :: [.ref (ad107 p0)])) (by rw [ep107, hag107 p0 h_p0.1] <;> rfl) ?_
    have hl : lv_has ls 1 [(0, .ref (ad107 p0))] := by rw [hag107 p0 h_p0.1]; exact hl
    have hgw107 : Gw E106 E107 := by rw [eE107]; exact gw_new _ _
    have hag0 : ∀ i, i < nE E0 → ad107 i = ad0 i := fun i hi => (hag107 i (Nat.lt_of_lt_of_le hi hE0)).trans (hag0 i hi)
    have hE0 : nE E0 ≤ nE E107 := Nat.le_trans hE0 hgw107.1
    have h_p0 : isO 11 E107 p0 := isO_up hgw107 h_p0
    have h_p107 : isO 5 E107 p107 := by rw [ep107, eE107]; exact ⟨new_i _ _, new_T _ _⟩
    refine lv_dup hx hb d_1_1_34 rfl ?_
    refine lv_aload_n hx hb d_1_1_35 rfl (lv_at hl 0 rfl) ?_
    obtain ⟨p108, g108, h⟩ := bd_e h
    obtain ⟨h_p108, h⟩ := ck_e h
    refine m_gr (j := p108) (C := "Ballothall") (T := TX11) (N := 14) (ci := 11) (k := 0) hx hb hts iX11 hown hG hP h_p0.1 h_p0.2 rfl (by decide) w_397 (fun _ h9 => h9) rfl rfl g108 d_1_1_36 ?_
    refine lv_aload_n hx hb d_1_1_39 rfl (lv_at hl 0 rfl) ?_
    obtain ⟨p109, g109, h⟩ := bd_e h
    obtain ⟨h_p109, h⟩ := ck_e h
    refine m_gr (j := p109) (C := "Ballothall") (T := TX11) (N := 14) (ci := 11) (k := 1) hx hb hts iX11 hown hG hP h_p0.1 h_p0.2 rfl (by decide) w_398 (fun _ h9 => h9) rfl rfl g109 d_1_1_40 ?_
    obtain ⟨⟨E110, M110⟩, g110, h⟩ := bd_e h
    obtain ⟨hgw110, h⟩ := ck_e h
    refine kIN (As := [.ref (ad107 p108), .ref (ad107 p109)]) (rest := [.ref (ad107 p107), .ref (ad107 p0)]) (s_Fb_init l z ad107 E107 M107 p107 p108 p109 E110 M110 g110) hx hb hml hown hts w_150 n_148 w_149 rfl w_4 md_a5a18a ⟨Nat.le_of_ble_eq_true rfl, Nat.le_of_ble_eq_true rfl⟩ hG hZ hP hD hS hA rfl hl.1 rfl (Nat.le_of_ble_eq_true rfl) d_1_1_43 ⟨(show _ ≤ mc by omega), (show _ ≤ ms by omega)⟩ (fun u110 H locs hP hD hS => ?_)
    obtain ⟨ad110, had110⟩ : ∃ q, q = adj E107 ad107 u110 := ⟨_, rfl⟩
    have hP : va_P z.1 classes (wv z ad110 E110 M110) H := by rw [had110]; exact hP
    have hD : va_D A (wv z ad110 E110 M110) := by rw [had110]; exact hD
    have hag110 : ∀ i, i < nE E107 → ad110 i = ad107 i := fun i hi => by rw [had110]; exact adj_lt hi
    have hl : lv_has ls 1 [(0, .ref (ad110 p0))] := by rw [hag110 p0 h_p0.1]; exact hl
    refine W.eq (g2 := F0 m 46 ls [.ref (ad110 p107), .ref (ad110 p0)]) (by rw [hag110 p107 h_p107.1, hag110 p0 h_p0.1] <;> rfl) ?_
    have hag0 : ∀ i, i < nE E0 → ad110 i = ad0 i := fun i hi => (hag110 i (Nat.lt_of_lt_of_le hi hE0)).trans (hag0 i hi)
    have hE0 : nE E0 ≤ nE E110 := Nat.le_trans hE0 hgw110.1
    have h_p0 : isO 11 E110 p0 := isO_up hgw110 h_p0
    have h_p107 : isO 5 E110 p107 := isO_up hgw110 h_p107
    obtain ⟨E111, eE111, h⟩ := nb_e h
    refine m_prF (C := "Ballothall") (T := TX11) (N := 14) (ci := 11) (k := 2) (ty := (.object "Ballothall$FalseBallot")) hx hb hts iX11 hown hG hP hD hS h_p0.1 h_p0.2 rfl (by decide) w_399 (fun _ h9 => h9) rfl rfl tyX11_ok nmX11 rfl hin rfl (by decide +kernel) h_p107.1 (fun _ => rfl) (fun _ => rfl) d_1_1_46 (fun H locs hP hD hS => ?_)
    have hP : va_P z.1 classes (wv z ad110 E111 M110) H := by rw [eE111]; exact hP
    have hD : va_D A (wv z ad110 E111 M110) := by rw [eE111]; exact hD
    have hgw111 : Gw E110 E111 := by rw [eE111]; exact gw_ref _ _ _ _
    have hE0 : nE E0 ≤ nE E111 := Nat.le_trans hE0 hgw111.1
    have h_p0 : isO 11 E111 p0 := isO_up hgw111 h_p0
    refine W.eq (g2 := F0 m 49 ls []) rfl ?_
    refine lv_aload_n hx hb d_1_1_49 rfl (lv_at hl 0 rfl) ?_
    obtain ⟨p112, ep112, h⟩ := nb_e h
    obtain ⟨E112, eE112, h⟩ := nb_e h
    obtain ⟨M112, eM112, h⟩ := nb_e h
    refine m_newO (ci := 7) (C := "Ballothall$Lists") (T := TX7) (n := 11) hx hb hts iX7 tyX7_ok hown w_163 w_164 w_5 rfl (fun _ => fsX7) hG hP hD hS hA (show _ ≤ mc by omega) (show _ ≤ ms by omega) d_1_1_50 (fun ad112 H hag112 hP hD hS => ?_)
    have hP : va_P z.1 classes (wv z ad112 E112 M112) H := by rw [eE112, eM112]; exact hP
    have hD : va_D A (wv z ad112 E112 M112) := by rw [eE112, eM112]; exact hD
    refine W.eq (g2 := F0 m 53 ls (.ref (ad112 p112) :: [.ref (ad112 p0)])) (by rw [ep112, hag112 p0 h_p0.1] <;> rfl) ?_
    have hl : lv_has ls 1 [(0, .ref (ad112 p0))] := by rw [hag112 p0 h_p0.1]; exact hl
    have hgw112 : Gw E111 E112 := by rw [eE112]; exact gw_new _ _
    have hag0 : ∀ i, i < nE E0 → ad112 i = ad0 i := fun i hi => (hag112 i (Nat.lt_of_lt_of_le hi hE0)).trans (hag0 i hi)
    have hE0 : nE E0 ≤ nE E112 := Nat.le_trans hE0 hgw112.1
    have h_p0 : isO 11 E112 p0 := isO_up hgw112 h_p0
    have h_p112 : isO 7 E112 p112 := by rw [ep112, eE112]; exact ⟨new_i _ _, new_T _ _⟩
    refine lv_dup hx hb d_1_1_53 rfl ?_
    obtain ⟨⟨E113, M113⟩, g113, h⟩ := bd_e h
    obtain ⟨hgw113, h⟩ := ck_e h
    refine kIN (As := []) (rest := [.ref (ad112 p112), .ref (ad112 p0)]) (s_Li_init l z ad112 E112 M112 p112 E113 M113 g113) hx hb hml hown hts w_167 n_165 w_166 rfl w_5 md_1045bf ⟨Nat.le_of_ble_eq_true rfl, Nat.le_of_ble_eq_true rfl⟩ hG hZ hP hD hS hA rfl hl.1 rfl (Nat.le_of_ble_eq_true rfl) d_1_1_54 ⟨(show _ ≤ mc by omega), (show _ ≤ ms by omega)⟩ (fun u113 H locs hP hD hS => ?_)
    obtain ⟨ad113, had113⟩ : ∃ q, q = adj E112 ad112 u113 := ⟨_, rfl⟩
    have hP : va_P z.1 classes (wv z ad113 E113 M113) H := by rw [had113]; exact hP
    have hD : va_D A (wv z ad113 E113 M113) := by rw [had113]; exact hD
    have hag113 : ∀ i, i < nE E112 → ad113 i = ad112 i := fun i hi => by rw [had113]; exact adj_lt hi
    have hl : lv_has ls 1 [(0, .ref (ad113 p0))] := by rw [hag113 p0 h_p0.1]; exact hl
    refine W.eq (g2 := F0 m 57 ls [.ref (ad113 p112), .ref (ad113 p0)]) (by rw [hag113 p112 h_p112.1, hag113 p0 h_p0.1] <;> rfl) ?_
    have hag0 : ∀ i, i < nE E0 → ad113 i = ad0 i := fun i hi => (hag113 i (Nat.lt_of_lt_of_le hi hE0)).trans (hag0 i hi)
    have hE0 : nE E0 ≤ nE E113 := Nat.le_trans hE0 hgw113.1
    have h_p0 : isO 11 E113 p0 := isO_up hgw113 h_p0
    have h_p112 : isO 7 E113 p112 := isO_up hgw113 h_p112
    obtain ⟨E114, eE114, h⟩ := nb_e h
    refine m_prF (C := "Ballothall") (T := TX11) (N := 14) (ci := 11) (k := 3) (ty := (.object "Ballothall$Lists")) hx hb hts iX11 hown hG hP hD hS h_p0.1 h_p0.2 rfl (by decide) w_400 (fun _ h9 => h9) rfl rfl tyX11_ok nmX11 rfl hin rfl (by decide +kernel) h_p112.1 (fun _ => rfl) (fun _ => rfl) d_1_1_57 (fun H locs hP hD hS => ?_)
    have hP : va_P z.1 classes (wv z ad113 E114 M113) H := by rw [eE114]; exact hP
    have hD : va_D A (wv z ad113 E114 M113) := by rw [eE114]; exact hD
    have hgw114 : Gw E113 E114 := by rw [eE114]; exact gw_ref _ _ _ _
    have hE0 : nE E0 ≤ nE E114 := Nat.le_trans hE0 hgw114.1
    have h_p0 : isO 11 E114 p0 := isO_up hgw114 h_p0
    refine W.eq (g2 := F0 m 60 ls []) rfl ?_
    refine lv_aload_n hx hb d_1_1_60 rfl (lv_at hl 0 rfl) ?_
    obtain ⟨p115, ep115, h⟩ := nb_e h
    obtain ⟨E115, eE115, h⟩ := nb_e h
    obtain ⟨M115, eM115, h⟩ := nb_e h
    refine m_newO (ci := 3) (C := "Ballothall$Counting") (T := TX3) (n := 15) hx hb hts iX3 tyX3_ok hown w_279 w_280 w_8 rfl (fun _ => fsX3) hG hP hD hS hA (show _ ≤ mc by omega) (show _ ≤ ms by omega) d_1_1_61 (fun ad115 H hag115 hP hD hS => ?_)
    have hP : va_P z.1 classes (wv z ad115 E115 M115) H := by rw [eE115, eM115]; exact hP
    have hD : va_D A (wv z ad115 E115 M115) := by rw [eE115, eM115]; exact hD
    refine W.eq (g2 := F0 m 64 ls (.ref (ad115 p115) :: [.ref (ad115 p0)])) (by rw [ep115, hag115 p0 h_p0.1] <;> rfl) ?_
    have hl : lv_has ls 1 [(0, .ref (ad115 p0))] := by rw [hag115 p0 h_p0.1]; exact hl
    have hgw115 : Gw E114 E115 := by rw [eE115]; exact gw_new _ _
    have hag0 : ∀ i, i < nE E0 → ad115 i = ad0 i := fun i hi => (hag115 i (Nat.lt_of_lt_of_le hi hE0)).trans (hag0 i hi)
    have hE0 : nE E0 ≤ nE E115 := Nat.le_trans hE0 hgw115.1
    have h_p0 : isO 11 E115 p0 := isO_up hgw115 h_p0
    have h_p115 : isO 3 E115 p115 := by rw [ep115, eE115]; exact ⟨new_i _ _, new_T _ _⟩
    refine lv_dup hx hb d_1_1_64 rfl ?_
    refine lv_aload_n hx hb d_1_1_65 rfl (lv_at hl 0 rfl) ?_
    obtain ⟨p116, g116, h⟩ := bd_e h
    obtain ⟨h_p116, h⟩ := ck_e h
    refine m_gr (j := p116) (C := "Ballothall") (T := TX11) (N := 14) (ci := 11) (k := 0) hx hb hts iX11 hown hG hP h_p0.1 h_p0.2 rfl (by decide) w_397 (fun _ h9 => h9) rfl rfl g116 d_1_1_66 ?_
    obtain ⟨⟨E117, M117⟩, g117, h⟩ := bd_e h
    obtain ⟨hgw117, h⟩ := ck_e h
    refine kIN (As := [.ref (ad115 p116)]) (rest := [.ref (ad115 p115), .ref (ad115 p0)]) (s_Co_init l z ad115 E115 M115 p115 p116 E117 M117 g117) hx hb hml hown hts w_283 n_281 w_282 rfl w_8 md_f590f3 ⟨Nat.le_of_ble_eq_true rfl, Nat.le_of_ble_eq_true rfl⟩ hG hZ hP hD hS hA rfl hl.1 rfl (Nat.le_of_ble_eq_true rfl) d_1_1_69 ⟨(show _ ≤ mc by omega), (show _ ≤ ms by omega)⟩ (fun u117 H locs hP hD hS => ?_)
    obtain ⟨ad117, had117⟩ : ∃ q, q = adj E115 ad115 u117 := ⟨_, rfl⟩
    have hP : va_P z.1 classes (wv z ad117 E117 M117) H := by rw [had117]; exact hP
    have hD : va_D A (wv z ad117 E117 M117) := by rw [had117]; exact hD
    have hag117 : ∀ i, i < nE E115 → ad117 i = ad115 i := fun i hi => by rw [had117]; exact adj_lt hi
    have hl : lv_has ls 1 [(0, .ref (ad117 p0))] := by rw [hag117 p0 h_p0.1]; exact hl
    refine W.eq (g2 := F0 m 72 ls [.ref (ad117 p115), .ref (ad117 p0)]) (by rw [hag117 p115 h_p115.1, hag117 p0 h_p0.1] <;> rfl) ?_
    have hag0 : ∀ i, i < nE E0 → ad117 i = ad0 i := fun i hi => (hag117 i (Nat.lt_of_lt_of_le hi hE0)).trans (hag0 i hi)
    have hE0 : nE E0 ≤ nE E117 := Nat.le_trans hE0 hgw117.1
    have h_p0 : isO 11 E117 p0 := isO_up hgw117 h_p0
    have h_p115 : isO 3 E117 p115 := isO_up hgw117 h_p115
    obtain ⟨E118, eE118, h⟩ := nb_e h
    refine m_prF (C := "Ballothall") (T := TX11) (N := 14) (ci := 11) (k := 4) (ty := (.object "Ballothall$Counting")) hx hb hts iX11 hown hG hP hD hS h_p0.1 h_p0.2 rfl (by decide) w_401 (fun _ h9 => h9) rfl rfl tyX11_ok nmX11 rfl hin rfl (by decide +kernel) h_p115.1 (fun _ => rfl) (fun _ => rfl) d_1_1_72 (fun H locs hP hD hS => ?_)
    have hP : va_P z.1 classes (wv z ad117 E118 M117) H := by rw [eE118]; exact hP
    have hD : va_D A (wv z ad117 E118 M117) := by rw [eE118]; exact hD
    have hgw118 : Gw E117 E118 := by rw [eE118]; exact gw_ref _ _ _ _
    have hE0 : nE E0 ≤ nE E118 := Nat.le_trans hE0 hgw118.1
    have h_p0 : isO 11 E118 p0 := isO_up hgw118 h_p0
    refine W.eq (g2 := F0 m 75 ls []) rfl ?_
    refine lv_aload_n hx hb d_1_1_75 rfl (lv_at hl 0 rfl) ?_
    obtain ⟨p119, ep119, h⟩ := nb_e h
    obtain ⟨E119, eE119, h⟩ := nb_e h
    obtain ⟨M119, eM119, h⟩ := nb_e h
    refine m_newO (ci := 10) (C := "Ballothall$Wards") (T := TX10) (n := 5) hx hb hts iX10 tyX10_ok hown w_351 w_352 w_10 rfl (fun _ => fsX10) hG hP hD hS hA (show _ ≤ mc by omega) (show _ ≤ ms by omega) d_1_1_76 (fun ad119 H hag119 hP hD hS => ?_)
    have hP : va_P z.1 classes (wv z ad119 E119 M119) H := by rw [eE119, eM119]; exact hP
    have hD : va_D A (wv z ad119 E119 M119) := by rw [eE119, eM119]; exact hD
    refine W.eq (g2 := F0 m 79 ls (.ref (ad119 p119) :: [.ref (ad119 p0)])) (by rw [ep119, hag119 p0 h_p0.1] <;> rfl) ?_
    have hl : lv_has ls 1 [(0, .ref (ad119 p0))] := by rw [hag119 p0 h_p0.1]; exact hl
    have hgw119 : Gw E118 E119 := by rw [eE119]; exact gw_new _ _
    have hag0 : ∀ i, i < nE E0 → ad119 i = ad0 i := fun i hi => (hag119 i (Nat.lt_of_lt_of_le hi hE0)).trans (hag0 i hi)
    have hE0 : nE E0 ≤ nE E119 := Nat.le_trans hE0 hgw119.1
    have h_p0 : isO 11 E119 p0 := isO_up hgw119 h_p0
    have h_p119 : isO 10 E119 p119 := by rw [ep119, eE119]; exact ⟨new_i _ _, new_T _ _⟩
    refine lv_dup hx hb d_1_1_79 rfl ?_
    obtain ⟨⟨E120, M120⟩, g120, h⟩ := bd_e h
    obtain ⟨hgw120, h⟩ := ck_e h
    refine kIN (As := []) (rest := [.ref (ad119 p119), .ref (ad119 p0)]) (s_Wa_init l z ad119 E119 M119 p119 E120 M120 g120) hx hb hml hown hts w_355 n_353 w_354 rfl w_10 md_728352 ⟨Nat.le_of_ble_eq_true rfl, Nat.le_of_ble_eq_true rfl⟩ hG hZ hP hD hS hA rfl hl.1 rfl (Nat.le_of_ble_eq_true rfl) d_1_1_80 ⟨(show _ ≤ mc by omega), (show _ ≤ ms by omega)⟩ (fun u120 H locs hP hD hS => ?_)
    obtain ⟨ad120, had120⟩ : ∃ q, q = adj E119 ad119 u120 := ⟨_, rfl⟩
    have hP : va_P z.1 classes (wv z ad120 E120 M120) H := by rw [had120]; exact hP
    have hD : va_D A (wv z ad120 E120 M120) := by rw [had120]; exact hD
    have hag120 : ∀ i, i < nE E119 → ad120 i = ad119 i := fun i hi => by rw [had120]; exact adj_lt hi
    have hl : lv_has ls 1 [(0, .ref (ad120 p0))] := by rw [hag120 p0 h_p0.1]; exact hl
    refine W.eq (g2 := F0 m 83 ls [.ref (ad120 p119), .ref (ad120 p0)]) (by rw [hag120 p119 h_p119.1, hag120 p0 h_p0.1] <;> rfl) ?_
    have hag0 : ∀ i, i < nE E0 → ad120 i = ad0 i := fun i hi => (hag120 i (Nat.lt_of_lt_of_le hi hE0)).trans (hag0 i hi)
    have hE0 : nE E0 ≤ nE E120 := Nat.le_trans hE0 hgw120.1
    have h_p0 : isO 11 E120 p0 := isO_up hgw120 h_p0
    have h_p119 : isO 10 E120 p119 := isO_up hgw120 h_p119
    obtain ⟨E121, eE121, h⟩ := nb_e h
    refine m_prF (C := "Ballothall") (T := TX11) (N := 14) (ci := 11) (k := 5) (ty := (.object "Ballothall$Wards")) hx hb hts iX11 hown hG hP hD hS h_p0.1 h_p0.2 rfl (by decide) w_402 (fun _ h9 => h9) rfl rfl tyX11_ok nmX11 rfl hin rfl (by decide +kernel) h_p119.1 (fun _ => rfl) (fun _ => rfl) d_1_1_83 (fun H locs hP hD hS => ?_)
    have hP : va_P z.1 classes (wv z ad120 E121 M120) H := by rw [eE121]; exact hP
    have hD : va_D A (wv z ad120 E121 M120) := by rw [eE121]; exact hD
    have hgw121 : Gw E120 E121 := by rw [eE121]; exact gw_ref _ _ _ _
    have hE0 : nE E0 ≤ nE E121 := Nat.le_trans hE0 hgw121.1
    have h_p0 : isO 11 E121 p0 := isO_up hgw121 h_p0
    refine W.eq (g2 := F0 m 86 ls []) rfl ?_
    refine lv_aload_n hx hb d_1_1_86 rfl (lv_at hl 0 rfl) ?_
    obtain ⟨p122, ep122, h⟩ := nb_e h
    obtain ⟨E122, eE122, h⟩ := nb_e h
    obtain ⟨M122, eM122, h⟩ := nb_e h
    refine m_newO (ci := 1) (C := "Ballothall$Council") (T := TX1) (n := 4) hx hb hts iX1 tyX1_ok hown w_376 w_377 w_11 rfl (fun _ => fsX1) hG hP hD hS hA (show _ ≤ mc by omega) (show _ ≤ ms by omega) d_1_1_87 (fun ad122 H hag122 hP hD hS => ?_)
    have hP : va_P z.1 classes (wv z ad122 E122 M122) H := by rw [eE122, eM122]; exact hP
    have hD : va_D A (wv z ad122 E122 M122) := by rw [eE122, eM122]; exact hD
    refine W.eq (g2 := F0 m 90 ls (.ref (ad122 p122) :: [.ref (ad122 p0)])) (by rw [ep122, hag122 p0 h_p0.1] <;> rfl) ?_
    have hl : lv_has ls 1 [(0, .ref (ad122 p0))] := by rw [hag122 p0 h_p0.1]; exact hl
    have hgw122 : Gw E121 E122 := by rw [eE122]; exact gw_new _ _
    have hag0 : ∀ i, i < nE E0 → ad122 i = ad0 i := fun i hi => (hag122 i (Nat.lt_of_lt_of_le hi hE0)).trans (hag0 i hi)
    have hE0 : nE E0 ≤ nE E122 := Nat.le_trans hE0 hgw122.1
    have h_p0 : isO 11 E122 p0 := isO_up hgw122 h_p0
    have h_p122 : isO 1 E122 p122 := by rw [ep122, eE122]; exact ⟨new_i _ _, new_T _ _⟩
    refine lv_dup hx hb d_1_1_90 rfl ?_
    obtain ⟨⟨E123, M123⟩, g123, h⟩ := bd_e h
    obtain ⟨hgw123, h⟩ := ck_e h
    refine kIN (As := []) (rest := [.ref (ad122 p122), .ref (ad122 p0)]) (s_Cl_init l z ad122 E122 M122 p122 E123 M123 g123) hx hb hml hown hts w_380 n_378 w_379 rfl w_11 md_98d1bc ⟨Nat.le_of_ble_eq_true rfl, Nat.le_of_ble_eq_true rfl⟩ hG hZ hP hD hS hA rfl hl.1 rfl (Nat.le_of_ble_eq_true rfl) d_1_1_91 ⟨(show _ ≤ mc by omega), (show _ ≤ ms by omega)⟩ (fun u123 H locs hP hD hS => ?_)
    obtain ⟨ad123, had123⟩ : ∃ q, q = adj E122 ad122 u123 := ⟨_, rfl⟩
    have hP : va_P z.1 classes (wv z ad123 E123 M123) H := by rw [had123]; exact hP
    have hD : va_D A (wv z ad123 E123 M123) := by rw [had123]; exact hD
    have hag123 : ∀ i, i < nE E122 → ad123 i = ad122 i := fun i hi => by rw [had123]; exact adj_lt hi
    have hl : lv_has ls 1 [(0, .ref (ad123 p0))] := by rw [hag123 p0 h_p0.1]; exact hl
    refine W.eq (g2 := F0 m 94 ls [.ref (ad123 p122), .ref (ad123 p0)]) (by rw [hag123 p122 h_p122.1, hag123 p0 h_p0.1] <;> rfl) ?_
    have hag0 : ∀ i, i < nE E0 → ad123 i = ad0 i := fun i hi => (hag123 i (Nat.lt_of_lt_of_le hi hE0)).trans (hag0 i hi)
    have hE0 : nE E0 ≤ nE E123 := Nat.le_trans hE0 hgw123.1
    have h_p0 : isO 11 E123 p0 := isO_up hgw123 h_p0
    have h_p122 : isO 1 E123 p122 := isO_up hgw123 h_p122
    obtain ⟨E124, eE124, h⟩ := nb_e h
    refine m_prF (C := "Ballothall") (T := TX11) (N := 14) (ci := 11) (k := 6) (ty := (.object "Ballothall$Council")) hx hb hts iX11 hown hG hP hD hS h_p0.1 h_p0.2 rfl (by decide) w_403 (fun _ h9 => h9) rfl rfl tyX11_ok nmX11 rfl hin rfl (by decide +kernel) h_p122.1 (fun _ => rfl) (fun _ => rfl) d_1_1_94 (fun H locs hP hD hS => ?_)
    have hP : va_P z.1 classes (wv z ad123 E124 M123) H := by rw [eE124]; exact hP
    have hD : va_D A (wv z ad123 E124 M123) := by rw [eE124]; exact hD
    have hgw124 : Gw E123 E124 := by rw [eE124]; exact gw_ref _ _ _ _
    have hE0 : nE E0 ≤ nE E124 := Nat.le_trans hE0 hgw124.1
    have h_p0 : isO 11 E124 p0 := isO_up hgw124 h_p0
    refine W.eq (g2 := F0 m 97 ls []) rfl ?_
    refine lv_aload_n hx hb d_1_1_97 rfl (lv_at hl 0 rfl) ?_
    refine lv_bipush (v := oI 20) hx hb d_1_1_98 (by decide +kernel) ?_
    obtain ⟨p125, ep125, h⟩ := nb_e h
    obtain ⟨E125, eE125, h⟩ := nb_e h
    obtain ⟨M125, eM125, h⟩ := nb_e h
    refine m_newI (x := (20 : Int)) (N := 20) hx hb (by decide) (by decide) (by decide) (hts _ w_100) hG hP hD hS hA (show _ ≤ mc by omega) (show _ ≤ ms by omega) d_1_1_100 (fun ad125 H hag125 hP hD hS => ?_)
    have hP : va_P z.1 classes (wv z ad125 E125 M125) H := by rw [eE125, eM125]; exact hP
    have hD : va_D A (wv z ad125 E125 M125) := by rw [eE125, eM125]; exact hD
    refine W.eq (g2 := F0 m 102 ls (.ref (ad125 p125) :: [.ref (ad125 p0)])) (by rw [ep125, hag125 p0 h_p0.1] <;> rfl) ?_
    have hl : lv_has ls 1 [(0, .ref (ad125 p0))] := by rw [hag125 p0 h_p0.1]; exact hl
    have hgw125 : Gw E124 E125 := by rw [eE125]; exact gw_new _ _
    have hag0 : ∀ i, i < nE E0 → ad125 i = ad0 i := fun i hi => (hag125 i (Nat.lt_of_lt_of_le hi hE0)).trans (hag0 i hi)
    have hE0 : nE E0 ≤ nE E125 := Nat.le_trans hE0 hgw125.1
    have h_p0 : isO 11 E125 p0 := isO_up hgw125 h_p0
    have h_p125 : isIA E125 p125 := by rw [ep125, eE125]; exact ⟨new_i _ _, by rw [new_T]⟩
    obtain ⟨E126, eE126, h⟩ := nb_e h
    refine m_prF (C := "Ballothall") (T := TX11) (N := 14) (ci := 11) (k := 7) (ty := (.array .int)) hx hb hts iX11 hown hG hP hD hS h_p0.1 h_p0.2 rfl (by decide) w_404 (fun _ h9 => h9) rfl rfl tyX11_ok nmX11 rfl hin rfl (by decide +kernel) h_p125.1 (fun _ => rfl) (fun _ => rfl) d_1_1_102 (fun H locs hP hD hS => ?_)
    have hP : va_P z.1 classes (wv z ad125 E126 M125) H := by rw [eE126]; exact hP
    have hD : va_D A (wv z ad125 E126 M125) := by rw [eE126]; exact hD
    have hgw126 : Gw E125 E126 := by rw [eE126]; exact gw_ref _ _ _ _
    have hE0 : nE E0 ≤ nE E126 := Nat.le_trans hE0 hgw126.1
    have h_p0 : isO 11 E126 p0 := isO_up hgw126 h_p0
    refine W.eq (g2 := F0 m 105 ls []) rfl ?_
    refine lv_aload_n hx hb d_1_1_105 rfl (lv_at hl 0 rfl) ?_
    refine lv_bipush (v := oI 20) hx hb d_1_1_106 (by decide +kernel) ?_
    obtain ⟨p127, ep127, h⟩ := nb_e h
    obtain ⟨E127, eE127, h⟩ := nb_e h
    obtain ⟨M127, eM127, h⟩ := nb_e h
    refine m_newI (x := (20 : Int)) (N := 20) hx hb (by decide) (by decide) (by decide) (hts _ w_100) hG hP hD hS hA (show _ ≤ mc by omega) (show _ ≤ ms by omega) d_1_1_108 (fun ad127 H hag127 hP hD hS => ?_)
    have hP : va_P z.1 classes (wv z ad127 E127 M127) H := by rw [eE127, eM127]; exact hP
    have hD : va_D A (wv z ad127 E127 M127) := by rw [eE127, eM127]; exact hD
    refine W.eq (g2 := F0 m 110 ls (.ref (ad127 p127) :: [.ref (ad127 p0)])) (by rw [ep127, hag127 p0 h_p0.1] <;> rfl) ?_
    have hl : lv_has ls 1 [(0, .ref (ad127 p0))] := by rw [hag127 p0 h_p0.1]; exact hl
    have hgw127 : Gw E126 E127 := by rw [eE127]; exact gw_new _ _
    have hag0 : ∀ i, i < nE E0 → ad127 i = ad0 i := fun i hi => (hag127 i (Nat.lt_of_lt_of_le hi hE0)).trans (hag0 i hi)
    have hE0 : nE E0 ≤ nE E127 := Nat.le_trans hE0 hgw127.1
    have h_p0 : isO 11 E127 p0 := isO_up hgw127 h_p0
    have h_p127 : isIA E127 p127 := by rw [ep127, eE127]; exact ⟨new_i _ _, by rw [new_T]⟩
    obtain ⟨E128, eE128, h⟩ := nb_e h
    refine m_prF (C := "Ballothall") (T := TX11) (N := 14) (ci := 11) (k := 8) (ty := (.array .int)) hx hb hts iX11 hown hG hP hD hS h_p0.1 h_p0.2 rfl (by decide) w_405 (fun _ h9 => h9) rfl rfl tyX11_ok nmX11 rfl hin rfl (by decide +kernel) h_p127.1 (fun _ => rfl) (fun _ => rfl) d_1_1_110 (fun H locs hP hD hS => ?_)
    have hP : va_P z.1 classes (wv z ad127 E128 M127) H := by rw [eE128]; exact hP
    have hD : va_D A (wv z ad127 E128 M127) := by rw [eE128]; exact hD
    have hgw128 : Gw E127 E128 := by rw [eE128]; exact gw_ref _ _ _ _
    have hE0 : nE E0 ≤ nE E128 := Nat.le_trans hE0 hgw128.1
    have h_p0 : isO 11 E128 p0 := isO_up hgw128 h_p0
    refine W.eq (g2 := F0 m 113 ls []) rfl ?_
    refine lv_aload_n hx hb d_1_1_113 rfl (lv_at hl 0 rfl) ?_
    refine lv_bipush (v := oI 20) hx hb d_1_1_114 (by decide +kernel) ?_
    obtain ⟨p129, ep129, h⟩ := nb_e h
    obtain ⟨E129, eE129, h⟩ := nb_e h
    obtain ⟨M129, eM129, h⟩ := nb_e h
    refine m_newI (x := (20 : Int)) (N := 20) hx hb (by decide) (by decide) (by decide) (hts _ w_100) hG hP hD hS hA (show _ ≤ mc by omega) (show _ ≤ ms by omega) d_1_1_116 (fun ad129 H hag129 hP hD hS => ?_)
    have hP : va_P z.1 classes (wv z ad129 E129 M129) H := by rw [eE129, eM129]; exact hP
    have hD : va_D A (wv z ad129 E129 M129) := by rw [eE129, eM129]; exact hD
    refine W.eq (g2 := F0 m 118 ls (.ref (ad129 p129) :: [.ref (ad129 p0)])) (by rw [ep129, hag129 p0 h_p0.1] <;> rfl) ?_
    have hl : lv_has ls 1 [(0, .ref (ad129 p0))] := by rw [hag129 p0 h_p0.1]; exact hl
    have hgw129 : Gw E128 E129 := by rw [eE129]; exact gw_new _ _
    have hag0 : ∀ i, i < nE E0 → ad129 i = ad0 i := fun i hi => (hag129 i (Nat.lt_of_lt_of_le hi hE0)).trans (hag0 i hi)
    have hE0 : nE E0 ≤ nE E129 := Nat.le_trans hE0 hgw129.1
    have h_p0 : isO 11 E129 p0 := isO_up hgw129 h_p0
    have h_p129 : isIA E129 p129 := by rw [ep129, eE129]; exact ⟨new_i _ _, by rw [new_T]⟩
    obtain ⟨E130, eE130, h⟩ := nb_e h
    refine m_prF (C := "Ballothall") (T := TX11) (N := 14) (ci := 11) (k := 9) (ty := (.array .int)) hx hb hts iX11 hown hG hP hD hS h_p0.1 h_p0.2 rfl (by decide) w_406 (fun _ h9 => h9) rfl rfl tyX11_ok nmX11 rfl hin rfl (by decide +kernel) h_p129.1 (fun _ => rfl) (fun _ => rfl) d_1_1_118 (fun H locs hP hD hS => ?_)
    have hP : va_P z.1 classes (wv z ad129 E130 M129) H := by rw [eE130]; exact hP
    have hD : va_D A (wv z ad129 E130 M129) := by rw [eE130]; exact hD
    have hgw130 : Gw E129 E130 := by rw [eE130]; exact gw_ref _ _ _ _
    have hE0 : nE E0 ≤ nE E130 := Nat.le_trans hE0 hgw130.1
    have h_p0 : isO 11 E130 p0 := isO_up hgw130 h_p0
    refine W.eq (g2 := F0 m 121 ls []) rfl ?_
    refine lv_aload_n hx hb d_1_1_121 rfl (lv_at hl 0 rfl) ?_
    refine lv_sipush (v := oI 240) hx hb d_1_1_122 (by decide +kernel) ?_
    obtain ⟨p131, ep131, h⟩ := nb_e h
    obtain ⟨E131, eE131, h⟩ := nb_e h
    obtain ⟨M131, eM131, h⟩ := nb_e h
    refine m_newI (x := (240 : Int)) (N := 240) hx hb (by decide) (by decide) (by decide) (hts _ w_100) hG hP hD hS hA (show _ ≤ mc by omega) (show _ ≤ ms by omega) d_1_1_125 (fun ad131 H hag131 hP hD hS => ?_)
    have hP : va_P z.1 classes (wv z ad131 E131 M131) H := by rw [eE131, eM131]; exact hP
    have hD : va_D A (wv z ad131 E131 M131) := by rw [eE131, eM131]; exact hD
    refine W.eq (g2 := F0 m 127 ls (.ref (ad131 p131) :: [.ref (ad131 p0)])) (by rw [ep131, hag131 p0 h_p0.1] <;> rfl) ?_
    have hl : lv_has ls 1 [(0, .ref (ad131 p0))] := by rw [hag131 p0 h_p0.1]; exact hl
    have hgw131 : Gw E130 E131 := by rw [eE131]; exact gw_new _ _
    have hag0 : ∀ i, i < nE E0 → ad131 i = ad0 i := fun i hi => (hag131 i (Nat.lt_of_lt_of_le hi hE0)).trans (hag0 i hi)
    have hE0 : nE E0 ≤ nE E131 := Nat.le_trans hE0 hgw131.1
    have h_p0 : isO 11 E131 p0 := isO_up hgw131 h_p0
    have h_p131 : isIA E131 p131 := by rw [ep131, eE131]; exact ⟨new_i _ _, by rw [new_T]⟩
    obtain ⟨E132, eE132, h⟩ := nb_e h
    refine m_prF (C := "Ballothall") (T := TX11) (N := 14) (ci := 11) (k := 12) (ty := (.array .int)) hx hb hts iX11 hown hG hP hD hS h_p0.1 h_p0.2 rfl (by decide) w_409 (fun _ h9 => h9) rfl rfl tyX11_ok nmX11 rfl hin rfl (by decide +kernel) h_p131.1 (fun _ => rfl) (fun _ => rfl) d_1_1_127 (fun H locs hP hD hS => ?_)
    have hP : va_P z.1 classes (wv z ad131 E132 M131) H := by rw [eE132]; exact hP
    have hD : va_D A (wv z ad131 E132 M131) := by rw [eE132]; exact hD
    have hgw132 : Gw E131 E132 := by rw [eE132]; exact gw_ref _ _ _ _
    have hE0 : nE E0 ≤ nE E132 := Nat.le_trans hE0 hgw132.1
    have h_p0 : isO 11 E132 p0 := isO_up hgw132 h_p0
    refine W.eq (g2 := F0 m 130 ls []) rfl ?_
    refine W.wide (k := c1) (n := s1) (by omega) (by omega) ?_
    obtain ⟨rfl, rfl⟩ := in2 h
    exact W.vret hx hb hr (fun t ht hW => qkA hP hD hS ad131 (congrArg (fun q => wv z q E132 M131) (adj_self hag0).symm) rfl ht) hS.2.2 d_1_1_130
  exact key E ad 349 10025 0 0 349 10025 _ _ _ (by decide) (by decide) (by decide) (by decide) (fun _ _ => rfl) (Nat.le_refl _) hts hP hS
set_option maxRecDepth 100000 in
set_option maxHeartbeats 4000000 in
theorem s_La_next (l : Launch) (z : Zz) (ad : Nat → Nat) (E : Ev) (M : Mm) (p0 : Nat) (x1 : Int) (r : Int) (N : Mm) (hL : Lay E) (h : f_La_next E M p0 x1 = some (r, N)) : CT l z ⟨"BallothallLaw", "next", "([II)I"⟩ method_2_code 2 (some .int) [.ref (ad p0), .int (oI x1)] (wv z ad E M) 0 20 0 0 (fun _ => some (.int (oI r))) (fun _ => (wv z ad E N)) := by
  refine CT.of (own := "BallothallLaw") (by decide +kernel) (Nat.le_of_ble_eq_true rfl) rfl (fun p e s m below meth c A ls hx hb hml hr hts hown hlocks hin hA hG hZ hP hD hS hl => ?_)
  have hl : lv_has ls 2 [(0, .ref (ad p0)), (1, .int (oI x1))] := hl
  have key : ∀ (H : Heap) (locs : List Loc) (args : Array Value), (∀ w ∈ WG, w.before args s = true) → va_P z.1 classes (wv z ad E M) H → va_S A s.heap H locs → W p l e (rmK 0 20 0 0) s m args below meth c H locs 0 0 (MQ below (QK z A (fun _ => some (.int (oI r))) (fun _ => (wv z ad E N))) args s 0 0 A) (F0 m 0 ls []) := by
    intro H locs args hts hP hS
    unfold f_La_next at h
    obtain ⟨h_p0, h⟩ := ck_e h
    refine lv_aload_n hx hb d_L2_0 rfl (lv_at hl 0 rfl) ?_
    refine lv_iconst (v := oI 0) hx hb d_L2_1 (by decide +kernel) ?_
    refine lv_aload_n hx hb d_L2_2 rfl (lv_at hl 0 rfl) ?_
    refine lv_iconst (v := oI 0) hx hb d_L2_3 (by decide +kernel) ?_
    obtain ⟨ok100, h⟩ := ck_e h
    refine m_ia hx hb hG hP h_p0.1 (isIA_T h_p0) ok100 d_L2_4 ?_
    refine nrm (x1 := oI (M p0 0)) rfl ?_
    refine lv_ldc hx hb hown (hts _ w_798) d_L2_5 ?_
    refine nrm (x1 := oI 1103515245) (by decide +kernel) ?_
    refine lv_imul hx hb d_L2_7 ?_
    refine nrm (oI_mul _ _) ?_
    refine lv_sipush (v := oI 12345) hx hb d_L2_8 (by decide +kernel) ?_
    refine lv_iadd hx hb d_L2_11 ?_
    refine nrm (oI_add _ _) ?_
    obtain ⟨v101, e101, h⟩ := nb_e h
    refine nrm (congrArg oI e101.symm) ?_
    refine m_is hx hb hG hP hD hS h_p0.1 (isIA_T h_p0) ok100 d_L2_12 (fun H locs hP hD hS => ?_)
    have hP : va_P z.1 classes (wv z ad E (u2 M p0 0 v101)) H := hP
    have hD : va_D A (wv z ad E (u2 M p0 0 v101)) := hD
    refine lv_aload_n hx hb d_L2_13 rfl (lv_at hl 0 rfl) ?_
    refine lv_iconst (v := oI 0) hx hb d_L2_14 (by decide +kernel) ?_
    refine m_ia hx hb hG hP h_p0.1 (isIA_T h_p0) ok100 d_L2_15 ?_
    refine nrm (x1 := oI ((u2 M p0 0 v101) p0 0)) rfl ?_
    refine lv_bipush (v := oI 8) hx hb d_L2_16 (by decide +kernel) ?_
    refine lv_iushr (v := oI (ushI ((u2 M p0 0 v101) p0 0) 8)) hx hb d_L2_18 (oI_ushr _ 8 _ (by decide +kernel)) ?_
    refine lv_iload_n hx hb d_L2_19 rfl (lv_at hl 1 rfl) ?_
    obtain ⟨ok102, h⟩ := ck_e h
    refine lv_irem hx hb d_L2_20 (oI_nz ok102.1 ok102.2) ?_
    refine nrm (oI_rem (a := (ushI ((u2 M p0 0 v101) p0 0) 8)) (b := x1) (ushI_nn (by decide)).1 (ushI_nn (by decide)).2 ok102.1 ok102.2) ?_
    obtain ⟨rfl, rfl⟩ := in2 h
    exact W.iret hx hb hr (fun t ht hW => qkA hP hD hS (fun k => k) rfl rfl ht) hS.2.2 d_L2_21
  exact key _ _ _ hts hP hS
