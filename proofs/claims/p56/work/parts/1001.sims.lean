set_option maxRecDepth 100000 in
set_option maxHeartbeats 4000000 in
theorem b_Co_init_138b (l : Launch) (z : Zz) (E0 : Ev) (ad0 : Nat → Nat) (ad : Nat → Nat) (E : Ev) (M : Mm) (q0 : Nat) (x2 : Int) (t : Nat) (w2 : Int) (F : Ev) (N : Mm) {Q : State → Prop} {p : Program} {e : Env} {s : State} {m : MethodId} {below : List Frame} {meth : Method} {c : Code} {A : Nat → Prop} {args : Array Value} (hx : p.tables.exec = Jvm.exec) (hb : c.code = prog_5_method_1_code) (hml : c.maxLocals = 3) (hts : ∀ w ∈ WG, w.before args s = true) (hown : s.vm.findClass "Ballothall$Counting" = some m.cls) (hlocks : meth.locks = false) (hA : ∀ q, s.heap.size ≤ q → A q) (hG : KG z s) (hZ : FZ z A s) (mc ms c0 s0 c1 s1 : Nat) (hc : c0 + 2 ≤ c1) (hs : s0 + 15 ≤ s1) (hm : c1 ≤ mc) (hm2 : s1 ≤ ms) (hag0 : ∀ i, i < nE E0 → ad i = ad0 i) (hE0 : nE E0 ≤ nE E) (h : Co_init_138b E M q0 x2 = some (t, w2, F, N)) (k0 : ∀ (ad1 : Nat → Nat), (∀ i, i < nE E0 → ad1 i = ad0 i) → nE E0 ≤ nE F → t = 0 → ∀ (H : Heap) (locs : List Loc) (ls : Array Slot), va_P z.1 classes (wv z ad1 F N) H → va_D A (wv z ad1 F N) → va_S A s.heap H locs → lv_has ls 3 [(0, .ref (ad1 q0)), (2, .int (oI w2))] → W p l e (rmK 2 60 mc ms) s m args below meth c H locs c1 s1 Q (F0 m 138 ls [])) (k1 : ∀ (ad1 : Nat → Nat), (∀ i, i < nE E0 → ad1 i = ad0 i) → nE E0 ≤ nE F → t = 1 → ∀ (H : Heap) (locs : List Loc) (ls : Array Slot), va_P z.1 classes (wv z ad1 F N) H → va_D A (wv z ad1 F N) → va_S A s.heap H locs → lv_has ls 3 [] → W p l e (rmK 2 60 mc ms) s m args below meth c H locs c1 s1 Q (F0 m 163 ls [])) : ∀ (H : Heap) (locs : List Loc) (ls : Array Slot), va_P z.1 classes (wv z ad E M) H → va_D A (wv z ad E M) → va_S A s.heap H locs → lv_has ls 3 [(0, .ref (ad q0)), (2, .int (oI x2))] → W p l e (rmK 2 60 mc ms) s m args below meth c H locs c0 s0 Q (F0 m 138 ls []) := by
  intro H locs ls hP hD hS hl
  unfold Co_init_138b at h
  obtain ⟨h_q0, h⟩ := ck_e h
  refine lv_iload_n hx hb d_5_1_138 rfl (lv_at hl 1 rfl) ?_
  refine lv_bipush (v := oI 9) hx hb d_5_1_139 (by decide +kernel) ?_
  obtain ⟨ok34, h⟩ := ck_e h
  refine lv_icmp_ge (tgt := 163) hx hb d_5_1_141 (by decide) (fun c9 => ?_) (fun c9 => ?_)
  · have h := ite_t ((oI_le (a := (9 : Int)) (b := x2) (by decide) ok34).mp c9) h
    obtain ⟨rfl, rfl, rfl, rfl⟩ := in4 h
    exact W.wide (by omega) (by omega) (k1 ad hag0 hE0 rfl H locs ls hP hD hS (lv_sub hl [] rfl))
  · have h := ite_f (fun q => c9 ((oI_le (a := (9 : Int)) (b := x2) (by decide) ok34).mpr q)) h
    refine lv_aload_n hx hb d_5_1_144 rfl (lv_at hl 0 rfl) ?_
    obtain ⟨p35, g35, h⟩ := bd_e h
    obtain ⟨h_p35, h⟩ := ck_e h
    refine m_gr (j := p35) (C := "Ballothall$Counting") (T := TX3) (N := 15) (ci := 3) (k := 5) hx hb hts iX3 hown hG hP h_q0.1 h_q0.2 rfl (by decide) w_308 (fun _ h9 => h9) rfl rfl g35 d_5_1_145 ?_
    refine lv_iload_n hx hb d_5_1_148 rfl (lv_at hl 1 rfl) ?_
    obtain ⟨p36, ep36, h⟩ := nb_e h
    obtain ⟨E36, eE36, h⟩ := nb_e h
    obtain ⟨M36, eM36, h⟩ := nb_e h
    refine m_newO (ci := 8) (C := "Ballothall$Natural") (T := TX8) (n := 2) hx hb hts iX8 tyX8_ok hown w_287 w_289 w_9 rfl (fun _ => fsX8) hG hP hD hS hA (show _ ≤ mc by omega) (show _ ≤ ms by omega) d_5_1_149 (fun ad36 H hag36 hP hD hS => ?_)
    have hP : va_P z.1 classes (wv z ad36 E36 M36) H := by rw [eE36, eM36]; exact hP
    have hD : va_D A (wv z ad36 E36 M36) := by rw [eE36, eM36]; exact hD
    refine W.eq (g2 := F0 m 152 ls (.ref (ad36 p36) :: [.int (oI x2), .ref (ad36 p35)])) (by rw [ep36, hag36 p35 h_p35.1] <;> rfl) ?_
    have hl : lv_has ls 3 [(0, .ref (ad36 q0)), (2, .int (oI x2))] := by rw [hag36 q0 h_q0.1]; exact hl
    have hgw36 : Gw E E36 := by rw [eE36]; exact gw_new _ _
    have hag0 : ∀ i, i < nE E0 → ad36 i = ad0 i := fun i hi => (hag36 i (Nat.lt_of_lt_of_le hi hE0)).trans (hag0 i hi)
    have hE0 : nE E0 ≤ nE E36 := Nat.le_trans hE0 hgw36.1
    have h_q0 : isO 3 E36 q0 := isO_up hgw36 h_q0
    have h_p35 : isQ 5 E36 p35 := isA_up hgw36 h_p35
    have h_p36 : isO 8 E36 p36 := by rw [ep36, eE36]; exact ⟨new_i _ _, new_T _ _⟩
    refine lv_dup hx hb d_5_1_152 rfl ?_
    obtain ⟨⟨E37, M37⟩, g37, h⟩ := bd_e h
    obtain ⟨hgw37, h⟩ := ck_e h
    refine kIN (As := []) (rest := [.ref (ad36 p36), .int (oI x2), .ref (ad36 p35)]) (s_Na_init l z ad36 E36 M36 p36 E37 M37 g37) hx hb hml hown hts w_292 n_290 w_291 rfl w_9 md_72d9bf ⟨Nat.le_of_ble_eq_true rfl, Nat.le_of_ble_eq_true rfl⟩ hG hZ hP hD hS hA rfl hl.1 rfl (Nat.le_of_ble_eq_true rfl) d_5_1_153 ⟨(show _ ≤ mc by omega), (show _ ≤ ms by omega)⟩ (fun u37 H locs hP hD hS => ?_)
    obtain ⟨ad37, had37⟩ : ∃ q, q = adj E36 ad36 u37 := ⟨_, rfl⟩
    have hP : va_P z.1 classes (wv z ad37 E37 M37) H := by rw [had37]; exact hP
    have hD : va_D A (wv z ad37 E37 M37) := by rw [had37]; exact hD
    have hag37 : ∀ i, i < nE E36 → ad37 i = ad36 i := fun i hi => by rw [had37]; exact adj_lt hi
    have hl : lv_has ls 3 [(0, .ref (ad37 q0)), (2, .int (oI x2))] := by rw [hag37 q0 h_q0.1]; exact hl
    refine W.eq (g2 := F0 m 156 ls [.ref (ad37 p36), .int (oI x2), .ref (ad37 p35)]) (by rw [hag37 p36 h_p36.1, hag37 p35 h_p35.1] <;> rfl) ?_
    have hag0 : ∀ i, i < nE E0 → ad37 i = ad0 i := fun i hi => (hag37 i (Nat.lt_of_lt_of_le hi hE0)).trans (hag0 i hi)
    have hE0 : nE E0 ≤ nE E37 := Nat.le_trans hE0 hgw37.1
    have h_q0 : isO 3 E37 q0 := isO_up hgw37 h_q0
    have h_p36 : isO 8 E37 p36 := isO_up hgw37 h_p36
    have h_p35 : isQ 5 E37 p35 := isA_up hgw37 h_p35
    obtain ⟨ok38, h⟩ := ck_e h
    obtain ⟨E39, eE39, h⟩ := nb_e h
    refine m_as (t := 5) (ci := 8) (r := ("Ballothall$Natural", TX8, 2)) (x := x2) hx hb hG hP hD hS h_p35.1 (isQ_T h_p35) rfl rfl h_p36.1 h_p36.2 rfl ok38 d_5_1_156 (fun H locs hP hD hS => ?_)
    have hP : va_P z.1 classes (wv z ad37 E39 M37) H := by rw [eE39]; exact hP
    have hD : va_D A (wv z ad37 E39 M37) := by rw [eE39]; exact hD
    have hgw39 : Gw E37 E39 := by rw [eE39]; exact gw_ref _ _ _ _
    have hE0 : nE E0 ≤ nE E39 := Nat.le_trans hE0 hgw39.1
    have h_q0 : isO 3 E39 q0 := isO_up hgw39 h_q0
    refine W.eq (g2 := F0 m 157 ls []) rfl ?_
    refine lv_iinc (v := oI (x2 + 1)) (lv' := [(2, .int (oI (x2 + 1))), (0, .ref (ad37 q0))]) hx hb d_5_1_157 hl (k := 1) rfl (oI_add x2 1) (by decide) rfl (fun ls hl => ?_)
    refine lv_goto (tgt := 138) hx hb d_5_1_160 (by decide) ?_
    obtain ⟨rfl, rfl, rfl, rfl⟩ := in4 h
    exact W.wide (by omega) (by omega) (k0 ad37 hag0 hE0 rfl H locs ls hP hD hS (lv_sub hl [1, 0] rfl))
set_option maxRecDepth 100000 in
set_option maxHeartbeats 4000000 in
theorem s_Co_init_138 (l : Launch) (z : Zz) (E0 : Ev) (ad0 : Nat → Nat) (q0 : Nat) {Q : State → Prop} {p : Program} {e : Env} {s : State} {m : MethodId} {below : List Frame} {meth : Method} {c : Code} {A : Nat → Prop} {args : Array Value} (hx : p.tables.exec = Jvm.exec) (hb : c.code = prog_5_method_1_code) (hml : c.maxLocals = 3) (hts : ∀ w ∈ WG, w.before args s = true) (hown : s.vm.findClass "Ballothall$Counting" = some m.cls) (hlocks : meth.locks = false) (hA : ∀ q, s.heap.size ≤ q → A q) (hG : KG z s) (hZ : FZ z A s) (mc ms c1 s1 : Nat) (hm : c1 ≤ mc) (hm2 : s1 ≤ ms) : ∀ (fu c0 s0 : Nat) (ad : Nat → Nat) (E : Ev) (M : Mm) (x2 : Int) (t : Nat) (w2 : Int) (F : Ev) (N : Mm), c0 + fu * 2 ≤ c1 → s0 + fu * 15 ≤ s1 → (∀ i, i < nE E0 → ad i = ad0 i) → nE E0 ≤ nE E → l_Co_init_138 q0 fu E M x2 = some (t, w2, F, N) → (∀ (ad1 : Nat → Nat), (∀ i, i < nE E0 → ad1 i = ad0 i) → nE E0 ≤ nE F → t = 1 → ∀ (H : Heap) (locs : List Loc) (ls : Array Slot), va_P z.1 classes (wv z ad1 F N) H → va_D A (wv z ad1 F N) → va_S A s.heap H locs → lv_has ls 3 [] → W p l e (rmK 2 60 mc ms) s m args below meth c H locs c1 s1 Q (F0 m 163 ls [])) → ∀ (H : Heap) (locs : List Loc) (ls : Array Slot), va_P z.1 classes (wv z ad E M) H → va_D A (wv z ad E M) → va_S A s.heap H locs → lv_has ls 3 [(0, .ref (ad q0)), (2, .int (oI x2))] → W p l e (rmK 2 60 mc ms) s m args below meth c H locs c0 s0 Q (F0 m 138 ls []) := by
  intro fu
  induction fu with
  | zero =>
    intro c0 s0 ad E M x2 t w2 F N hc hs hag0 hE0 h
    have h : (none : Option (Nat × Int × Ev × Mm)) = some _ := h
    cases h
  | succ fu ih =>
    intro c0 s0 ad E M x2 t w2 F N hc hs hag0 hE0 h k1 H locs ls hP hD hS hl
    obtain ⟨⟨t0, w20, F9, N9⟩, g0, h⟩ := bd_e h
    refine W.wide (Nat.le_refl _) (Nat.le_refl _) (b_Co_init_138b l z E0 ad0 ad E M q0 x2 t0 w20 F9 N9 hx hb hml hts hown hlocks hA hG hZ mc ms c0 s0 (c0 + 2) (s0 + 15) (Nat.le_refl _) (Nat.le_refl _) (by omega) (by omega) hag0 hE0 g0 (fun ad1 ha he e0 => ?_) (fun ad1 ha he e0 => ?_) H locs ls hP hD hS hl)
    · subst e0
      have h := ite_t rfl h
      exact ih (c0 + 2) (s0 + 15) ad1 F9 N9 w20 t w2 F N (by omega) (by omega) ha he h k1
    · subst e0
      have h := ite_f (by decide) h
      obtain ⟨rfl, rfl, rfl, rfl⟩ := in4 h
      exact fun H locs ls hP hD hS hl => W.wide (by omega) (by omega) (k1 ad1 ha he rfl H locs ls hP hD hS hl)
set_option maxRecDepth 100000 in
set_option maxHeartbeats 4000000 in
theorem s_Co_init (l : Launch) (z : Zz) (ad : Nat → Nat) (E : Ev) (M : Mm) (p0 : Nat) (p1 : Nat) (F : Ev) (N : Mm) (h : f_Co_init E M p0 p1 = some (F, N)) : CT l z ⟨"Ballothall$Counting", "<init>", "(LBallothall$BallotBox;)V"⟩ prog_5_method_1_code 3 none [.ref (ad p0), .ref (ad p1)] (wv z ad E M) 2 60 85 885 (fun u => none) (fun u => wv z (adj E ad u) F N) := by
  refine CT.of (own := "Ballothall$Counting") (by decide +kernel) (Nat.le_of_ble_eq_true rfl) rfl (fun p e s m below meth c A ls hx hb hml hr hts hown hlocks hin hA hG hZ hP hD hS hl => ?_)
  have hl : lv_has ls 3 [(0, .ref (ad p0)), (1, .ref (ad p1))] := hl
  have key : ∀ (E0 : Ev) (ad0 : Nat → Nat) (mc ms c0 s0 c1 s1 : Nat) (H : Heap) (locs : List Loc) (args : Array Value), c0 + 85 ≤ c1 → s0 + 885 ≤ s1 → c1 ≤ mc → s1 ≤ ms → (∀ i, i < nE E0 → ad i = ad0 i) → nE E0 ≤ nE E → (∀ w ∈ WG, w.before args s = true) → va_P z.1 classes (wv z ad E M) H → va_S A s.heap H locs → W p l e (rmK 2 60 mc ms) s m args below meth c H locs c0 s0 (MQ below (QK z A (fun u => none) (fun u => wv z (adj E0 ad0 u) F N)) args s c1 s1 A) (F0 m 0 ls []) := by
    intro E0 ad0 mc ms c0 s0 c1 s1 H locs args hc hs hm hm2 hag0 hE0 hts hP hS
    unfold f_Co_init at h
    obtain ⟨h_p0, h⟩ := ck_e h
    obtain ⟨h_p1, h⟩ := ck_e h
    refine lv_aload_n hx hb d_5_1_0 rfl (lv_at hl 0 rfl) ?_
    refine W.objInit hx hb hown (hts _ w_284) (hts _ w_38) (hts _ w_obj) rfl (by rw [hml]; exact hl.1) rfl d_5_1_1 (Nat.le_of_ble_eq_true rfl) (Nat.le_of_ble_eq_true rfl) ?_
    refine W.eq (g2 := F0 m 4 ls []) rfl ?_
    refine lv_aload_n hx hb d_5_1_4 rfl (lv_at hl 0 rfl) ?_
    refine lv_bipush (v := oI 21) hx hb d_5_1_5 (by decide +kernel) ?_
    obtain ⟨p0, ep0, h⟩ := nb_e h
    obtain ⟨E0, eE0, h⟩ := nb_e h
    obtain ⟨M0, eM0, h⟩ := nb_e h
    refine m_newq (C := "Ballothall$Count") (t := 4) (x := (21 : Int)) (N := 21) hx hb (by decide) (by decide) (by decide) hown (hts _ w_285) (by decide) rfl (fun _ h => ty_eq4 h) hG hP hD hS hA (show _ ≤ mc by omega) (show _ ≤ ms by omega) d_5_1_7 (fun ad0 H hag0 hP hD hS => ?_)
    have hP : va_P z.1 classes (wv z ad0 E0 M0) H := by rw [eE0, eM0]; exact hP
    have hD : va_D A (wv z ad0 E0 M0) := by rw [eE0, eM0]; exact hD
    refine W.eq (g2 := F0 m 10 ls (.ref (ad0 p0) :: [.ref (ad0 p0)])) (by rw [ep0, hag0 p0 h_p0.1] <;> rfl) ?_
    have hl : lv_has ls 3 [(0, .ref (ad0 p0)), (1, .ref (ad0 p1))] := by rw [hag0 p0 h_p0.1, hag0 p1 h_p1.1]; exact hl
    have hgw0 : Gw E E0 := by rw [eE0]; exact gw_new _ _
    have hag0 : ∀ i, i < nE E0 → ad0 i = ad0 i := fun i hi => (hag0 i (Nat.lt_of_lt_of_le hi hE0)).trans (hag0 i hi)
    have hE0 : nE E0 ≤ nE E0 := Nat.le_trans hE0 hgw0.1
    have h_p0 : isO 3 E0 p0 := isO_up hgw0 h_p0
    have h_p1 : isO 0 E0 p1 := isO_up hgw0 h_p1
    have h_p0 : isQ 4 E0 p0 := by rw [ep0, eE0]; exact ⟨new_i _ _, by rw [new_T]⟩
    obtain ⟨E1, eE1, h⟩ := nb_e h
    refine m_prF (C := "Ballothall$Counting") (T := TX3) (N := 15) (ci := 3) (k := 1) (ty := (.array (.object "Ballothall$Count"))) hx hb hts iX3 hown hG hP hD hS h_p0.1 h_p0.2 rfl (by decide) w_304 (fun _ h9 => h9) rfl rfl tyX3_ok nmX3 rfl hin rfl (by decide +kernel) h_p0.1 (fun _ => rfl) (fun _ => rfl) d_5_1_10 (fun H locs hP hD hS => ?_)
    have hP : va_P z.1 classes (wv z ad0 E1 M0) H := by rw [eE1]; exact hP
    have hD : va_D A (wv z ad0 E1 M0) := by rw [eE1]; exact hD
    have hgw1 : Gw E0 E1 := by rw [eE1]; exact gw_ref _ _ _ _
    have hE0 : nE E0 ≤ nE E1 := Nat.le_trans hE0 hgw1.1
    have h_p0 : isO 3 E1 p0 := isO_up hgw1 h_p0
    have h_p1 : isO 0 E1 p1 := isO_up hgw1 h_p1
    refine W.eq (g2 := F0 m 13 ls []) rfl ?_
    refine lv_aload_n hx hb d_5_1_13 rfl (lv_at hl 0 rfl) ?_
    refine lv_sipush (v := oI 240) hx hb d_5_1_14 (by decide +kernel) ?_
    obtain ⟨p2, ep2, h⟩ := nb_e h
    obtain ⟨E2, eE2, h⟩ := nb_e h
    obtain ⟨M2, eM2, h⟩ := nb_e h
    refine m_newq (C := "Ballothall$Natural") (t := 5) (x := (240 : Int)) (N := 240) hx hb (by decide) (by decide) (by decide) hown (hts _ w_287) (by decide) rfl (fun _ h => ty_eq5 h) hG hP hD hS hA (show _ ≤ mc by omega) (show _ ≤ ms by omega) d_5_1_17 (fun ad2 H hag2 hP hD hS => ?_)
    have hP : va_P z.1 classes (wv z ad2 E2 M2) H := by rw [eE2, eM2]; exact hP
    have hD : va_D A (wv z ad2 E2 M2) := by rw [eE2, eM2]; exact hD
    refine W.eq (g2 := F0 m 20 ls (.ref (ad2 p2) :: [.ref (ad2 p0)])) (by rw [ep2, hag2 p0 h_p0.1] <;> rfl) ?_
    have hl : lv_has ls 3 [(0, .ref (ad2 p0)), (1, .ref (ad2 p1))] := by rw [hag2 p0 h_p0.1, hag2 p1 h_p1.1]; exact hl
    have hgw2 : Gw E1 E2 := by rw [eE2]; exact gw_new _ _
    have hag0 : ∀ i, i < nE E0 → ad2 i = ad0 i := fun i hi => (hag2 i (Nat.lt_of_lt_of_le hi hE0)).trans (hag0 i hi)
    have hE0 : nE E0 ≤ nE E2 := Nat.le_trans hE0 hgw2.1
    have h_p0 : isO 3 E2 p0 := isO_up hgw2 h_p0
    have h_p1 : isO 0 E2 p1 := isO_up hgw2 h_p1
    have h_p2 : isQ 5 E2 p2 := by rw [ep2, eE2]; exact ⟨new_i _ _, by rw [new_T]⟩
    obtain ⟨E3, eE3, h⟩ := nb_e h
    refine m_prF (C := "Ballothall$Counting") (T := TX3) (N := 15) (ci := 3) (k := 4) (ty := (.array (.object "Ballothall$Natural"))) hx hb hts iX3 hown hG hP hD hS h_p0.1 h_p0.2 rfl (by decide) w_307 (fun _ h9 => h9) rfl rfl tyX3_ok nmX3 rfl hin rfl (by decide +kernel) h_p2.1 (fun _ => rfl) (fun _ => rfl) d_5_1_20 (fun H locs hP hD hS => ?_)
    have hP : va_P z.1 classes (wv z ad2 E3 M2) H := by rw [eE3]; exact hP
    have hD : va_D A (wv z ad2 E3 M2) := by rw [eE3]; exact hD
    have hgw3 : Gw E2 E3 := by rw [eE3]; exact gw_ref _ _ _ _
    have hE0 : nE E0 ≤ nE E3 := Nat.le_trans hE0 hgw3.1
    have h_p0 : isO 3 E3 p0 := isO_up hgw3 h_p0
    have h_p1 : isO 0 E3 p1 := isO_up hgw3 h_p1
    refine W.eq (g2 := F0 m 23 ls []) rfl ?_
    refine lv_aload_n hx hb d_5_1_23 rfl (lv_at hl 0 rfl) ?_
    refine lv_bipush (v := oI 9) hx hb d_5_1_24 (by decide +kernel) ?_
    obtain ⟨p4, ep4, h⟩ := nb_e h
    obtain ⟨E4, eE4, h⟩ := nb_e h
    obtain ⟨M4, eM4, h⟩ := nb_e h
    refine m_newq (C := "Ballothall$Natural") (t := 5) (x := (9 : Int)) (N := 9) hx hb (by decide) (by decide) (by decide) hown (hts _ w_287) (by decide) rfl (fun _ h => ty_eq5 h) hG hP hD hS hA (show _ ≤ mc by omega) (show _ ≤ ms by omega) d_5_1_26 (fun ad4 H hag4 hP hD hS => ?_)
    have hP : va_P z.1 classes (wv z ad4 E4 M4) H := by rw [eE4, eM4]; exact hP
    have hD : va_D A (wv z ad4 E4 M4) := by rw [eE4, eM4]; exact hD
    refine W.eq (g2 := F0 m 29 ls (.ref (ad4 p4) :: [.ref (ad4 p0)])) (by rw [ep4, hag4 p0 h_p0.1] <;> rfl) ?_
    have hl : lv_has ls 3 [(0, .ref (ad4 p0)), (1, .ref (ad4 p1))] := by rw [hag4 p0 h_p0.1, hag4 p1 h_p1.1]; exact hl
    have hgw4 : Gw E3 E4 := by rw [eE4]; exact gw_new _ _
    have hag0 : ∀ i, i < nE E0 → ad4 i = ad0 i := fun i hi => (hag4 i (Nat.lt_of_lt_of_le hi hE0)).trans (hag0 i hi)
    have hE0 : nE E0 ≤ nE E4 := Nat.le_trans hE0 hgw4.1
    have h_p0 : isO 3 E4 p0 := isO_up hgw4 h_p0
    have h_p1 : isO 0 E4 p1 := isO_up hgw4 h_p1
    have h_p4 : isQ 5 E4 p4 := by rw [ep4, eE4]; exact ⟨new_i _ _, by rw [new_T]⟩
    obtain ⟨E5, eE5, h⟩ := nb_e h
    refine m_prF (C := "Ballothall$Counting") (T := TX3) (N := 15) (ci := 3) (k := 5) (ty := (.array (.object "Ballothall$Natural"))) hx hb hts iX3 hown hG hP hD hS h_p0.1 h_p0.2 rfl (by decide) w_308 (fun _ h9 => h9) rfl rfl tyX3_ok nmX3 rfl hin rfl (by decide +kernel) h_p4.1 (fun _ => rfl) (fun _ => rfl) d_5_1_29 (fun H locs hP hD hS => ?_)
    have hP : va_P z.1 classes (wv z ad4 E5 M4) H := by rw [eE5]; exact hP
    have hD : va_D A (wv z ad4 E5 M4) := by rw [eE5]; exact hD
    have hgw5 : Gw E4 E5 := by rw [eE5]; exact gw_ref _ _ _ _
    have hE0 : nE E0 ≤ nE E5 := Nat.le_trans hE0 hgw5.1
    have h_p0 : isO 3 E5 p0 := isO_up hgw5 h_p0
    have h_p1 : isO 0 E5 p1 := isO_up hgw5 h_p1
    refine W.eq (g2 := F0 m 32 ls []) rfl ?_
    refine lv_aload_n hx hb d_5_1_32 rfl (lv_at hl 0 rfl) ?_
    obtain ⟨p6, ep6, h⟩ := nb_e h
    obtain ⟨E6, eE6, h⟩ := nb_e h
    obtain ⟨M6, eM6, h⟩ := nb_e h
    refine m_newO (ci := 8) (C := "Ballothall$Natural") (T := TX8) (n := 2) hx hb hts iX8 tyX8_ok hown w_287 w_289 w_9 rfl (fun _ => fsX8) hG hP hD hS hA (show _ ≤ mc by omega) (show _ ≤ ms by omega) d_5_1_33 (fun ad6 H hag6 hP hD hS => ?_)
    have hP : va_P z.1 classes (wv z ad6 E6 M6) H := by rw [eE6, eM6]; exact hP
    have hD : va_D A (wv z ad6 E6 M6) := by rw [eE6, eM6]; exact hD
    refine W.eq (g2 := F0 m 36 ls (.ref (ad6 p6) :: [.ref (ad6 p0)])) (by rw [ep6, hag6 p0 h_p0.1] <;> rfl) ?_
    have hl : lv_has ls 3 [(0, .ref (ad6 p0)), (1, .ref (ad6 p1))] := by rw [hag6 p0 h_p0.1, hag6 p1 h_p1.1]; exact hl
    have hgw6 : Gw E5 E6 := by rw [eE6]; exact gw_new _ _
    have hag0 : ∀ i, i < nE E0 → ad6 i = ad0 i := fun i hi => (hag6 i (Nat.lt_of_lt_of_le hi hE0)).trans (hag0 i hi)
    have hE0 : nE E0 ≤ nE E6 := Nat.le_trans hE0 hgw6.1
    have h_p0 : isO 3 E6 p0 := isO_up hgw6 h_p0
    have h_p1 : isO 0 E6 p1 := isO_up hgw6 h_p1
    have h_p6 : isO 8 E6 p6 := by rw [ep6, eE6]; exact ⟨new_i _ _, new_T _ _⟩
    refine lv_dup hx hb d_5_1_36 rfl ?_
    obtain ⟨⟨E7, M7⟩, g7, h⟩ := bd_e h
    obtain ⟨hgw7, h⟩ := ck_e h
    refine kIN (As := []) (rest := [.ref (ad6 p6), .ref (ad6 p0)]) (s_Na_init l z ad6 E6 M6 p6 E7 M7 g7) hx hb hml hown hts w_292 n_290 w_291 rfl w_9 md_72d9bf ⟨Nat.le_of_ble_eq_true rfl, Nat.le_of_ble_eq_true rfl⟩ hG hZ hP hD hS hA rfl hl.1 rfl (Nat.le_of_ble_eq_true rfl) d_5_1_37 ⟨(show _ ≤ mc by omega), (show _ ≤ ms by omega)⟩ (fun u7 H locs hP hD hS => ?_)
    obtain ⟨ad7, had7⟩ : ∃ q, q = adj E6 ad6 u7 := ⟨_, rfl⟩
    have hP : va_P z.1 classes (wv z ad7 E7 M7) H := by rw [had7]; exact hP
    have hD : va_D A (wv z ad7 E7 M7) := by rw [had7]; exact hD
    have hag7 : ∀ i, i < nE E6 → ad7 i = ad6 i := fun i hi => by rw [had7]; exact adj_lt hi
    have hl : lv_has ls 3 [(0, .ref (ad7 p0)), (1, .ref (ad7 p1))] := by rw [hag7 p0 h_p0.1, hag7 p1 h_p1.1]; exact hl
    refine W.eq (g2 := F0 m 40 ls [.ref (ad7 p6), .ref (ad7 p0)]) (by rw [hag7 p6 h_p6.1, hag7 p0 h_p0.1] <;> rfl) ?_
    have hag0 : ∀ i, i < nE E0 → ad7 i = ad0 i := fun i hi => (hag7 i (Nat.lt_of_lt_of_le hi hE0)).trans (hag0 i hi)
    have hE0 : nE E0 ≤ nE E7 := Nat.le_trans hE0 hgw7.1
    have h_p0 : isO 3 E7 p0 := isO_up hgw7 h_p0
    have h_p1 : isO 0 E7 p1 := isO_up hgw7 h_p1
    have h_p6 : isO 8 E7 p6 := isO_up hgw7 h_p6
    obtain ⟨E8, eE8, h⟩ := nb_e h
    refine m_prF (C := "Ballothall$Counting") (T := TX3) (N := 15) (ci := 3) (k := 6) (ty := (.object "Ballothall$Natural")) hx hb hts iX3 hown hG hP hD hS h_p0.1 h_p0.2 rfl (by decide) w_309 (fun _ h9 => h9) rfl rfl tyX3_ok nmX3 rfl hin rfl (by decide +kernel) h_p6.1 (fun _ => rfl) (fun _ => rfl) d_5_1_40 (fun H locs hP hD hS => ?_)
    have hP : va_P z.1 classes (wv z ad7 E8 M7) H := by rw [eE8]; exact hP
    have hD : va_D A (wv z ad7 E8 M7) := by rw [eE8]; exact hD
    have hgw8 : Gw E7 E8 := by rw [eE8]; exact gw_ref _ _ _ _
    have hE0 : nE E0 ≤ nE E8 := Nat.le_trans hE0 hgw8.1
    have h_p0 : isO 3 E8 p0 := isO_up hgw8 h_p0
    have h_p1 : isO 0 E8 p1 := isO_up hgw8 h_p1
    refine W.eq (g2 := F0 m 43 ls []) rfl ?_
    refine lv_aload_n hx hb d_5_1_43 rfl (lv_at hl 0 rfl) ?_
    obtain ⟨p9, ep9, h⟩ := nb_e h
    obtain ⟨E9, eE9, h⟩ := nb_e h
    obtain ⟨M9, eM9, h⟩ := nb_e h
    refine m_newO (ci := 8) (C := "Ballothall$Natural") (T := TX8) (n := 2) hx hb hts iX8 tyX8_ok hown w_287 w_289 w_9 rfl (fun _ => fsX8) hG hP hD hS hA (show _ ≤ mc by omega) (show _ ≤ ms by omega) d_5_1_44 (fun ad9 H hag9 hP hD hS => ?_)
    have hP : va_P z.1 classes (wv z ad9 E9 M9) H := by rw [eE9, eM9]; exact hP
    have hD : va_D A (wv z ad9 E9 M9) := by rw [eE9, eM9]; exact hD
    refine W.eq (g2 := F0 m 47 ls (.ref (ad9 p9) :: [.ref (ad9 p0)])) (by rw [ep9, hag9 p0 h_p0.1] <;> rfl) ?_
    have hl : lv_has ls 3 [(0, .ref (ad9 p0)), (1, .ref (ad9 p1))] := by rw [hag9 p0 h_p0.1, hag9 p1 h_p1.1]; exact hl
    have hgw9 : Gw E8 E9 := by rw [eE9]; exact gw_new _ _
    have hag0 : ∀ i, i < nE E0 → ad9 i = ad0 i := fun i hi => (hag9 i (Nat.lt_of_lt_of_le hi hE0)).trans (hag0 i hi)
    have hE0 : nE E0 ≤ nE E9 := Nat.le_trans hE0 hgw9.1
    have h_p0 : isO 3 E9 p0 := isO_up hgw9 h_p0
    have h_p1 : isO 0 E9 p1 := isO_up hgw9 h_p1
    have h_p9 : isO 8 E9 p9 := by rw [ep9, eE9]; exact ⟨new_i _ _, new_T _ _⟩
    refine lv_dup hx hb d_5_1_47 rfl ?_
    obtain ⟨⟨E10, M10⟩, g10, h⟩ := bd_e h
    obtain ⟨hgw10, h⟩ := ck_e h
    refine kIN (As := []) (rest := [.ref (ad9 p9), .ref (ad9 p0)]) (s_Na_init l z ad9 E9 M9 p9 E10 M10 g10) hx hb hml hown hts w_292 n_290 w_291 rfl w_9 md_72d9bf ⟨Nat.le_of_ble_eq_true rfl, Nat.le_of_ble_eq_true rfl⟩ hG hZ hP hD hS hA rfl hl.1 rfl (Nat.le_of_ble_eq_true rfl) d_5_1_48 ⟨(show _ ≤ mc by omega), (show _ ≤ ms by omega)⟩ (fun u10 H locs hP hD hS => ?_)
    obtain ⟨ad10, had10⟩ : ∃ q, q = adj E9 ad9 u10 := ⟨_, rfl⟩
    have hP : va_P z.1 classes (wv z ad10 E10 M10) H := by rw [had10]; exact hP
    have hD : va_D A (wv z ad10 E10 M10) := by rw [had10]; exact hD
    have hag10 : ∀ i, i < nE E9 → ad10 i = ad9 i := fun i hi => by rw [had10]; exact adj_lt hi
    have hl : lv_has ls 3 [(0, .ref (ad10 p0)), (1, .ref (ad10 p1))] := by rw [hag10 p0 h_p0.1, hag10 p1 h_p1.1]; exact hl
    refine W.eq (g2 := F0 m 51 ls [.ref (ad10 p9), .ref (ad10 p0)]) (by rw [hag10 p9 h_p9.1, hag10 p0 h_p0.1] <;> rfl) ?_
    have hag0 : ∀ i, i < nE E0 → ad10 i = ad0 i := fun i hi => (hag10 i (Nat.lt_of_lt_of_le hi hE0)).trans (hag0 i hi)
    have hE0 : nE E0 ≤ nE E10 := Nat.le_trans hE0 hgw10.1
    have h_p0 : isO 3 E10 p0 := isO_up hgw10 h_p0
    have h_p1 : isO 0 E10 p1 := isO_up hgw10 h_p1
    have h_p9 : isO 8 E10 p9 := isO_up hgw10 h_p9
    obtain ⟨E11, eE11, h⟩ := nb_e h
    refine m_prF (C := "Ballothall$Counting") (T := TX3) (N := 15) (ci := 3) (k := 7) (ty := (.object "Ballothall$Natural")) hx hb hts iX3 hown hG hP hD hS h_p0.1 h_p0.2 rfl (by decide) w_310 (fun _ h9 => h9) rfl rfl tyX3_ok nmX3 rfl hin rfl (by decide +kernel) h_p9.1 (fun _ => rfl) (fun _ => rfl) d_5_1_51 (fun H locs hP hD hS => ?_)
    have hP : va_P z.1 classes (wv z ad10 E11 M10) H := by rw [eE11]; exact hP
    have hD : va_D A (wv z ad10 E11 M10) := by rw [eE11]; exact hD
    have hgw11 : Gw E10 E11 := by rw [eE11]; exact gw_ref _ _ _ _
    have hE0 : nE E0 ≤ nE E11 := Nat.le_trans hE0 hgw11.1
    have h_p0 : isO 3 E11 p0 := isO_up hgw11 h_p0
    have h_p1 : isO 0 E11 p1 := isO_up hgw11 h_p1
    refine W.eq (g2 := F0 m 54 ls []) rfl ?_
    refine lv_aload_n hx hb d_5_1_54 rfl (lv_at hl 0 rfl) ?_
    obtain ⟨p12, ep12, h⟩ := nb_e h
    obtain ⟨E12, eE12, h⟩ := nb_e h
    obtain ⟨M12, eM12, h⟩ := nb_e h
    refine m_newO (ci := 8) (C := "Ballothall$Natural") (T := TX8) (n := 2) hx hb hts iX8 tyX8_ok hown w_287 w_289 w_9 rfl (fun _ => fsX8) hG hP hD hS hA (show _ ≤ mc by omega) (show _ ≤ ms by omega) d_5_1_55 (fun ad12 H hag12 hP hD hS => ?_)
    have hP : va_P z.1 classes (wv z ad12 E12 M12) H := by rw [eE12, eM12]; exact hP
    have hD : va_D A (wv z ad12 E12 M12) := by rw [eE12, eM12]; exact hD
    refine W.eq (g2 := F0 m 58 ls (.ref (ad12 p12) :: [.ref (ad12 p0)])) (by rw [ep12, hag12 p0 h_p0.1] <;> rfl) ?_
    have hl : lv_has ls 3 [(0, .ref (ad12 p0)), (1, .ref (ad12 p1))] := by rw [hag12 p0 h_p0.1, hag12 p1 h_p1.1]; exact hl
    have hgw12 : Gw E11 E12 := by rw [eE12]; exact gw_new _ _
    have hag0 : ∀ i, i < nE E0 → ad12 i = ad0 i := fun i hi => (hag12 i (Nat.lt_of_lt_of_le hi hE0)).trans (hag0 i hi)
    have hE0 : nE E0 ≤ nE E12 := Nat.le_trans hE0 hgw12.1
    have h_p0 : isO 3 E12 p0 := isO_up hgw12 h_p0
    have h_p1 : isO 0 E12 p1 := isO_up hgw12 h_p1
    have h_p12 : isO 8 E12 p12 := by rw [ep12, eE12]; exact ⟨new_i _ _, new_T _ _⟩
    refine lv_dup hx hb d_5_1_58 rfl ?_
    obtain ⟨⟨E13, M13⟩, g13, h⟩ := bd_e h
    obtain ⟨hgw13, h⟩ := ck_e h
    refine kIN (As := []) (rest := [.ref (ad12 p12), .ref (ad12 p0)]) (s_Na_init l z ad12 E12 M12 p12 E13 M13 g13) hx hb hml hown hts w_292 n_290 w_291 rfl w_9 md_72d9bf ⟨Nat.le_of_ble_eq_true rfl, Nat.le_of_ble_eq_true rfl⟩ hG hZ hP hD hS hA rfl hl.1 rfl (Nat.le_of_ble_eq_true rfl) d_5_1_59 ⟨(show _ ≤ mc by omega), (show _ ≤ ms by omega)⟩ (fun u13 H locs hP hD hS => ?_)
    obtain ⟨ad13, had13⟩ : ∃ q, q = adj E12 ad12 u13 := ⟨_, rfl⟩
    have hP : va_P z.1 classes (wv z ad13 E13 M13) H := by rw [had13]; exact hP
    have hD : va_D A (wv z ad13 E13 M13) := by rw [had13]; exact hD
    have hag13 : ∀ i, i < nE E12 → ad13 i = ad12 i := fun i hi => by rw [had13]; exact adj_lt hi
    have hl : lv_has ls 3 [(0, .ref (ad13 p0)), (1, .ref (ad13 p1))] := by rw [hag13 p0 h_p0.1, hag13 p1 h_p1.1]; exact hl
    refine W.eq (g2 := F0 m 62 ls [.ref (ad13 p12), .ref (ad13 p0)]) (by rw [hag13 p12 h_p12.1, hag13 p0 h_p0.1] <;> rfl) ?_
    have hag0 : ∀ i, i < nE E0 → ad13 i = ad0 i := fun i hi => (hag13 i (Nat.lt_of_lt_of_le hi hE0)).trans (hag0 i hi)
    have hE0 : nE E0 ≤ nE E13 := Nat.le_trans hE0 hgw13.1
    have h_p0 : isO 3 E13 p0 := isO_up hgw13 h_p0
    have h_p1 : isO 0 E13 p1 := isO_up hgw13 h_p1
    have h_p12 : isO 8 E13 p12 := isO_up hgw13 h_p12
    obtain ⟨E14, eE14, h⟩ := nb_e h
    refine m_prF (C := "Ballothall$Counting") (T := TX3) (N := 15) (ci := 3) (k := 8) (ty := (.object "Ballothall$Natural")) hx hb hts iX3 hown hG hP hD hS h_p0.1 h_p0.2 rfl (by decide) w_311 (fun _ h9 => h9) rfl rfl tyX3_ok nmX3 rfl hin rfl (by decide +kernel) h_p12.1 (fun _ => rfl) (fun _ => rfl) d_5_1_62 (fun H locs hP hD hS => ?_)
    have hP : va_P z.1 classes (wv z ad13 E14 M13) H := by rw [eE14]; exact hP
    have hD : va_D A (wv z ad13 E14 M13) := by rw [eE14]; exact hD
    have hgw14 : Gw E13 E14 := by rw [eE14]; exact gw_ref _ _ _ _
    have hE0 : nE E0 ≤ nE E14 := Nat.le_trans hE0 hgw14.1
    have h_p0 : isO 3 E14 p0 := isO_up hgw14 h_p0
    have h_p1 : isO 0 E14 p1 := isO_up hgw14 h_p1
    refine W.eq (g2 := F0 m 65 ls []) rfl ?_
    refine lv_aload_n hx hb d_5_1_65 rfl (lv_at hl 0 rfl) ?_
    obtain ⟨p15, ep15, h⟩ := nb_e h
    obtain ⟨E15, eE15, h⟩ := nb_e h
    obtain ⟨M15, eM15, h⟩ := nb_e h
    refine m_newO (ci := 8) (C := "Ballothall$Natural") (T := TX8) (n := 2) hx hb hts iX8 tyX8_ok hown w_287 w_289 w_9 rfl (fun _ => fsX8) hG hP hD hS hA (show _ ≤ mc by omega) (show _ ≤ ms by omega) d_5_1_66 (fun ad15 H hag15 hP hD hS => ?_)
    have hP : va_P z.1 classes (wv z ad15 E15 M15) H := by rw [eE15, eM15]; exact hP
    have hD : va_D A (wv z ad15 E15 M15) := by rw [eE15, eM15]; exact hD
    refine W.eq (g2 := F0 m 69 ls (.ref (ad15 p15) :: [.ref (ad15 p0)])) (by rw [ep15, hag15 p0 h_p0.1] <;> rfl) ?_
    have hl : lv_has ls 3 [(0, .ref (ad15 p0)), (1, .ref (ad15 p1))] := by rw [hag15 p0 h_p0.1, hag15 p1 h_p1.1]; exact hl
    have hgw15 : Gw E14 E15 := by rw [eE15]; exact gw_new _ _
    have hag0 : ∀ i, i < nE E0 → ad15 i = ad0 i := fun i hi => (hag15 i (Nat.lt_of_lt_of_le hi hE0)).trans (hag0 i hi)
    have hE0 : nE E0 ≤ nE E15 := Nat.le_trans hE0 hgw15.1
    have h_p0 : isO 3 E15 p0 := isO_up hgw15 h_p0
    have h_p1 : isO 0 E15 p1 := isO_up hgw15 h_p1
    have h_p15 : isO 8 E15 p15 := by rw [ep15, eE15]; exact ⟨new_i _ _, new_T _ _⟩
    refine lv_dup hx hb d_5_1_69 rfl ?_
    obtain ⟨⟨E16, M16⟩, g16, h⟩ := bd_e h
    obtain ⟨hgw16, h⟩ := ck_e h
    refine kIN (As := []) (rest := [.ref (ad15 p15), .ref (ad15 p0)]) (s_Na_init l z ad15 E15 M15 p15 E16 M16 g16) hx hb hml hown hts w_292 n_290 w_291 rfl w_9 md_72d9bf ⟨Nat.le_of_ble_eq_true rfl, Nat.le_of_ble_eq_true rfl⟩ hG hZ hP hD hS hA rfl hl.1 rfl (Nat.le_of_ble_eq_true rfl) d_5_1_70 ⟨(show _ ≤ mc by omega), (show _ ≤ ms by omega)⟩ (fun u16 H locs hP hD hS => ?_)
    obtain ⟨ad16, had16⟩ : ∃ q, q = adj E15 ad15 u16 := ⟨_, rfl⟩
    have hP : va_P z.1 classes (wv z ad16 E16 M16) H := by rw [had16]; exact hP
    have hD : va_D A (wv z ad16 E16 M16) := by rw [had16]; exact hD
    have hag16 : ∀ i, i < nE E15 → ad16 i = ad15 i := fun i hi => by rw [had16]; exact adj_lt hi
    have hl : lv_has ls 3 [(0, .ref (ad16 p0)), (1, .ref (ad16 p1))] := by rw [hag16 p0 h_p0.1, hag16 p1 h_p1.1]; exact hl
    refine W.eq (g2 := F0 m 73 ls [.ref (ad16 p15), .ref (ad16 p0)]) (by rw [hag16 p15 h_p15.1, hag16 p0 h_p0.1] <;> rfl) ?_
    have hag0 : ∀ i, i < nE E0 → ad16 i = ad0 i := fun i hi => (hag16 i (Nat.lt_of_lt_of_le hi hE0)).trans (hag0 i hi)
    have hE0 : nE E0 ≤ nE E16 := Nat.le_trans hE0 hgw16.1
    have h_p0 : isO 3 E16 p0 := isO_up hgw16 h_p0
    have h_p1 : isO 0 E16 p1 := isO_up hgw16 h_p1
    have h_p15 : isO 8 E16 p15 := isO_up hgw16 h_p15
    obtain ⟨E17, eE17, h⟩ := nb_e h
    refine m_prF (C := "Ballothall$Counting") (T := TX3) (N := 15) (ci := 3) (k := 9) (ty := (.object "Ballothall$Natural")) hx hb hts iX3 hown hG hP hD hS h_p0.1 h_p0.2 rfl (by decide) w_312 (fun _ h9 => h9) rfl rfl tyX3_ok nmX3 rfl hin rfl (by decide +kernel) h_p15.1 (fun _ => rfl) (fun _ => rfl) d_5_1_73 (fun H locs hP hD hS => ?_)
    have hP : va_P z.1 classes (wv z ad16 E17 M16) H := by rw [eE17]; exact hP
    have hD : va_D A (wv z ad16 E17 M16) := by rw [eE17]; exact hD
    have hgw17 : Gw E16 E17 := by rw [eE17]; exact gw_ref _ _ _ _
    have hE0 : nE E0 ≤ nE E17 := Nat.le_trans hE0 hgw17.1
    have h_p0 : isO 3 E17 p0 := isO_up hgw17 h_p0
    have h_p1 : isO 0 E17 p1 := isO_up hgw17 h_p1
    refine W.eq (g2 := F0 m 76 ls []) rfl ?_
    refine lv_aload_n hx hb d_5_1_76 rfl (lv_at hl 0 rfl) ?_
    obtain ⟨p18, ep18, h⟩ := nb_e h
    obtain ⟨E18, eE18, h⟩ := nb_e h
    obtain ⟨M18, eM18, h⟩ := nb_e h
    refine m_newO (ci := 8) (C := "Ballothall$Natural") (T := TX8) (n := 2) hx hb hts iX8 tyX8_ok hown w_287 w_289 w_9 rfl (fun _ => fsX8) hG hP hD hS hA (show _ ≤ mc by omega) (show _ ≤ ms by omega) d_5_1_77 (fun ad18 H hag18 hP hD hS => ?_)
    have hP : va_P z.1 classes (wv z ad18 E18 M18) H := by rw [eE18, eM18]; exact hP
    have hD : va_D A (wv z ad18 E18 M18) := by rw [eE18, eM18]; exact hD
    refine W.eq (g2 := F0 m 80 ls (.ref (ad18 p18) :: [.ref (ad18 p0)])) (by rw [ep18, hag18 p0 h_p0.1] <;> rfl) ?_
    have hl : lv_has ls 3 [(0, .ref (ad18 p0)), (1, .ref (ad18 p1))] := by rw [hag18 p0 h_p0.1, hag18 p1 h_p1.1]; exact hl
    have hgw18 : Gw E17 E18 := by rw [eE18]; exact gw_new _ _
    have hag0 : ∀ i, i < nE E0 → ad18 i = ad0 i := fun i hi => (hag18 i (Nat.lt_of_lt_of_le hi hE0)).trans (hag0 i hi)
    have hE0 : nE E0 ≤ nE E18 := Nat.le_trans hE0 hgw18.1
    have h_p0 : isO 3 E18 p0 := isO_up hgw18 h_p0
    have h_p1 : isO 0 E18 p1 := isO_up hgw18 h_p1
    have h_p18 : isO 8 E18 p18 := by rw [ep18, eE18]; exact ⟨new_i _ _, new_T _ _⟩
    refine lv_dup hx hb d_5_1_80 rfl ?_
    obtain ⟨⟨E19, M19⟩, g19, h⟩ := bd_e h
    obtain ⟨hgw19, h⟩ := ck_e h
    refine kIN (As := []) (rest := [.ref (ad18 p18), .ref (ad18 p0)]) (s_Na_init l z ad18 E18 M18 p18 E19 M19 g19) hx hb hml hown hts w_292 n_290 w_291 rfl w_9 md_72d9bf ⟨Nat.le_of_ble_eq_true rfl, Nat.le_of_ble_eq_true rfl⟩ hG hZ hP hD hS hA rfl hl.1 rfl (Nat.le_of_ble_eq_true rfl) d_5_1_81 ⟨(show _ ≤ mc by omega), (show _ ≤ ms by omega)⟩ (fun u19 H locs hP hD hS => ?_)
    obtain ⟨ad19, had19⟩ : ∃ q, q = adj E18 ad18 u19 := ⟨_, rfl⟩
    have hP : va_P z.1 classes (wv z ad19 E19 M19) H := by rw [had19]; exact hP
    have hD : va_D A (wv z ad19 E19 M19) := by rw [had19]; exact hD
    have hag19 : ∀ i, i < nE E18 → ad19 i = ad18 i := fun i hi => by rw [had19]; exact adj_lt hi
    have hl : lv_has ls 3 [(0, .ref (ad19 p0)), (1, .ref (ad19 p1))] := by rw [hag19 p0 h_p0.1, hag19 p1 h_p1.1]; exact hl
    refine W.eq (g2 := F0 m 84 ls [.ref (ad19 p18), .ref (ad19 p0)]) (by rw [hag19 p18 h_p18.1, hag19 p0 h_p0.1] <;> rfl) ?_
    have hag0 : ∀ i, i < nE E0 → ad19 i = ad0 i := fun i hi => (hag19 i (Nat.lt_of_lt_of_le hi hE0)).trans (hag0 i hi)
    have hE0 : nE E0 ≤ nE E19 := Nat.le_trans hE0 hgw19.1
    have h_p0 : isO 3 E19 p0 := isO_up hgw19 h_p0
    have h_p1 : isO 0 E19 p1 := isO_up hgw19 h_p1
    have h_p18 : isO 8 E19 p18 := isO_up hgw19 h_p18
    obtain ⟨E20, eE20, h⟩ := nb_e h
    refine m_prF (C := "Ballothall$Counting") (T := TX3) (N := 15) (ci := 3) (k := 10) (ty := (.object "Ballothall$Natural")) hx hb hts iX3 hown hG hP hD hS h_p0.1 h_p0.2 rfl (by decide) w_314 (fun _ h9 => h9) rfl rfl tyX3_ok nmX3 rfl hin rfl (by decide +kernel) h_p18.1 (fun _ => rfl) (fun _ => rfl) d_5_1_84 (fun H locs hP hD hS => ?_)
    have hP : va_P z.1 classes (wv z ad19 E20 M19) H := by rw [eE20]; exact hP
    have hD : va_D A (wv z ad19 E20 M19) := by rw [eE20]; exact hD
    have hgw20 : Gw E19 E20 := by rw [eE20]; exact gw_ref _ _ _ _
    have hE0 : nE E0 ≤ nE E20 := Nat.le_trans hE0 hgw20.1
    have h_p0 : isO 3 E20 p0 := isO_up hgw20 h_p0
    have h_p1 : isO 0 E20 p1 := isO_up hgw20 h_p1
    refine W.eq (g2 := F0 m 87 ls []) rfl ?_
    refine lv_aload_n hx hb d_5_1_87 rfl (lv_at hl 0 rfl) ?_
    obtain ⟨p21, ep21, h⟩ := nb_e h
    obtain ⟨E21, eE21, h⟩ := nb_e h
    obtain ⟨M21, eM21, h⟩ := nb_e h
    refine m_newO (ci := 8) (C := "Ballothall$Natural") (T := TX8) (n := 2) hx hb hts iX8 tyX8_ok hown w_287 w_289 w_9 rfl (fun _ => fsX8) hG hP hD hS hA (show _ ≤ mc by omega) (show _ ≤ ms by omega) d_5_1_88 (fun ad21 H hag21 hP hD hS => ?_)
    have hP : va_P z.1 classes (wv z ad21 E21 M21) H := by rw [eE21, eM21]; exact hP
    have hD : va_D A (wv z ad21 E21 M21) := by rw [eE21, eM21]; exact hD
    refine W.eq (g2 := F0 m 91 ls (.ref (ad21 p21) :: [.ref (ad21 p0)])) (by rw [ep21, hag21 p0 h_p0.1] <;> rfl) ?_
    have hl : lv_has ls 3 [(0, .ref (ad21 p0)), (1, .ref (ad21 p1))] := by rw [hag21 p0 h_p0.1, hag21 p1 h_p1.1]; exact hl
    have hgw21 : Gw E20 E21 := by rw [eE21]; exact gw_new _ _
    have hag0 : ∀ i, i < nE E0 → ad21 i = ad0 i := fun i hi => (hag21 i (Nat.lt_of_lt_of_le hi hE0)).trans (hag0 i hi)
    have hE0 : nE E0 ≤ nE E21 := Nat.le_trans hE0 hgw21.1
    have h_p0 : isO 3 E21 p0 := isO_up hgw21 h_p0
    have h_p1 : isO 0 E21 p1 := isO_up hgw21 h_p1
    have h_p21 : isO 8 E21 p21 := by rw [ep21, eE21]; exact ⟨new_i _ _, new_T _ _⟩
    refine lv_dup hx hb d_5_1_91 rfl ?_
    obtain ⟨⟨E22, M22⟩, g22, h⟩ := bd_e h
    obtain ⟨hgw22, h⟩ := ck_e h
    refine kIN (As := []) (rest := [.ref (ad21 p21), .ref (ad21 p0)]) (s_Na_init l z ad21 E21 M21 p21 E22 M22 g22) hx hb hml hown hts w_292 n_290 w_291 rfl w_9 md_72d9bf ⟨Nat.le_of_ble_eq_true rfl, Nat.le_of_ble_eq_true rfl⟩ hG hZ hP hD hS hA rfl hl.1 rfl (Nat.le_of_ble_eq_true rfl) d_5_1_92 ⟨(show _ ≤ mc by omega), (show _ ≤ ms by omega)⟩ (fun u22 H locs hP hD hS => ?_)
    obtain ⟨ad22, had22⟩ : ∃ q, q = adj E21 ad21 u22 := ⟨_, rfl⟩
    have hP : va_P z.1 classes (wv z ad22 E22 M22) H := by rw [had22]; exact hP
    have hD : va_D A (wv z ad22 E22 M22) := by rw [had22]; exact hD
    have hag22 : ∀ i, i < nE E21 → ad22 i = ad21 i := fun i hi => by rw [had22]; exact adj_lt hi
    have hl : lv_has ls 3 [(0, .ref (ad22 p0)), (1, .ref (ad22 p1))] := by rw [hag22 p0 h_p0.1, hag22 p1 h_p1.1]; exact hl
    refine W.eq (g2 := F0 m 95 ls [.ref (ad22 p21), .ref (ad22 p0)]) (by rw [hag22 p21 h_p21.1, hag22 p0 h_p0.1] <;> rfl) ?_
    have hag0 : ∀ i, i < nE E0 → ad22 i = ad0 i := fun i hi => (hag22 i (Nat.lt_of_lt_of_le hi hE0)).trans (hag0 i hi)
    have hE0 : nE E0 ≤ nE E22 := Nat.le_trans hE0 hgw22.1
    have h_p0 : isO 3 E22 p0 := isO_up hgw22 h_p0
    have h_p1 : isO 0 E22 p1 := isO_up hgw22 h_p1
    have h_p21 : isO 8 E22 p21 := isO_up hgw22 h_p21
    obtain ⟨E23, eE23, h⟩ := nb_e h
    refine m_prF (C := "Ballothall$Counting") (T := TX3) (N := 15) (ci := 3) (k := 11) (ty := (.object "Ballothall$Natural")) hx hb hts iX3 hown hG hP hD hS h_p0.1 h_p0.2 rfl (by decide) w_316 (fun _ h9 => h9) rfl rfl tyX3_ok nmX3 rfl hin rfl (by decide +kernel) h_p21.1 (fun _ => rfl) (fun _ => rfl) d_5_1_95 (fun H locs hP hD hS => ?_)
    have hP : va_P z.1 classes (wv z ad22 E23 M22) H := by rw [eE23]; exact hP
    have hD : va_D A (wv z ad22 E23 M22) := by rw [eE23]; exact hD
    have hgw23 : Gw E22 E23 := by rw [eE23]; exact gw_ref _ _ _ _
    have hE0 : nE E0 ≤ nE E23 := Nat.le_trans hE0 hgw23.1
    have h_p0 : isO 3 E23 p0 := isO_up hgw23 h_p0
    have h_p1 : isO 0 E23 p1 := isO_up hgw23 h_p1
    refine W.eq (g2 := F0 m 98 ls []) rfl ?_
    refine lv_aload_n hx hb d_5_1_98 rfl (lv_at hl 0 rfl) ?_
    obtain ⟨p24, ep24, h⟩ := nb_e h
    obtain ⟨E24, eE24, h⟩ := nb_e h
    obtain ⟨M24, eM24, h⟩ := nb_e h
    refine m_newO (ci := 8) (C := "Ballothall$Natural") (T := TX8) (n := 2) hx hb hts iX8 tyX8_ok hown w_287 w_289 w_9 rfl (fun _ => fsX8) hG hP hD hS hA (show _ ≤ mc by omega) (show _ ≤ ms by omega) d_5_1_99 (fun ad24 H hag24 hP hD hS => ?_)
    have hP : va_P z.1 classes (wv z ad24 E24 M24) H := by rw [eE24, eM24]; exact hP
    have hD : va_D A (wv z ad24 E24 M24) := by rw [eE24, eM24]; exact hD
    refine W.eq (g2 := F0 m 102 ls (.ref (ad24 p24) :: [.ref (ad24 p0)])) (by rw [ep24, hag24 p0 h_p0.1] <;> rfl) ?_
    have hl : lv_has ls 3 [(0, .ref (ad24 p0)), (1, .ref (ad24 p1))] := by rw [hag24 p0 h_p0.1, hag24 p1 h_p1.1]; exact hl
    have hgw24 : Gw E23 E24 := by rw [eE24]; exact gw_new _ _
    have hag0 : ∀ i, i < nE E0 → ad24 i = ad0 i := fun i hi => (hag24 i (Nat.lt_of_lt_of_le hi hE0)).trans (hag0 i hi)
    have hE0 : nE E0 ≤ nE E24 := Nat.le_trans hE0 hgw24.1
    have h_p0 : isO 3 E24 p0 := isO_up hgw24 h_p0
    have h_p1 : isO 0 E24 p1 := isO_up hgw24 h_p1
    have h_p24 : isO 8 E24 p24 := by rw [ep24, eE24]; exact ⟨new_i _ _, new_T _ _⟩
    refine lv_dup hx hb d_5_1_102 rfl ?_
    obtain ⟨⟨E25, M25⟩, g25, h⟩ := bd_e h
    obtain ⟨hgw25, h⟩ := ck_e h
    refine kIN (As := []) (rest := [.ref (ad24 p24), .ref (ad24 p0)]) (s_Na_init l z ad24 E24 M24 p24 E25 M25 g25) hx hb hml hown hts w_292 n_290 w_291 rfl w_9 md_72d9bf ⟨Nat.le_of_ble_eq_true rfl, Nat.le_of_ble_eq_true rfl⟩ hG hZ hP hD hS hA rfl hl.1 rfl (Nat.le_of_ble_eq_true rfl) d_5_1_103 ⟨(show _ ≤ mc by omega), (show _ ≤ ms by omega)⟩ (fun u25 H locs hP hD hS => ?_)
    obtain ⟨ad25, had25⟩ : ∃ q, q = adj E24 ad24 u25 := ⟨_, rfl⟩
    have hP : va_P z.1 classes (wv z ad25 E25 M25) H := by rw [had25]; exact hP
    have hD : va_D A (wv z ad25 E25 M25) := by rw [had25]; exact hD
    have hag25 : ∀ i, i < nE E24 → ad25 i = ad24 i := fun i hi => by rw [had25]; exact adj_lt hi
    have hl : lv_has ls 3 [(0, .ref (ad25 p0)), (1, .ref (ad25 p1))] := by rw [hag25 p0 h_p0.1, hag25 p1 h_p1.1]; exact hl
    refine W.eq (g2 := F0 m 106 ls [.ref (ad25 p24), .ref (ad25 p0)]) (by rw [hag25 p24 h_p24.1, hag25 p0 h_p0.1] <;> rfl) ?_
    have hag0 : ∀ i, i < nE E0 → ad25 i = ad0 i := fun i hi => (hag25 i (Nat.lt_of_lt_of_le hi hE0)).trans (hag0 i hi)
    have hE0 : nE E0 ≤ nE E25 := Nat.le_trans hE0 hgw25.1
    have h_p0 : isO 3 E25 p0 := isO_up hgw25 h_p0
    have h_p1 : isO 0 E25 p1 := isO_up hgw25 h_p1
    have h_p24 : isO 8 E25 p24 := isO_up hgw25 h_p24
    obtain ⟨E26, eE26, h⟩ := nb_e h
    refine m_prF (C := "Ballothall$Counting") (T := TX3) (N := 15) (ci := 3) (k := 12) (ty := (.object "Ballothall$Natural")) hx hb hts iX3 hown hG hP hD hS h_p0.1 h_p0.2 rfl (by decide) w_317 (fun _ h9 => h9) rfl rfl tyX3_ok nmX3 rfl hin rfl (by decide +kernel) h_p24.1 (fun _ => rfl) (fun _ => rfl) d_5_1_106 (fun H locs hP hD hS => ?_)
    have hP : va_P z.1 classes (wv z ad25 E26 M25) H := by rw [eE26]; exact hP
    have hD : va_D A (wv z ad25 E26 M25) := by rw [eE26]; exact hD
    have hgw26 : Gw E25 E26 := by rw [eE26]; exact gw_ref _ _ _ _
    have hE0 : nE E0 ≤ nE E26 := Nat.le_trans hE0 hgw26.1
    have h_p0 : isO 3 E26 p0 := isO_up hgw26 h_p0
    have h_p1 : isO 0 E26 p1 := isO_up hgw26 h_p1
    refine W.eq (g2 := F0 m 109 ls []) rfl ?_
    refine lv_aload_n hx hb d_5_1_109 rfl (lv_at hl 0 rfl) ?_
    obtain ⟨p27, ep27, h⟩ := nb_e h
    obtain ⟨E27, eE27, h⟩ := nb_e h
    obtain ⟨M27, eM27, h⟩ := nb_e h
    refine m_newO (ci := 8) (C := "Ballothall$Natural") (T := TX8) (n := 2) hx hb hts iX8 tyX8_ok hown w_287 w_289 w_9 rfl (fun _ => fsX8) hG hP hD hS hA (show _ ≤ mc by omega) (show _ ≤ ms by omega) d_5_1_110 (fun ad27 H hag27 hP hD hS => ?_)
    have hP : va_P z.1 classes (wv z ad27 E27 M27) H := by rw [eE27, eM27]; exact hP
    have hD : va_D A (wv z ad27 E27 M27) := by rw [eE27, eM27]; exact hD
    refine W.eq (g2 := F0 m 113 ls (.ref (ad27 p27) :: [.ref (ad27 p0)])) (by rw [ep27, hag27 p0 h_p0.1] <;> rfl) ?_
    have hl : lv_has ls 3 [(0, .ref (ad27 p0)), (1, .ref (ad27 p1))] := by rw [hag27 p0 h_p0.1, hag27 p1 h_p1.1]; exact hl
    have hgw27 : Gw E26 E27 := by rw [eE27]; exact gw_new _ _
    have hag0 : ∀ i, i < nE E0 → ad27 i = ad0 i := fun i hi => (hag27 i (Nat.lt_of_lt_of_le hi hE0)).trans (hag0 i hi)
    have hE0 : nE E0 ≤ nE E27 := Nat.le_trans hE0 hgw27.1
    have h_p0 : isO 3 E27 p0 := isO_up hgw27 h_p0
    have h_p1 : isO 0 E27 p1 := isO_up hgw27 h_p1
    have h_p27 : isO 8 E27 p27 := by rw [ep27, eE27]; exact ⟨new_i _ _, new_T _ _⟩
    refine lv_dup hx hb d_5_1_113 rfl ?_
    obtain ⟨⟨E28, M28⟩, g28, h⟩ := bd_e h
    obtain ⟨hgw28, h⟩ := ck_e h
    refine kIN (As := []) (rest := [.ref (ad27 p27), .ref (ad27 p0)]) (s_Na_init l z ad27 E27 M27 p27 E28 M28 g28) hx hb hml hown hts w_292 n_290 w_291 rfl w_9 md_72d9bf ⟨Nat.le_of_ble_eq_true rfl, Nat.le_of_ble_eq_true rfl⟩ hG hZ hP hD hS hA rfl hl.1 rfl (Nat.le_of_ble_eq_true rfl) d_5_1_114 ⟨(show _ ≤ mc by omega), (show _ ≤ ms by omega)⟩ (fun u28 H locs hP hD hS => ?_)
    obtain ⟨ad28, had28⟩ : ∃ q, q = adj E27 ad27 u28 := ⟨_, rfl⟩
    have hP : va_P z.1 classes (wv z ad28 E28 M28) H := by rw [had28]; exact hP
    have hD : va_D A (wv z ad28 E28 M28) := by rw [had28]; exact hD
    have hag28 : ∀ i, i < nE E27 → ad28 i = ad27 i := fun i hi => by rw [had28]; exact adj_lt hi
    have hl : lv_has ls 3 [(0, .ref (ad28 p0)), (1, .ref (ad28 p1))] := by rw [hag28 p0 h_p0.1, hag28 p1 h_p1.1]; exact hl
    refine W.eq (g2 := F0 m 117 ls [.ref (ad28 p27), .ref (ad28 p0)]) (by rw [hag28 p27 h_p27.1, hag28 p0 h_p0.1] <;> rfl) ?_
    have hag0 : ∀ i, i < nE E0 → ad28 i = ad0 i := fun i hi => (hag28 i (Nat.lt_of_lt_of_le hi hE0)).trans (hag0 i hi)
    have hE0 : nE E0 ≤ nE E28 := Nat.le_trans hE0 hgw28.1
    have h_p0 : isO 3 E28 p0 := isO_up hgw28 h_p0
    have h_p1 : isO 0 E28 p1 := isO_up hgw28 h_p1
    have h_p27 : isO 8 E28 p27 := isO_up hgw28 h_p27
    obtain ⟨E29, eE29, h⟩ := nb_e h
    refine m_prF (C := "Ballothall$Counting") (T := TX3) (N := 15) (ci := 3) (k := 13) (ty := (.object "Ballothall$Natural")) hx hb hts iX3 hown hG hP hD hS h_p0.1 h_p0.2 rfl (by decide) w_318 (fun _ h9 => h9) rfl rfl tyX3_ok nmX3 rfl hin rfl (by decide +kernel) h_p27.1 (fun _ => rfl) (fun _ => rfl) d_5_1_117 (fun H locs hP hD hS => ?_)
    have hP : va_P z.1 classes (wv z ad28 E29 M28) H := by rw [eE29]; exact hP
    have hD : va_D A (wv z ad28 E29 M28) := by rw [eE29]; exact hD
    have hgw29 : Gw E28 E29 := by rw [eE29]; exact gw_ref _ _ _ _
    have hE0 : nE E0 ≤ nE E29 := Nat.le_trans hE0 hgw29.1
    have h_p0 : isO 3 E29 p0 := isO_up hgw29 h_p0
    have h_p1 : isO 0 E29 p1 := isO_up hgw29 h_p1
    refine W.eq (g2 := F0 m 120 ls []) rfl ?_
    refine lv_aload_n hx hb d_5_1_120 rfl (lv_at hl 0 rfl) ?_
    obtain ⟨p30, ep30, h⟩ := nb_e h
    obtain ⟨E30, eE30, h⟩ := nb_e h
    obtain ⟨M30, eM30, h⟩ := nb_e h
    refine m_newO (ci := 8) (C := "Ballothall$Natural") (T := TX8) (n := 2) hx hb hts iX8 tyX8_ok hown w_287 w_289 w_9 rfl (fun _ => fsX8) hG hP hD hS hA (show _ ≤ mc by omega) (show _ ≤ ms by omega) d_5_1_121 (fun ad30 H hag30 hP hD hS => ?_)
    have hP : va_P z.1 classes (wv z ad30 E30 M30) H := by rw [eE30, eM30]; exact hP
    have hD : va_D A (wv z ad30 E30 M30) := by rw [eE30, eM30]; exact hD
    refine W.eq (g2 := F0 m 124 ls (.ref (ad30 p30) :: [.ref (ad30 p0)])) (by rw [ep30, hag30 p0 h_p0.1] <;> rfl) ?_
    have hl : lv_has ls 3 [(0, .ref (ad30 p0)), (1, .ref (ad30 p1))] := by rw [hag30 p0 h_p0.1, hag30 p1 h_p1.1]; exact hl
    have hgw30 : Gw E29 E30 := by rw [eE30]; exact gw_new _ _
    have hag0 : ∀ i, i < nE E0 → ad30 i = ad0 i := fun i hi => (hag30 i (Nat.lt_of_lt_of_le hi hE0)).trans (hag0 i hi)
    have hE0 : nE E0 ≤ nE E30 := Nat.le_trans hE0 hgw30.1
    have h_p0 : isO 3 E30 p0 := isO_up hgw30 h_p0
    have h_p1 : isO 0 E30 p1 := isO_up hgw30 h_p1
    have h_p30 : isO 8 E30 p30 := by rw [ep30, eE30]; exact ⟨new_i _ _, new_T _ _⟩
    refine lv_dup hx hb d_5_1_124 rfl ?_
    obtain ⟨⟨E31, M31⟩, g31, h⟩ := bd_e h
    obtain ⟨hgw31, h⟩ := ck_e h
    refine kIN (As := []) (rest := [.ref (ad30 p30), .ref (ad30 p0)]) (s_Na_init l z ad30 E30 M30 p30 E31 M31 g31) hx hb hml hown hts w_292 n_290 w_291 rfl w_9 md_72d9bf ⟨Nat.le_of_ble_eq_true rfl, Nat.le_of_ble_eq_true rfl⟩ hG hZ hP hD hS hA rfl hl.1 rfl (Nat.le_of_ble_eq_true rfl) d_5_1_125 ⟨(show _ ≤ mc by omega), (show _ ≤ ms by omega)⟩ (fun u31 H locs hP hD hS => ?_)
    obtain ⟨ad31, had31⟩ : ∃ q, q = adj E30 ad30 u31 := ⟨_, rfl⟩
    have hP : va_P z.1 classes (wv z ad31 E31 M31) H := by rw [had31]; exact hP
    have hD : va_D A (wv z ad31 E31 M31) := by rw [had31]; exact hD
    have hag31 : ∀ i, i < nE E30 → ad31 i = ad30 i := fun i hi => by rw [had31]; exact adj_lt hi
    have hl : lv_has ls 3 [(0, .ref (ad31 p0)), (1, .ref (ad31 p1))] := by rw [hag31 p0 h_p0.1, hag31 p1 h_p1.1]; exact hl
    refine W.eq (g2 := F0 m 128 ls [.ref (ad31 p30), .ref (ad31 p0)]) (by rw [hag31 p30 h_p30.1, hag31 p0 h_p0.1] <;> rfl) ?_
    have hag0 : ∀ i, i < nE E0 → ad31 i = ad0 i := fun i hi => (hag31 i (Nat.lt_of_lt_of_le hi hE0)).trans (hag0 i hi)
    have hE0 : nE E0 ≤ nE E31 := Nat.le_trans hE0 hgw31.1
    have h_p0 : isO 3 E31 p0 := isO_up hgw31 h_p0
    have h_p1 : isO 0 E31 p1 := isO_up hgw31 h_p1
    have h_p30 : isO 8 E31 p30 := isO_up hgw31 h_p30
    obtain ⟨E32, eE32, h⟩ := nb_e h
    refine m_prF (C := "Ballothall$Counting") (T := TX3) (N := 15) (ci := 3) (k := 14) (ty := (.object "Ballothall$Natural")) hx hb hts iX3 hown hG hP hD hS h_p0.1 h_p0.2 rfl (by decide) w_319 (fun _ h9 => h9) rfl rfl tyX3_ok nmX3 rfl hin rfl (by decide +kernel) h_p30.1 (fun _ => rfl) (fun _ => rfl) d_5_1_128 (fun H locs hP hD hS => ?_)
    have hP : va_P z.1 classes (wv z ad31 E32 M31) H := by rw [eE32]; exact hP
    have hD : va_D A (wv z ad31 E32 M31) := by rw [eE32]; exact hD
    have hgw32 : Gw E31 E32 := by rw [eE32]; exact gw_ref _ _ _ _
    have hE0 : nE E0 ≤ nE E32 := Nat.le_trans hE0 hgw32.1
    have h_p0 : isO 3 E32 p0 := isO_up hgw32 h_p0
    have h_p1 : isO 0 E32 p1 := isO_up hgw32 h_p1
    refine W.eq (g2 := F0 m 131 ls []) rfl ?_
    refine lv_aload_n hx hb d_5_1_131 rfl (lv_at hl 0 rfl) ?_
    refine lv_aload_n hx hb d_5_1_132 rfl (lv_at hl 1 rfl) ?_
    obtain ⟨E33, eE33, h⟩ := nb_e h
    refine m_prF (C := "Ballothall$Counting") (T := TX3) (N := 15) (ci := 3) (k := 0) (ty := (.object "Ballothall$BallotBox")) hx hb hts iX3 hown hG hP hD hS h_p0.1 h_p0.2 rfl (by decide) w_303 (fun _ h9 => h9) rfl rfl tyX3_ok nmX3 rfl hin rfl (by decide +kernel) h_p1.1 (fun _ => rfl) (fun _ => rfl) d_5_1_133 (fun H locs hP hD hS => ?_)
    have hP : va_P z.1 classes (wv z ad31 E33 M31) H := by rw [eE33]; exact hP
    have hD : va_D A (wv z ad31 E33 M31) := by rw [eE33]; exact hD
    have hgw33 : Gw E32 E33 := by rw [eE33]; exact gw_ref _ _ _ _
    have hE0 : nE E0 ≤ nE E33 := Nat.le_trans hE0 hgw33.1
    have h_p0 : isO 3 E33 p0 := isO_up hgw33 h_p0
    have h_p1 : isO 0 E33 p1 := isO_up hgw33 h_p1
    refine W.eq (g2 := F0 m 136 ls []) rfl ?_
    refine lv_iconst (v := oI 0) hx hb d_5_1_136 (by decide +kernel) ?_
    refine lv_istore_n (lv' := [(2, .int (oI 0)), (0, .ref (ad31 p0)), (1, .ref (ad31 p1))]) hx hb d_5_1_137 rfl hl (by decide) rfl (fun ls hl => ?_)
    obtain ⟨⟨t40, v40_2, E40, M40⟩, g40, h⟩ := bd_e h
    obtain ⟨hgw40, h⟩ := ck_e h
    obtain ⟨ok40, h⟩ := ck_e h
    refine s_Co_init_138 l z E33 ad31 p0 hx hb hml hts hown hlocks hA hG hZ mc ms (c0 + 85) (s0 + 885) (by omega) (by omega) 32 _ _ ad31 E33 M31 0 t40 v40_2 E40 M40 (by omega) (by omega) (fun _ _ => rfl) (Nat.le_refl _) g40 (fun ad40 hag40 hEE40 e40 H locs ls hP hD hS hl => ?_) H locs ls hP hD hS (lv_sub hl [1, 0] rfl)
    have hag0 : ∀ i, i < nE E0 → ad40 i = ad0 i := fun i hi => (hag40 i (Nat.lt_of_lt_of_le hi hE0)).trans (hag0 i hi)
    have hE0 : nE E0 ≤ nE E40 := Nat.le_trans hE0 hgw40.1
    refine W.wide (k := c1) (n := s1) (by omega) (by omega) ?_
    obtain ⟨rfl, rfl⟩ := in2 h
    exact W.vret hx hb hr (fun t ht hW => qkA hP hD hS ad40 (congrArg (fun q => wv z q E40 M40) (adj_self hag0).symm) rfl ht) hS.2.2 d_5_1_163
  exact key E ad 85 885 0 0 85 885 _ _ _ (by decide) (by decide) (by decide) (by decide) (fun _ _ => rfl) (Nat.le_refl _) hts hP hS
set_option maxRecDepth 100000 in
set_option maxHeartbeats 4000000 in
theorem s_Wa_init (l : Launch) (z : Zz) (ad : Nat → Nat) (E : Ev) (M : Mm) (p0 : Nat) (F : Ev) (N : Mm) (h : f_Wa_init E M p0 = some (F, N)) : CT l z ⟨"Ballothall$Wards", "<init>", "()V"⟩ prog_12_method_1_code 1 none [.ref (ad p0)] (wv z ad E M) 1 40 23 355 (fun u => none) (fun u => wv z (adj E ad u) F N) := by
  refine CT.of (own := "Ballothall$Wards") (by decide +kernel) (Nat.le_of_ble_eq_true rfl) rfl (fun p e s m below meth c A ls hx hb hml hr hts hown hlocks hin hA hG hZ hP hD hS hl => ?_)
  have hl : lv_has ls 1 [(0, .ref (ad p0))] := hl
  have key : ∀ (E0 : Ev) (ad0 : Nat → Nat) (mc ms c0 s0 c1 s1 : Nat) (H : Heap) (locs : List Loc) (args : Array Value), c0 + 23 ≤ c1 → s0 + 355 ≤ s1 → c1 ≤ mc → s1 ≤ ms → (∀ i, i < nE E0 → ad i = ad0 i) → nE E0 ≤ nE E → (∀ w ∈ WG, w.before args s = true) → va_P z.1 classes (wv z ad E M) H → va_S A s.heap H locs → W p l e (rmK 1 40 mc ms) s m args below meth c H locs c0 s0 (MQ below (QK z A (fun u => none) (fun u => wv z (adj E0 ad0 u) F N)) args s c1 s1 A) (F0 m 0 ls []) := by
    intro E0 ad0 mc ms c0 s0 c1 s1 H locs args hc hs hm hm2 hag0 hE0 hts hP hS
    unfold f_Wa_init at h
    obtain ⟨h_p0, h⟩ := ck_e h
    refine lv_aload_n hx hb d_12_1_0 rfl (lv_at hl 0 rfl) ?_
    refine W.objInit hx hb hown (hts _ w_356) (hts _ w_38) (hts _ w_obj) rfl (by rw [hml]; exact hl.1) rfl d_12_1_1 (Nat.le_of_ble_eq_true rfl) (Nat.le_of_ble_eq_true rfl) ?_
    refine W.eq (g2 := F0 m 4 ls []) rfl ?_
    refine lv_aload_n hx hb d_12_1_4 rfl (lv_at hl 0 rfl) ?_
    refine lv_bipush (v := oI 16) hx hb d_12_1_5 (by decide +kernel) ?_
    obtain ⟨p0, ep0, h⟩ := nb_e h
    obtain ⟨E0, eE0, h⟩ := nb_e h
    obtain ⟨M0, eM0, h⟩ := nb_e h
    refine m_newI (x := (16 : Int)) (N := 16) hx hb (by decide) (by decide) (by decide) (hts _ w_100) hG hP hD hS hA (show _ ≤ mc by omega) (show _ ≤ ms by omega) d_12_1_7 (fun ad0 H hag0 hP hD hS => ?_)
    have hP : va_P z.1 classes (wv z ad0 E0 M0) H := by rw [eE0, eM0]; exact hP
    have hD : va_D A (wv z ad0 E0 M0) := by rw [eE0, eM0]; exact hD
    refine W.eq (g2 := F0 m 9 ls (.ref (ad0 p0) :: [.ref (ad0 p0)])) (by rw [ep0, hag0 p0 h_p0.1] <;> rfl) ?_
    have hl : lv_has ls 1 [(0, .ref (ad0 p0))] := by rw [hag0 p0 h_p0.1]; exact hl
    have hgw0 : Gw E E0 := by rw [eE0]; exact gw_new _ _
    have hag0 : ∀ i, i < nE E0 → ad0 i = ad0 i := fun i hi => (hag0 i (Nat.lt_of_lt_of_le hi hE0)).trans (hag0 i hi)
    have hE0 : nE E0 ≤ nE E0 := Nat.le_trans hE0 hgw0.1
    have h_p0 : isO 10 E0 p0 := isO_up hgw0 h_p0
    have h_p0 : isIA E0 p0 := by rw [ep0, eE0]; exact ⟨new_i _ _, by rw [new_T]⟩
    obtain ⟨E1, eE1, h⟩ := nb_e h
    refine m_prF (C := "Ballothall$Wards") (T := TX10) (N := 5) (ci := 10) (k := 1) (ty := (.array .int)) hx hb hts iX10 hown hG hP hD hS h_p0.1 h_p0.2 rfl (by decide) w_360 (fun _ h9 => h9) rfl rfl tyX10_ok nmX10 rfl hin rfl (by decide +kernel) h_p0.1 (fun _ => rfl) (fun _ => rfl) d_12_1_9 (fun H locs hP hD hS => ?_)
    have hP : va_P z.1 classes (wv z ad0 E1 M0) H := by rw [eE1]; exact hP
    have hD : va_D A (wv z ad0 E1 M0) := by rw [eE1]; exact hD
    have hgw1 : Gw E0 E1 := by rw [eE1]; exact gw_ref _ _ _ _
    have hE0 : nE E0 ≤ nE E1 := Nat.le_trans hE0 hgw1.1
    have h_p0 : isO 10 E1 p0 := isO_up hgw1 h_p0
    refine W.eq (g2 := F0 m 12 ls []) rfl ?_
    refine lv_aload_n hx hb d_12_1_12 rfl (lv_at hl 0 rfl) ?_
    refine lv_iconst (v := oI 2) hx hb d_12_1_13 (by decide +kernel) ?_
    refine lv_bipush (v := oI 16) hx hb d_12_1_14 (by decide +kernel) ?_
    obtain ⟨p2, ep2, h⟩ := nb_e h
    obtain ⟨E2, eE2, h⟩ := nb_e h
    obtain ⟨M2, eM2, h⟩ := nb_e h
    refine m_grid (x := (2 : Int)) (y := (16 : Int)) (N := 2) (K := 16) hx hb (by decide) (by decide) (by decide) (by decide) (by decide) (by decide) hown (hts _ w_357) (hts _ w_100) hG hP hD hS hA (show _ ≤ mc by omega) (show _ ≤ ms by omega) d_12_1_16 (fun ad2 H hag2 hP hD hS => ?_)
    have hP : va_P z.1 classes (wv z ad2 E2 M2) H := by rw [eE2, eM2]; exact hP
    have hD : va_D A (wv z ad2 E2 M2) := by rw [eE2, eM2]; exact hD
    refine W.eq (g2 := F0 m 20 ls (.ref (ad2 p2) :: [.ref (ad2 p0)])) (by rw [ep2, hag2 p0 h_p0.1] <;> rfl) ?_
    have hl : lv_has ls 1 [(0, .ref (ad2 p0))] := by rw [hag2 p0 h_p0.1]; exact hl
    have hgw2 : Gw E1 E2 := by rw [eE2]; exact gw_grid _ _ _
    have hag0 : ∀ i, i < nE E0 → ad2 i = ad0 i := fun i hi => (hag2 i (Nat.lt_of_lt_of_le hi hE0)).trans (hag0 i hi)
    have hE0 : nE E0 ≤ nE E2 := Nat.le_trans hE0 hgw2.1
    have h_p0 : isO 10 E2 p0 := isO_up hgw2 h_p0
    have h_p2 : isQ 6 E2 p2 := by rw [ep2, eE2]; exact ⟨grid_i _ _ _, by rw [grid_T]⟩
    obtain ⟨E3, eE3, h⟩ := nb_e h
    refine m_prF (C := "Ballothall$Wards") (T := TX10) (N := 5) (ci := 10) (k := 2) (ty := (.array (.array .int))) hx hb hts iX10 hown hG hP hD hS h_p0.1 h_p0.2 rfl (by decide) w_361 (fun _ h9 => h9) rfl rfl tyX10_ok nmX10 rfl hin rfl (by decide +kernel) h_p2.1 (fun _ => rfl) (fun _ => rfl) d_12_1_20 (fun H locs hP hD hS => ?_)
    have hP : va_P z.1 classes (wv z ad2 E3 M2) H := by rw [eE3]; exact hP
    have hD : va_D A (wv z ad2 E3 M2) := by rw [eE3]; exact hD
    have hgw3 : Gw E2 E3 := by rw [eE3]; exact gw_ref _ _ _ _
    have hE0 : nE E0 ≤ nE E3 := Nat.le_trans hE0 hgw3.1
    have h_p0 : isO 10 E3 p0 := isO_up hgw3 h_p0
    refine W.eq (g2 := F0 m 23 ls []) rfl ?_
    refine lv_aload_n hx hb d_12_1_23 rfl (lv_at hl 0 rfl) ?_
    refine lv_bipush (v := oI 17) hx hb d_12_1_24 (by decide +kernel) ?_
    refine lv_bipush (v := oI 16) hx hb d_12_1_26 (by decide +kernel) ?_
    obtain ⟨p4, ep4, h⟩ := nb_e h
    obtain ⟨E4, eE4, h⟩ := nb_e h
    obtain ⟨M4, eM4, h⟩ := nb_e h
    refine m_grid (x := (17 : Int)) (y := (16 : Int)) (N := 17) (K := 16) hx hb (by decide) (by decide) (by decide) (by decide) (by decide) (by decide) hown (hts _ w_357) (hts _ w_100) hG hP hD hS hA (show _ ≤ mc by omega) (show _ ≤ ms by omega) d_12_1_28 (fun ad4 H hag4 hP hD hS => ?_)
    have hP : va_P z.1 classes (wv z ad4 E4 M4) H := by rw [eE4, eM4]; exact hP
    have hD : va_D A (wv z ad4 E4 M4) := by rw [eE4, eM4]; exact hD
    refine W.eq (g2 := F0 m 32 ls (.ref (ad4 p4) :: [.ref (ad4 p0)])) (by rw [ep4, hag4 p0 h_p0.1] <;> rfl) ?_
    have hl : lv_has ls 1 [(0, .ref (ad4 p0))] := by rw [hag4 p0 h_p0.1]; exact hl
    have hgw4 : Gw E3 E4 := by rw [eE4]; exact gw_grid _ _ _
    have hag0 : ∀ i, i < nE E0 → ad4 i = ad0 i := fun i hi => (hag4 i (Nat.lt_of_lt_of_le hi hE0)).trans (hag0 i hi)
    have hE0 : nE E0 ≤ nE E4 := Nat.le_trans hE0 hgw4.1
    have h_p0 : isO 10 E4 p0 := isO_up hgw4 h_p0
    have h_p4 : isQ 6 E4 p4 := by rw [ep4, eE4]; exact ⟨grid_i _ _ _, by rw [grid_T]⟩
    obtain ⟨E5, eE5, h⟩ := nb_e h
    refine m_prF (C := "Ballothall$Wards") (T := TX10) (N := 5) (ci := 10) (k := 3) (ty := (.array (.array .int))) hx hb hts iX10 hown hG hP hD hS h_p0.1 h_p0.2 rfl (by decide) w_362 (fun _ h9 => h9) rfl rfl tyX10_ok nmX10 rfl hin rfl (by decide +kernel) h_p4.1 (fun _ => rfl) (fun _ => rfl) d_12_1_32 (fun H locs hP hD hS => ?_)
    have hP : va_P z.1 classes (wv z ad4 E5 M4) H := by rw [eE5]; exact hP
    have hD : va_D A (wv z ad4 E5 M4) := by rw [eE5]; exact hD
    have hgw5 : Gw E4 E5 := by rw [eE5]; exact gw_ref _ _ _ _
    have hE0 : nE E0 ≤ nE E5 := Nat.le_trans hE0 hgw5.1
    have h_p0 : isO 10 E5 p0 := isO_up hgw5 h_p0
    refine W.eq (g2 := F0 m 35 ls []) rfl ?_
    refine lv_aload_n hx hb d_12_1_35 rfl (lv_at hl 0 rfl) ?_
    refine lv_bipush (v := oI 16) hx hb d_12_1_36 (by decide +kernel) ?_
    obtain ⟨p6, ep6, h⟩ := nb_e h
    obtain ⟨E6, eE6, h⟩ := nb_e h
    obtain ⟨M6, eM6, h⟩ := nb_e h
    refine m_newI (x := (16 : Int)) (N := 16) hx hb (by decide) (by decide) (by decide) (hts _ w_100) hG hP hD hS hA (show _ ≤ mc by omega) (show _ ≤ ms by omega) d_12_1_38 (fun ad6 H hag6 hP hD hS => ?_)
    have hP : va_P z.1 classes (wv z ad6 E6 M6) H := by rw [eE6, eM6]; exact hP
    have hD : va_D A (wv z ad6 E6 M6) := by rw [eE6, eM6]; exact hD
    refine W.eq (g2 := F0 m 40 ls (.ref (ad6 p6) :: [.ref (ad6 p0)])) (by rw [ep6, hag6 p0 h_p0.1] <;> rfl) ?_
    have hl : lv_has ls 1 [(0, .ref (ad6 p0))] := by rw [hag6 p0 h_p0.1]; exact hl
    have hgw6 : Gw E5 E6 := by rw [eE6]; exact gw_new _ _
    have hag0 : ∀ i, i < nE E0 → ad6 i = ad0 i := fun i hi => (hag6 i (Nat.lt_of_lt_of_le hi hE0)).trans (hag0 i hi)
    have hE0 : nE E0 ≤ nE E6 := Nat.le_trans hE0 hgw6.1
    have h_p0 : isO 10 E6 p0 := isO_up hgw6 h_p0
    have h_p6 : isIA E6 p6 := by rw [ep6, eE6]; exact ⟨new_i _ _, by rw [new_T]⟩
    obtain ⟨E7, eE7, h⟩ := nb_e h
    refine m_prF (C := "Ballothall$Wards") (T := TX10) (N := 5) (ci := 10) (k := 4) (ty := (.array .int)) hx hb hts iX10 hown hG hP hD hS h_p0.1 h_p0.2 rfl (by decide) w_363 (fun _ h9 => h9) rfl rfl tyX10_ok nmX10 rfl hin rfl (by decide +kernel) h_p6.1 (fun _ => rfl) (fun _ => rfl) d_12_1_40 (fun H locs hP hD hS => ?_)
    have hP : va_P z.1 classes (wv z ad6 E7 M6) H := by rw [eE7]; exact hP
    have hD : va_D A (wv z ad6 E7 M6) := by rw [eE7]; exact hD
    have hgw7 : Gw E6 E7 := by rw [eE7]; exact gw_ref _ _ _ _
    have hE0 : nE E0 ≤ nE E7 := Nat.le_trans hE0 hgw7.1
    have h_p0 : isO 10 E7 p0 := isO_up hgw7 h_p0
    refine W.eq (g2 := F0 m 43 ls []) rfl ?_
    refine W.wide (k := c1) (n := s1) (by omega) (by omega) ?_
    obtain ⟨rfl, rfl⟩ := in2 h
    exact W.vret hx hb hr (fun t ht hW => qkA hP hD hS ad6 (congrArg (fun q => wv z q E7 M6) (adj_self hag0).symm) rfl ht) hS.2.2 d_12_1_43
  exact key E ad 23 355 0 0 23 355 _ _ _ (by decide) (by decide) (by decide) (by decide) (fun _ _ => rfl) (Nat.le_refl _) hts hP hS
set_option maxRecDepth 100000 in
set_option maxHeartbeats 4000000 in
theorem s_Cl_init (l : Launch) (z : Zz) (ad : Nat → Nat) (E : Ev) (M : Mm) (p0 : Nat) (F : Ev) (N : Mm) (h : f_Cl_init E M p0 = some (F, N)) : CT l z ⟨"Ballothall$Council", "<init>", "()V"⟩ prog_3_method_1_code 1 none [.ref (ad p0)] (wv z ad E M) 1 40 2 4108 (fun u => none) (fun u => wv z (adj E ad u) F N) := by
  refine CT.of (own := "Ballothall$Council") (by decide +kernel) (Nat.le_of_ble_eq_true rfl) rfl (fun p e s m below meth c A ls hx hb hml hr hts hown hlocks hin hA hG hZ hP hD hS hl => ?_)
  have hl : lv_has ls 1 [(0, .ref (ad p0))] := hl
  have key : ∀ (E0 : Ev) (ad0 : Nat → Nat) (mc ms c0 s0 c1 s1 : Nat) (H : Heap) (locs : List Loc) (args : Array Value), c0 + 2 ≤ c1 → s0 + 4108 ≤ s1 → c1 ≤ mc → s1 ≤ ms → (∀ i, i < nE E0 → ad i = ad0 i) → nE E0 ≤ nE E → (∀ w ∈ WG, w.before args s = true) → va_P z.1 classes (wv z ad E M) H → va_S A s.heap H locs → W p l e (rmK 1 40 mc ms) s m args below meth c H locs c0 s0 (MQ below (QK z A (fun u => none) (fun u => wv z (adj E0 ad0 u) F N)) args s c1 s1 A) (F0 m 0 ls []) := by
    intro E0 ad0 mc ms c0 s0 c1 s1 H locs args hc hs hm hm2 hag0 hE0 hts hP hS
    unfold f_Cl_init at h
    obtain ⟨h_p0, h⟩ := ck_e h
    refine lv_aload_n hx hb d_3_1_0 rfl (lv_at hl 0 rfl) ?_
    refine W.objInit hx hb hown (hts _ w_381) (hts _ w_38) (hts _ w_obj) rfl (by rw [hml]; exact hl.1) rfl d_3_1_1 (Nat.le_of_ble_eq_true rfl) (Nat.le_of_ble_eq_true rfl) ?_
    refine W.eq (g2 := F0 m 4 ls []) rfl ?_
    refine lv_aload_n hx hb d_3_1_4 rfl (lv_at hl 0 rfl) ?_
    refine lv_iconst (v := oI 1) hx hb d_3_1_5 (by decide +kernel) ?_
    refine m_pi (C := "Ballothall$Council") (T := TX1) (N := 4) (ci := 1) (k := 1) (ty := .int) hx hb hts iX1 hown hG hP hD hS h_p0.1 h_p0.2 rfl (by decide) w_384 (fun _ h9 => h9) rfl rfl tyX1_ok nmX1 rfl (by decide +kernel) rfl rfl d_3_1_6 (fun H locs hP hD hS => ?_)
    have hP : va_P z.1 classes (wv z ad E (u2 M p0 1 1)) H := hP
    have hD : va_D A (wv z ad E (u2 M p0 1 1)) := hD
    refine lv_aload_n hx hb d_3_1_9 rfl (lv_at hl 0 rfl) ?_
    refine lv_bipush (v := oI 12) hx hb d_3_1_10 (by decide +kernel) ?_
    obtain ⟨p0, ep0, h⟩ := nb_e h
    obtain ⟨E0, eE0, h⟩ := nb_e h
    obtain ⟨M0, eM0, h⟩ := nb_e h
    refine m_newI (x := (12 : Int)) (N := 12) hx hb (by decide) (by decide) (by decide) (hts _ w_100) hG hP hD hS hA (show _ ≤ mc by omega) (show _ ≤ ms by omega) d_3_1_12 (fun ad0 H hag0 hP hD hS => ?_)
    have hP : va_P z.1 classes (wv z ad0 E0 M0) H := by rw [eE0, eM0]; exact hP
    have hD : va_D A (wv z ad0 E0 M0) := by rw [eE0, eM0]; exact hD
    refine W.eq (g2 := F0 m 14 ls (.ref (ad0 p0) :: [.ref (ad0 p0)])) (by rw [ep0, hag0 p0 h_p0.1] <;> rfl) ?_
    have hl : lv_has ls 1 [(0, .ref (ad0 p0))] := by rw [hag0 p0 h_p0.1]; exact hl
    have hgw0 : Gw E E0 := by rw [eE0]; exact gw_new _ _
    have hag0 : ∀ i, i < nE E0 → ad0 i = ad0 i := fun i hi => (hag0 i (Nat.lt_of_lt_of_le hi hE0)).trans (hag0 i hi)
    have hE0 : nE E0 ≤ nE E0 := Nat.le_trans hE0 hgw0.1
    have h_p0 : isO 1 E0 p0 := isO_up hgw0 h_p0
    have h_p0 : isIA E0 p0 := by rw [ep0, eE0]; exact ⟨new_i _ _, by rw [new_T]⟩
    obtain ⟨E1, eE1, h⟩ := nb_e h
    refine m_prF (C := "Ballothall$Council") (T := TX1) (N := 4) (ci := 1) (k := 2) (ty := (.array .int)) hx hb hts iX1 hown hG hP hD hS h_p0.1 h_p0.2 rfl (by decide) w_386 (fun _ h9 => h9) rfl rfl tyX1_ok nmX1 rfl hin rfl (by decide +kernel) h_p0.1 (fun _ => rfl) (fun _ => rfl) d_3_1_14 (fun H locs hP hD hS => ?_)
    have hP : va_P z.1 classes (wv z ad0 E1 M0) H := by rw [eE1]; exact hP
    have hD : va_D A (wv z ad0 E1 M0) := by rw [eE1]; exact hD
    have hgw1 : Gw E0 E1 := by rw [eE1]; exact gw_ref _ _ _ _
    have hE0 : nE E0 ≤ nE E1 := Nat.le_trans hE0 hgw1.1
    have h_p0 : isO 1 E1 p0 := isO_up hgw1 h_p0
    refine W.eq (g2 := F0 m 17 ls []) rfl ?_
    refine lv_aload_n hx hb d_3_1_17 rfl (lv_at hl 0 rfl) ?_
    refine lv_sipush (v := oI 4096) hx hb d_3_1_18 (by decide +kernel) ?_
    obtain ⟨p2, ep2, h⟩ := nb_e h
    obtain ⟨E2, eE2, h⟩ := nb_e h
    obtain ⟨M2, eM2, h⟩ := nb_e h
    refine m_newI (x := (4096 : Int)) (N := 4096) hx hb (by decide) (by decide) (by decide) (hts _ w_100) hG hP hD hS hA (show _ ≤ mc by omega) (show _ ≤ ms by omega) d_3_1_21 (fun ad2 H hag2 hP hD hS => ?_)
    have hP : va_P z.1 classes (wv z ad2 E2 M2) H := by rw [eE2, eM2]; exact hP
    have hD : va_D A (wv z ad2 E2 M2) := by rw [eE2, eM2]; exact hD
    refine W.eq (g2 := F0 m 23 ls (.ref (ad2 p2) :: [.ref (ad2 p0)])) (by rw [ep2, hag2 p0 h_p0.1] <;> rfl) ?_
    have hl : lv_has ls 1 [(0, .ref (ad2 p0))] := by rw [hag2 p0 h_p0.1]; exact hl
    have hgw2 : Gw E1 E2 := by rw [eE2]; exact gw_new _ _
    have hag0 : ∀ i, i < nE E0 → ad2 i = ad0 i := fun i hi => (hag2 i (Nat.lt_of_lt_of_le hi hE0)).trans (hag0 i hi)
    have hE0 : nE E0 ≤ nE E2 := Nat.le_trans hE0 hgw2.1
    have h_p0 : isO 1 E2 p0 := isO_up hgw2 h_p0
    have h_p2 : isIA E2 p2 := by rw [ep2, eE2]; exact ⟨new_i _ _, by rw [new_T]⟩
    obtain ⟨E3, eE3, h⟩ := nb_e h
    refine m_prF (C := "Ballothall$Council") (T := TX1) (N := 4) (ci := 1) (k := 3) (ty := (.array .int)) hx hb hts iX1 hown hG hP hD hS h_p0.1 h_p0.2 rfl (by decide) w_387 (fun _ h9 => h9) rfl rfl tyX1_ok nmX1 rfl hin rfl (by decide +kernel) h_p2.1 (fun _ => rfl) (fun _ => rfl) d_3_1_23 (fun H locs hP hD hS => ?_)
    have hP : va_P z.1 classes (wv z ad2 E3 M2) H := by rw [eE3]; exact hP
    have hD : va_D A (wv z ad2 E3 M2) := by rw [eE3]; exact hD
    have hgw3 : Gw E2 E3 := by rw [eE3]; exact gw_ref _ _ _ _
    have hE0 : nE E0 ≤ nE E3 := Nat.le_trans hE0 hgw3.1
    have h_p0 : isO 1 E3 p0 := isO_up hgw3 h_p0
    refine W.eq (g2 := F0 m 26 ls []) rfl ?_
    refine W.wide (k := c1) (n := s1) (by omega) (by omega) ?_
    obtain ⟨rfl, rfl⟩ := in2 h
    exact W.vret hx hb hr (fun t ht hW => qkA hP hD hS ad2 (congrArg (fun q => wv z q E3 M2) (adj_self hag0).symm) rfl ht) hS.2.2 d_3_1_26
  exact key E ad 2 4108 0 0 2 4108 _ _ _ (by decide) (by decide) (by decide) (by decide) (fun _ _ => rfl) (Nat.le_refl _) hts hP hS
set_option maxRecDepth 100000 in
set_option maxHeartbeats 4000000 in
theorem s_B_init (l : Launch) (z : Zz) (ad : Nat → Nat) (E : Ev) (M : Mm) (p0 : Nat) (F : Ev) (N : Mm) (h : f_B_init E M p0 = some (F, N)) : CT l z ⟨"Ballothall", "<init>", "()V"⟩ prog_1_method_1_code 1 none [.ref (ad p0)] (wv z ad E M) 3 82 349 10025 (fun u => none) (fun u => wv z (adj E ad u) F N) := by
  refine CT.of (own := "Ballothall") (by decide +kernel) (Nat.le_of_ble_eq_true rfl) rfl (fun p e s m below meth c A ls hx hb hml hr hts hown hlocks hin hA hG hZ hP hD hS hl => ?_)
  have hl : lv_has ls 1 [(0, .ref (ad p0))] := hl
  have key : ∀ (E0 : Ev) (ad0 : Nat → Nat) (mc ms c0 s0 c1 s1 : Nat) (H : Heap) (locs : List Loc) (args : Array Value), c0 + 349 ≤ c1 → s0 + 10025 ≤ s1 → c1 ≤ mc → s1 ≤ ms → (∀ i, i < nE E0 → ad i = ad0 i) → nE E0 ≤ nE E → (∀ w ∈ WG, w.before args s = true) → va_P z.1 classes (wv z ad E M) H → va_S A s.heap H locs → W p l e (rmK 3 82 mc ms) s m args below meth c H locs c0 s0 (MQ below (QK z A (fun u => none) (fun u => wv z (adj E0 ad0 u) F N)) args s c1 s1 A) (F0 m 0 ls []) := by
    intro E0 ad0 mc ms c0 s0 c1 s1 H locs args hc hs hm hm2 hag0 hE0 hts hP hS
    unfold f_B_init at h
    obtain ⟨h_p0, h⟩ := ck_e h
    refine lv_aload_n hx hb d_1_1_0 rfl (lv_at hl 0 rfl) ?_
    refine W.objInit hx hb hown (hts _ w_37) (hts _ w_38) (hts _ w_obj) rfl (by rw [hml]; exact hl.1) rfl d_1_1_1 (Nat.le_of_ble_eq_true rfl) (Nat.le_of_ble_eq_true rfl) ?_
    refine W.eq (g2 := F0 m 4 ls []) rfl ?_
    refine lv_aload_n hx hb d_1_1_4 rfl (lv_at hl 0 rfl) ?_
    obtain ⟨p0, ep0, h⟩ := nb_e h
    obtain ⟨E0, eE0, h⟩ := nb_e h
    obtain ⟨M0, eM0, h⟩ := nb_e h
    refine m_newO (ci := 0) (C := "Ballothall$BallotBox") (T := TX0) (n := 10) hx hb hts iX0 tyX0_ok hown w_40 w_41 w_2 rfl (fun _ => fsX0) hG hP hD hS hA (show _ ≤ mc by omega) (show _ ≤ ms by omega) d_1_1_5 (fun ad0 H hag0 hP hD hS => ?_)
    have hP : va_P z.1 classes (wv z ad0 E0 M0) H := by rw [eE0, eM0]; exact hP
    have hD : va_D A (wv z ad0 E0 M0) := by rw [eE0, eM0]; exact hD
    refine W.eq (g2 := F0 m 8 ls (.ref (ad0 p0) :: [.ref (ad0 p0)])) (by rw [ep0, hag0 p0 h_p0.1] <;> rfl) ?_
    have hl : lv_has ls 1 [(0, .ref (ad0 p0))] := by rw [hag0 p0 h_p0.1]; exact hl
    have hgw0 : Gw E E0 := by rw [eE0]; exact gw_new _ _
    have hag0 : ∀ i, i < nE E0 → ad0 i = ad0 i := fun i hi => (hag0 i (Nat.lt_of_lt_of_le hi hE0)).trans (hag0 i hi)
    have hE0 : nE E0 ≤ nE E0 := Nat.le_trans hE0 hgw0.1
    have h_p0 : isO 11 E0 p0 := isO_up hgw0 h_p0
    have h_p0 : isO 0 E0 p0 := by rw [ep0, eE0]; exact ⟨new_i _ _, new_T _ _⟩
    refine lv_dup hx hb d_1_1_8 rfl ?_
    obtain ⟨⟨E1, M1⟩, g1, h⟩ := bd_e h
    obtain ⟨hgw1, h⟩ := ck_e h
    refine kIN (As := []) (rest := [.ref (ad0 p0), .ref (ad0 p0)]) (s_Bx_init l z ad0 E0 M0 p0 E1 M1 g1) hx hb hml hown hts w_44 n_42 w_43 rfl w_2 md_cf0c6c ⟨Nat.le_of_ble_eq_true rfl, Nat.le_of_ble_eq_true rfl⟩ hG hZ hP hD hS hA rfl hl.1 rfl (Nat.le_of_ble_eq_true rfl) d_1_1_9 ⟨(show _ ≤ mc by omega), (show _ ≤ ms by omega)⟩ (fun u1 H locs hP hD hS => ?_)
    obtain ⟨ad1, had1⟩ : ∃ q, q = adj E0 ad0 u1 := ⟨_, rfl⟩
    have hP : va_P z.1 classes (wv z ad1 E1 M1) H := by rw [had1]; exact hP
    have hD : va_D A (wv z ad1 E1 M1) := by rw [had1]; exact hD
    have hag1 : ∀ i, i < nE E0 → ad1 i = ad0 i := fun i hi => by rw [had1]; exact adj_lt hi
    have hl : lv_has ls 1 [(0, .ref (ad1 p0))] := by rw [hag1 p0 h_p0.1]; exact hl
    refine W.eq (g2 := F0 m 12 ls [.ref (ad1 p0), .ref (ad1 p0)]) (by rw [hag1 p0 h_p0.1] <;> rfl) ?_
    have hag0 : ∀ i, i < nE E0 → ad1 i = ad0 i := fun i hi => (hag1 i (Nat.lt_of_lt_of_le hi hE0)).trans (hag0 i hi)
    have hE0 : nE E0 ≤ nE E1 := Nat.le_trans hE0 hgw1.1
    have h_p0 : isO 11 E1 p0 := isO_up hgw1 h_p0
    obtain ⟨E2, eE2, h⟩ := nb_e h
    refine m_prF (C := "Ballothall") (T := TX11) (N := 14) (ci := 11) (k := 0) (ty := (.object "Ballothall$BallotBox")) hx hb hts iX11 hown hG hP hD hS h_p0.1 h_p0.2 rfl (by decide) w_397 (fun _ h9 => h9) rfl rfl tyX11_ok nmX11 rfl hin rfl (by decide +kernel) h_p0.1 (fun _ => rfl) (fun _ => rfl) d_1_1_12 (fun H locs hP hD hS => ?_)
    have hP : va_P z.1 classes (wv z ad1 E2 M1) H := by rw [eE2]; exact hP
    have hD : va_D A (wv z ad1 E2 M1) := by rw [eE2]; exact hD
    have hgw2 : Gw E1 E2 := by rw [eE2]; exact gw_ref _ _ _ _
    have hE0 : nE E0 ≤ nE E2 := Nat.le_trans hE0 hgw2.1
    have h_p0 : isO 11 E2 p0 := isO_up hgw2 h_p0
    refine W.eq (g2 := F0 m 15 ls []) rfl ?_
    refine lv_aload_n hx hb d_1_1_15 rfl (lv_at hl 0 rfl) ?_
    obtain ⟨p3, ep3, h⟩ := nb_e h
    obtain ⟨E3, eE3, h⟩ := nb_e h
    obtain ⟨M3, eM3, h⟩ := nb_e h
    refine m_newO (ci := 9) (C := "Ballothall$Poll") (T := TX9) (n := 12) hx hb hts iX9 tyX9_ok hown w_101 w_102 w_3 rfl (fun _ => fsX9) hG hP hD hS hA (show _ ≤ mc by omega) (show _ ≤ ms by omega) d_1_1_16 (fun ad3 H hag3 hP hD hS => ?_)
    have hP : va_P z.1 classes (wv z ad3 E3 M3) H := by rw [eE3, eM3]; exact hP
    have hD : va_D A (wv z ad3 E3 M3) := by rw [eE3, eM3]; exact hD
    refine W.eq (g2 := F0 m 19 ls (.ref (ad3 p3) :: [.ref (ad3 p0)])) (by rw [ep3, hag3 p0 h_p0.1] <;> rfl) ?_
    have hl : lv_has ls 1 [(0, .ref (ad3 p0))] := by rw [hag3 p0 h_p0.1]; exact hl
    have hgw3 : Gw E2 E3 := by rw [eE3]; exact gw_new _ _
    have hag0 : ∀ i, i < nE E0 → ad3 i = ad0 i := fun i hi => (hag3 i (Nat.lt_of_lt_of_le hi hE0)).trans (hag0 i hi)
    have hE0 : nE E0 ≤ nE E3 := Nat.le_trans hE0 hgw3.1
    have h_p0 : isO 11 E3 p0 := isO_up hgw3 h_p0
    have h_p3 : isO 9 E3 p3 := by rw [ep3, eE3]; exact ⟨new_i _ _, new_T _ _⟩
    refine lv_dup hx hb d_1_1_19 rfl ?_
    refine lv_aload_n hx hb d_1_1_20 rfl (lv_at hl 0 rfl) ?_
    obtain ⟨p4, g4, h⟩ := bd_e h
    obtain ⟨h_p4, h⟩ := ck_e h
    refine m_gr (j := p4) (C := "Ballothall") (T := TX11) (N := 14) (ci := 11) (k := 0) hx hb hts iX11 hown hG hP h_p0.1 h_p0.2 rfl (by decide) w_397 (fun _ h9 => h9) rfl rfl g4 d_1_1_21 ?_
    obtain ⟨⟨E5, M5⟩, g5, h⟩ := bd_e h
    obtain ⟨hgw5, h⟩ := ck_e h
    refine kIN (As := [.ref (ad3 p4)]) (rest := [.ref (ad3 p3), .ref (ad3 p0)]) (s_Po_init l z ad3 E3 M3 p3 p4 E5 M5 g5) hx hb hml hown hts w_105 n_103 w_104 rfl w_3 md_524278 ⟨Nat.le_of_ble_eq_true rfl, Nat.le_of_ble_eq_true rfl⟩ hG hZ hP hD hS hA rfl hl.1 rfl (Nat.le_of_ble_eq_true rfl) d_1_1_24 ⟨(show _ ≤ mc by omega), (show _ ≤ ms by omega)⟩ (fun u5 H locs hP hD hS => ?_)
    obtain ⟨ad5, had5⟩ : ∃ q, q = adj E3 ad3 u5 := ⟨_, rfl⟩
    have hP : va_P z.1 classes (wv z ad5 E5 M5) H := by rw [had5]; exact hP
    have hD : va_D A (wv z ad5 E5 M5) := by rw [had5]; exact hD
    have hag5 : ∀ i, i < nE E3 → ad5 i = ad3 i := fun i hi => by rw [had5]; exact adj_lt hi
    have hl : lv_has ls 1 [(0, .ref (ad5 p0))] := by rw [hag5 p0 h_p0.1]; exact hl
    refine W.eq (g2 := F0 m 27 ls [.ref (ad5 p3), .ref (ad5 p0)]) (by rw [hag5 p3 h_p3.1, hag5 p0 h_p0.1] <;> rfl) ?_
    have hag0 : ∀ i, i < nE E0 → ad5 i = ad0 i := fun i hi => (hag5 i (Nat.lt_of_lt_of_le hi hE0)).trans (hag0 i hi)
    have hE0 : nE E0 ≤ nE E5 := Nat.le_trans hE0 hgw5.1
    have h_p0 : isO 11 E5 p0 := isO_up hgw5 h_p0
    have h_p3 : isO 9 E5 p3 := isO_up hgw5 h_p3
    obtain ⟨E6, eE6, h⟩ := nb_e h
    refine m_prF (C := "Ballothall") (T := TX11) (N := 14) (ci := 11) (k := 1) (ty := (.object "Ballothall$Poll")) hx hb hts iX11 hown hG hP hD hS h_p0.1 h_p0.2 rfl (by decide) w_398 (fun _ h9 => h9) rfl rfl tyX11_ok nmX11 rfl hin rfl (by decide +kernel) h_p3.1 (fun _ => rfl) (fun _ => rfl) d_1_1_27 (fun H locs hP hD hS => ?_)
    have hP : va_P z.1 classes (wv z ad5 E6 M5) H := by rw [eE6]; exact hP
    have hD : va_D A (wv z ad5 E6 M5) := by rw [eE6]; exact hD
    have hgw6 : Gw E5 E6 := by rw [eE6]; exact gw_ref _ _ _ _
    have hE0 : nE E0 ≤ nE E6 := Nat.le_trans hE0 hgw6.1
    have h_p0 : isO 11 E6 p0 := isO_up hgw6 h_p0
    refine W.eq (g2 := F0 m 30 ls []) rfl ?_
    refine lv_aload_n hx hb d_1_1_30 rfl (lv_at hl 0 rfl) ?_
    obtain ⟨p7, ep7, h⟩ := nb_e h
    obtain ⟨E7, eE7, h⟩ := nb_e h
    obtain ⟨M7, eM7, h⟩ := nb_e h
    refine m_newO (ci := 5) (C := "Ballothall$FalseBallot") (T := TX5) (n := 3) hx hb hts iX5 tyX5_ok hown w_146 w_147 w_4 rfl (fun _ => fsX5) hG hP hD hS hA (show _ ≤ mc by omega) (show _ ≤ ms by omega) d_1_1_31 (fun ad7 H hag7 hP hD hS => ?_)
    have hP : va_P z.1 classes (wv z ad7 E7 M7) H := by rw [eE7, eM7]; exact hP
    have hD : va_D A (wv z ad7 E7 M7) := by rw [eE7, eM7]; exact hD
    refine W.eq (g2 := F0 m 34 ls (.ref (ad7 p7) :: [.ref (ad7 p0)])) (by rw [ep7, hag7 p0 h_p0.1] <;> rfl) ?_
    have hl : lv_has ls 1 [(0, .ref (ad7 p0))] := by rw [hag7 p0 h_p0.1]; exact hl
    have hgw7 : Gw E6 E7 := by rw [eE7]; exact gw_new _ _
    have hag0 : ∀ i, i < nE E0 → ad7 i = ad0 i := fun i hi => (hag7 i (Nat.lt_of_lt_of_le hi hE0)).trans (hag0 i hi)
    have hE0 : nE E0 ≤ nE E7 := Nat.le_trans hE0 hgw7.1
    have h_p0 : isO 11 E7 p0 := isO_up hgw7 h_p0
    have h_p7 : isO 5 E7 p7 := by rw [ep7, eE7]; exact ⟨new_i _ _, new_T _ _⟩
    refine lv_dup hx hb d_1_1_34 rfl ?_
    refine lv_aload_n hx hb d_1_1_35 rfl (lv_at hl 0 rfl) ?_
    obtain ⟨p8, g8, h⟩ := bd_e h
    obtain ⟨h_p8, h⟩ := ck_e h
    refine m_gr (j := p8) (C := "Ballothall") (T := TX11) (N := 14) (ci := 11) (k := 0) hx hb hts iX11 hown hG hP h_p0.1 h_p0.2 rfl (by decide) w_397 (fun _ h9 => h9) rfl rfl g8 d_1_1_36 ?_
    refine lv_aload_n hx hb d_1_1_39 rfl (lv_at hl 0 rfl) ?_
    obtain ⟨p9, g9, h⟩ := bd_e h
    obtain ⟨h_p9, h⟩ := ck_e h
    refine m_gr (j := p9) (C := "Ballothall") (T := TX11) (N := 14) (ci := 11) (k := 1) hx hb hts iX11 hown hG hP h_p0.1 h_p0.2 rfl (by decide) w_398 (fun _ h9 => h9) rfl rfl g9 d_1_1_40 ?_
    obtain ⟨⟨E10, M10⟩, g10, h⟩ := bd_e h
    obtain ⟨hgw10, h⟩ := ck_e h
    refine kIN (As := [.ref (ad7 p8), .ref (ad7 p9)]) (rest := [.ref (ad7 p7), .ref (ad7 p0)]) (s_Fb_init l z ad7 E7 M7 p7 p8 p9 E10 M10 g10) hx hb hml hown hts w_150 n_148 w_149 rfl w_4 md_a5a18a ⟨Nat.le_of_ble_eq_true rfl, Nat.le_of_ble_eq_true rfl⟩ hG hZ hP hD hS hA rfl hl.1 rfl (Nat.le_of_ble_eq_true rfl) d_1_1_43 ⟨(show _ ≤ mc by omega), (show _ ≤ ms by omega)⟩ (fun u10 H locs hP hD hS => ?_)
    obtain ⟨ad10, had10⟩ : ∃ q, q = adj E7 ad7 u10 := ⟨_, rfl⟩
    have hP : va_P z.1 classes (wv z ad10 E10 M10) H := by rw [had10]; exact hP
    have hD : va_D A (wv z ad10 E10 M10) := by rw [had10]; exact hD
    have hag10 : ∀ i, i < nE E7 → ad10 i = ad7 i := fun i hi => by rw [had10]; exact adj_lt hi
    have hl : lv_has ls 1 [(0, .ref (ad10 p0))] := by rw [hag10 p0 h_p0.1]; exact hl
    refine W.eq (g2 := F0 m 46 ls [.ref (ad10 p7), .ref (ad10 p0)]) (by rw [hag10 p7 h_p7.1, hag10 p0 h_p0.1] <;> rfl) ?_
    have hag0 : ∀ i, i < nE E0 → ad10 i = ad0 i := fun i hi => (hag10 i (Nat.lt_of_lt_of_le hi hE0)).trans (hag0 i hi)
    have hE0 : nE E0 ≤ nE E10 := Nat.le_trans hE0 hgw10.1
    have h_p0 : isO 11 E10 p0 := isO_up hgw10 h_p0
    have h_p7 : isO 5 E10 p7 := isO_up hgw10 h_p7
    obtain ⟨E11, eE11, h⟩ := nb_e h
    refine m_prF (C := "Ballothall") (T := TX11) (N := 14) (ci := 11) (k := 2) (ty := (.object "Ballothall$FalseBallot")) hx hb hts iX11 hown hG hP hD hS h_p0.1 h_p0.2 rfl (by decide) w_399 (fun _ h9 => h9) rfl rfl tyX11_ok nmX11 rfl hin rfl (by decide +kernel) h_p7.1 (fun _ => rfl) (fun _ => rfl) d_1_1_46 (fun H locs hP hD hS => ?_)
    have hP : va_P z.1 classes (wv z ad10 E11 M10) H := by rw [eE11]; exact hP
    have hD : va_D A (wv z ad10 E11 M10) := by rw [eE11]; exact hD
    have hgw11 : Gw E10 E11 := by rw [eE11]; exact gw_ref _ _ _ _
    have hE0 : nE E0 ≤ nE E11 := Nat.le_trans hE0 hgw11.1
    have h_p0 : isO 11 E11 p0 := isO_up hgw11 h_p0
    refine W.eq (g2 := F0 m 49 ls []) rfl ?_
    refine lv_aload_n hx hb d_1_1_49 rfl (lv_at hl 0 rfl) ?_
    obtain ⟨p12, ep12, h⟩ := nb_e h
    obtain ⟨E12, eE12, h⟩ := nb_e h
    obtain ⟨M12, eM12, h⟩ := nb_e h
    refine m_newO (ci := 7) (C := "Ballothall$Lists") (T := TX7) (n := 11) hx hb hts iX7 tyX7_ok hown w_163 w_164 w_5 rfl (fun _ => fsX7) hG hP hD hS hA (show _ ≤ mc by omega) (show _ ≤ ms by omega) d_1_1_50 (fun ad12 H hag12 hP hD hS => ?_)
    have hP : va_P z.1 classes (wv z ad12 E12 M12) H := by rw [eE12, eM12]; exact hP
    have hD : va_D A (wv z ad12 E12 M12) := by rw [eE12, eM12]; exact hD
    refine W.eq (g2 := F0 m 53 ls (.ref (ad12 p12) :: [.ref (ad12 p0)])) (by rw [ep12, hag12 p0 h_p0.1] <;> rfl) ?_
    have hl : lv_has ls 1 [(0, .ref (ad12 p0))] := by rw [hag12 p0 h_p0.1]; exact hl
    have hgw12 : Gw E11 E12 := by rw [eE12]; exact gw_new _ _
    have hag0 : ∀ i, i < nE E0 → ad12 i = ad0 i := fun i hi => (hag12 i (Nat.lt_of_lt_of_le hi hE0)).trans (hag0 i hi)
    have hE0 : nE E0 ≤ nE E12 := Nat.le_trans hE0 hgw12.1
    have h_p0 : isO 11 E12 p0 := isO_up hgw12 h_p0
    have h_p12 : isO 7 E12 p12 := by rw [ep12, eE12]; exact ⟨new_i _ _, new_T _ _⟩
    refine lv_dup hx hb d_1_1_53 rfl ?_
    obtain ⟨⟨E13, M13⟩, g13, h⟩ := bd_e h
    obtain ⟨hgw13, h⟩ := ck_e h
    refine kIN (As := []) (rest := [.ref (ad12 p12), .ref (ad12 p0)]) (s_Li_init l z ad12 E12 M12 p12 E13 M13 g13) hx hb hml hown hts w_167 n_165 w_166 rfl w_5 md_1045bf ⟨Nat.le_of_ble_eq_true rfl, Nat.le_of_ble_eq_true rfl⟩ hG hZ hP hD hS hA rfl hl.1 rfl (Nat.le_of_ble_eq_true rfl) d_1_1_54 ⟨(show _ ≤ mc by omega), (show _ ≤ ms by omega)⟩ (fun u13 H locs hP hD hS => ?_)
    obtain ⟨ad13, had13⟩ : ∃ q, q = adj E12 ad12 u13 := ⟨_, rfl⟩
    have hP : va_P z.1 classes (wv z ad13 E13 M13) H := by rw [had13]; exact hP
    have hD : va_D A (wv z ad13 E13 M13) := by rw [had13]; exact hD
    have hag13 : ∀ i, i < nE E12 → ad13 i = ad12 i := fun i hi => by rw [had13]; exact adj_lt hi
    have hl : lv_has ls 1 [(0, .ref (ad13 p0))] := by rw [hag13 p0 h_p0.1]; exact hl
    refine W.eq (g2 := F0 m 57 ls [.ref (ad13 p12), .ref (ad13 p0)]) (by rw [hag13 p12 h_p12.1, hag13 p0 h_p0.1] <;> rfl) ?_
    have hag0 : ∀ i, i < nE E0 → ad13 i = ad0 i := fun i hi => (hag13 i (Nat.lt_of_lt_of_le hi hE0)).trans (hag0 i hi)
    have hE0 : nE E0 ≤ nE E13 := Nat.le_trans hE0 hgw13.1
    have h_p0 : isO 11 E13 p0 := isO_up hgw13 h_p0
    have h_p12 : isO 7 E13 p12 := isO_up hgw13 h_p12
    obtain ⟨E14, eE14, h⟩ := nb_e h
    refine m_prF (C := "Ballothall") (T := TX11) (N := 14) (ci := 11) (k := 3) (ty := (.object "Ballothall$Lists")) hx hb hts iX11 hown hG hP hD hS h_p0.1 h_p0.2 rfl (by decide) w_400 (fun _ h9 => h9) rfl rfl tyX11_ok nmX11 rfl hin rfl (by decide +kernel) h_p12.1 (fun _ => rfl) (fun _ => rfl) d_1_1_57 (fun H locs hP hD hS => ?_)
    have hP : va_P z.1 classes (wv z ad13 E14 M13) H := by rw [eE14]; exact hP
    have hD : va_D A (wv z ad13 E14 M13) := by rw [eE14]; exact hD
    have hgw14 : Gw E13 E14 := by rw [eE14]; exact gw_ref _ _ _ _
    have hE0 : nE E0 ≤ nE E14 := Nat.le_trans hE0 hgw14.1
    have h_p0 : isO 11 E14 p0 := isO_up hgw14 h_p0
    refine W.eq (g2 := F0 m 60 ls []) rfl ?_
    refine lv_aload_n hx hb d_1_1_60 rfl (lv_at hl 0 rfl) ?_
    obtain ⟨p15, ep15, h⟩ := nb_e h
    obtain ⟨E15, eE15, h⟩ := nb_e h
    obtain ⟨M15, eM15, h⟩ := nb_e h
    refine m_newO (ci := 3) (C := "Ballothall$Counting") (T := TX3) (n := 15) hx hb hts iX3 tyX3_ok hown w_279 w_280 w_8 rfl (fun _ => fsX3) hG hP hD hS hA (show _ ≤ mc by omega) (show _ ≤ ms by omega) d_1_1_61 (fun ad15 H hag15 hP hD hS => ?_)
    have hP : va_P z.1 classes (wv z ad15 E15 M15) H := by rw [eE15, eM15]; exact hP
    have hD : va_D A (wv z ad15 E15 M15) := by rw [eE15, eM15]; exact hD
    refine W.eq (g2 := F0 m 64 ls (.ref (ad15 p15) :: [.ref (ad15 p0)])) (by rw [ep15, hag15 p0 h_p0.1] <;> rfl) ?_
    have hl : lv_has ls 1 [(0, .ref (ad15 p0))] := by rw [hag15 p0 h_p0.1]; exact hl
    have hgw15 : Gw E14 E15 := by rw [eE15]; exact gw_new _ _
    have hag0 : ∀ i, i < nE E0 → ad15 i = ad0 i := fun i hi => (hag15 i (Nat.lt_of_lt_of_le hi hE0)).trans (hag0 i hi)
    have hE0 : nE E0 ≤ nE E15 := Nat.le_trans hE0 hgw15.1
    have h_p0 : isO 11 E15 p0 := isO_up hgw15 h_p0
    have h_p15 : isO 3 E15 p15 := by rw [ep15, eE15]; exact ⟨new_i _ _, new_T _ _⟩
    refine lv_dup hx hb d_1_1_64 rfl ?_
    refine lv_aload_n hx hb d_1_1_65 rfl (lv_at hl 0 rfl) ?_
    obtain ⟨p16, g16, h⟩ := bd_e h
    obtain ⟨h_p16, h⟩ := ck_e h
    refine m_gr (j := p16) (C := "Ballothall") (T := TX11) (N := 14) (ci := 11) (k := 0) hx hb hts iX11 hown hG hP h_p0.1 h_p0.2 rfl (by decide) w_397 (fun _ h9 => h9) rfl rfl g16 d_1_1_66 ?_
    obtain ⟨⟨E17, M17⟩, g17, h⟩ := bd_e h
    obtain ⟨hgw17, h⟩ := ck_e h
    refine kIN (As := [.ref (ad15 p16)]) (rest := [.ref (ad15 p15), .ref (ad15 p0)]) (s_Co_init l z ad15 E15 M15 p15 p16 E17 M17 g17) hx hb hml hown hts w_283 n_281 w_282 rfl w_8 md_f590f3 ⟨Nat.le_of_ble_eq_true rfl, Nat.le_of_ble_eq_true rfl⟩ hG hZ hP hD hS hA rfl hl.1 rfl (Nat.le_of_ble_eq_true rfl) d_1_1_69 ⟨(show _ ≤ mc by omega), (show _ ≤ ms by omega)⟩ (fun u17 H locs hP hD hS => ?_)
    obtain ⟨ad17, had17⟩ : ∃ q, q = adj E15 ad15 u17 := ⟨_, rfl⟩
    have hP : va_P z.1 classes (wv z ad17 E17 M17) H := by rw [had17]; exact hP
    have hD : va_D A (wv z ad17 E17 M17) := by rw [had17]; exact hD
    have hag17 : ∀ i, i < nE E15 → ad17 i = ad15 i := fun i hi => by rw [had17]; exact adj_lt hi
    have hl : lv_has ls 1 [(0, .ref (ad17 p0))] := by rw [hag17 p0 h_p0.1]; exact hl
    refine W.eq (g2 := F0 m 72 ls [.ref (ad17 p15), .ref (ad17 p0)]) (by rw [hag17 p15 h_p15.1, hag17 p0 h_p0.1] <;> rfl) ?_
    have hag0 : ∀ i, i < nE E0 → ad17 i = ad0 i := fun i hi => (hag17 i (Nat.lt_of_lt_of_le hi hE0)).trans (hag0 i hi)
    have hE0 : nE E0 ≤ nE E17 := Nat.le_trans hE0 hgw17.1
    have h_p0 : isO 11 E17 p0 := isO_up hgw17 h_p0
    have h_p15 : isO 3 E17 p15 := isO_up hgw17 h_p15
    obtain ⟨E18, eE18, h⟩ := nb_e h
    refine m_prF (C := "Ballothall") (T := TX11) (N := 14) (ci := 11) (k := 4) (ty := (.object "Ballothall$Counting")) hx hb hts iX11 hown hG hP hD hS h_p0.1 h_p0.2 rfl (by decide) w_401 (fun _ h9 => h9) rfl rfl tyX11_ok nmX11 rfl hin rfl (by decide +kernel) h_p15.1 (fun _ => rfl) (fun _ => rfl) d_1_1_72 (fun H locs hP hD hS => ?_)
    have hP : va_P z.1 classes (wv z ad17 E18 M17) H := by rw [eE18]; exact hP
    have hD : va_D A (wv z ad17 E18 M17) := by rw [eE18]; exact hD
    have hgw18 : Gw E17 E18 := by rw [eE18]; exact gw_ref _ _ _ _
    have hE0 : nE E0 ≤ nE E18 := Nat.le_trans hE0 hgw18.1
    have h_p0 : isO 11 E18 p0 := isO_up hgw18 h_p0
    refine W.eq (g2 := F0 m 75 ls []) rfl ?_
    refine lv_aload_n hx hb d_1_1_75 rfl (lv_at hl 0 rfl) ?_
    obtain ⟨p19, ep19, h⟩ := nb_e h
    obtain ⟨E19, eE19, h⟩ := nb_e h
    obtain ⟨M19, eM19, h⟩ := nb_e h
    refine m_newO (ci := 10) (C := "Ballothall$Wards") (T := TX10) (n := 5) hx hb hts iX10 tyX10_ok hown w_351 w_352 w_10 rfl (fun _ => fsX10) hG hP hD hS hA (show _ ≤ mc by omega) (show _ ≤ ms by omega) d_1_1_76 (fun ad19 H hag19 hP hD hS => ?_)
    have hP : va_P z.1 classes (wv z ad19 E19 M19) H := by rw [eE19, eM19]; exact hP
    have hD : va_D A (wv z ad19 E19 M19) := by rw [eE19, eM19]; exact hD
    refine W.eq (g2 := F0 m 79 ls (.ref (ad19 p19) :: [.ref (ad19 p0)])) (by rw [ep19, hag19 p0 h_p0.1] <;> rfl) ?_
    have hl : lv_has ls 1 [(0, .ref (ad19 p0))] := by rw [hag19 p0 h_p0.1]; exact hl
    have hgw19 : Gw E18 E19 := by rw [eE19]; exact gw_new _ _
    have hag0 : ∀ i, i < nE E0 → ad19 i = ad0 i := fun i hi => (hag19 i (Nat.lt_of_lt_of_le hi hE0)).trans (hag0 i hi)
    have hE0 : nE E0 ≤ nE E19 := Nat.le_trans hE0 hgw19.1
    have h_p0 : isO 11 E19 p0 := isO_up hgw19 h_p0
    have h_p19 : isO 10 E19 p19 := by rw [ep19, eE19]; exact ⟨new_i _ _, new_T _ _⟩
    refine lv_dup hx hb d_1_1_79 rfl ?_
    obtain ⟨⟨E20, M20⟩, g20, h⟩ := bd_e h
    obtain ⟨hgw20, h⟩ := ck_e h
    refine kIN (As := []) (rest := [.ref (ad19 p19), .ref (ad19 p0)]) (s_Wa_init l z ad19 E19 M19 p19 E20 M20 g20) hx hb hml hown hts w_355 n_353 w_354 rfl w_10 md_728352 ⟨Nat.le_of_ble_eq_true rfl, Nat.le_of_ble_eq_true rfl⟩ hG hZ hP hD hS hA rfl hl.1 rfl (Nat.le_of_ble_eq_true rfl) d_1_1_80 ⟨(show _ ≤ mc by omega), (show _ ≤ ms by omega)⟩ (fun u20 H locs hP hD hS => ?_)
    obtain ⟨ad20, had20⟩ : ∃ q, q = adj E19 ad19 u20 := ⟨_, rfl⟩
    have hP : va_P z.1 classes (wv z ad20 E20 M20) H := by rw [had20]; exact hP
    have hD : va_D A (wv z ad20 E20 M20) := by rw [had20]; exact hD
    have hag20 : ∀ i, i < nE E19 → ad20 i = ad19 i := fun i hi => by rw [had20]; exact adj_lt hi
    have hl : lv_has ls 1 [(0, .ref (ad20 p0))] := by rw [hag20 p0 h_p0.1]; exact hl
    refine W.eq (g2 := F0 m 83 ls [.ref (ad20 p19), .ref (ad20 p0)]) (by rw [hag20 p19 h_p19.1, hag20 p0 h_p0.1] <;> rfl) ?_
    have hag0 : ∀ i, i < nE E0 → ad20 i = ad0 i := fun i hi => (hag20 i (Nat.lt_of_lt_of_le hi hE0)).trans (hag0 i hi)
    have hE0 : nE E0 ≤ nE E20 := Nat.le_trans hE0 hgw20.1
    have h_p0 : isO 11 E20 p0 := isO_up hgw20 h_p0
    have h_p19 : isO 10 E20 p19 := isO_up hgw20 h_p19
    obtain ⟨E21, eE21, h⟩ := nb_e h
    refine m_prF (C := "Ballothall") (T := TX11) (N := 14) (ci := 11) (k := 5) (ty := (.object "Ballothall$Wards")) hx hb hts iX11 hown hG hP hD hS h_p0.1 h_p0.2 rfl (by decide) w_402 (fun _ h9 => h9) rfl rfl tyX11_ok nmX11 rfl hin rfl (by decide +kernel) h_p19.1 (fun _ => rfl) (fun _ => rfl) d_1_1_83 (fun H locs hP hD hS => ?_)
    have hP : va_P z.1 classes (wv z ad20 E21 M20) H := by rw [eE21]; exact hP
    have hD : va_D A (wv z ad20 E21 M20) := by rw [eE21]; exact hD
    have hgw21 : Gw E20 E21 := by rw [eE21]; exact gw_ref _ _ _ _
    have hE0 : nE E0 ≤ nE E21 := Nat.le_trans hE0 hgw21.1
    have h_p0 : isO 11 E21 p0 := isO_up hgw21 h_p0
    refine W.eq (g2 := F0 m 86 ls []) rfl ?_
    refine lv_aload_n hx hb d_1_1_86 rfl (lv_at hl 0 rfl) ?_
    obtain ⟨p22, ep22, h⟩ := nb_e h
    obtain ⟨E22, eE22, h⟩ := nb_e h
    obtain ⟨M22, eM22, h⟩ := nb_e h
    refine m_newO (ci := 1) (C := "Ballothall$Council") (T := TX1) (n := 4) hx hb hts iX1 tyX1_ok hown w_376 w_377 w_11 rfl (fun _ => fsX1) hG hP hD hS hA (show _ ≤ mc by omega) (show _ ≤ ms by omega) d_1_1_87 (fun ad22 H hag22 hP hD hS => ?_)
    have hP : va_P z.1 classes (wv z ad22 E22 M22) H := by rw [eE22, eM22]; exact hP
    have hD : va_D A (wv z ad22 E22 M22) := by rw [eE22, eM22]; exact hD
    refine W.eq (g2 := F0 m 90 ls (.ref (ad22 p22) :: [.ref (ad22 p0)])) (by rw [ep22, hag22 p0 h_p0.1] <;> rfl) ?_
    have hl : lv_has ls 1 [(0, .ref (ad22 p0))] := by rw [hag22 p0 h_p0.1]; exact hl
    have hgw22 : Gw E21 E22 := by rw [eE22]; exact gw_new _ _
    have hag0 : ∀ i, i < nE E0 → ad22 i = ad0 i := fun i hi => (hag22 i (Nat.lt_of_lt_of_le hi hE0)).trans (hag0 i hi)
    have hE0 : nE E0 ≤ nE E22 := Nat.le_trans hE0 hgw22.1
    have h_p0 : isO 11 E22 p0 := isO_up hgw22 h_p0
    have h_p22 : isO 1 E22 p22 := by rw [ep22, eE22]; exact ⟨new_i _ _, new_T _ _⟩
    refine lv_dup hx hb d_1_1_90 rfl ?_
    obtain ⟨⟨E23, M23⟩, g23, h⟩ := bd_e h
    obtain ⟨hgw23, h⟩ := ck_e h
    refine kIN (As := []) (rest := [.ref (ad22 p22), .ref (ad22 p0)]) (s_Cl_init l z ad22 E22 M22 p22 E23 M23 g23) hx hb hml hown hts w_380 n_378 w_379 rfl w_11 md_98d1bc ⟨Nat.le_of_ble_eq_true rfl, Nat.le_of_ble_eq_true rfl⟩ hG hZ hP hD hS hA rfl hl.1 rfl (Nat.le_of_ble_eq_true rfl) d_1_1_91 ⟨(show _ ≤ mc by omega), (show _ ≤ ms by omega)⟩ (fun u23 H locs hP hD hS => ?_)
    obtain ⟨ad23, had23⟩ : ∃ q, q = adj E22 ad22 u23 := ⟨_, rfl⟩
    have hP : va_P z.1 classes (wv z ad23 E23 M23) H := by rw [had23]; exact hP
    have hD : va_D A (wv z ad23 E23 M23) := by rw [had23]; exact hD
    have hag23 : ∀ i, i < nE E22 → ad23 i = ad22 i := fun i hi => by rw [had23]; exact adj_lt hi
    have hl : lv_has ls 1 [(0, .ref (ad23 p0))] := by rw [hag23 p0 h_p0.1]; exact hl
    refine W.eq (g2 := F0 m 94 ls [.ref (ad23 p22), .ref (ad23 p0)]) (by rw [hag23 p22 h_p22.1, hag23 p0 h_p0.1] <;> rfl) ?_
    have hag0 : ∀ i, i < nE E0 → ad23 i = ad0 i := fun i hi => (hag23 i (Nat.lt_of_lt_of_le hi hE0)).trans (hag0 i hi)
    have hE0 : nE E0 ≤ nE E23 := Nat.le_trans hE0 hgw23.1
    have h_p0 : isO 11 E23 p0 := isO_up hgw23 h_p0
    have h_p22 : isO 1 E23 p22 := isO_up hgw23 h_p22
    obtain ⟨E24, eE24, h⟩ := nb_e h
    refine m_prF (C := "Ballothall") (T := TX11) (N := 14) (ci := 11) (k := 6) (ty := (.object "Ballothall$Council")) hx hb hts iX11 hown hG hP hD hS h_p0.1 h_p0.2 rfl (by decide) w_403 (fun _ h9 => h9) rfl rfl tyX11_ok nmX11 rfl hin rfl (by decide +kernel) h_p22.1 (fun _ => rfl) (fun _ => rfl) d_1_1_94 (fun H locs hP hD hS => ?_)
    have hP : va_P z.1 classes (wv z ad23 E24 M23) H := by rw [eE24]; exact hP
    have hD : va_D A (wv z ad23 E24 M23) := by rw [eE24]; exact hD
    have hgw24 : Gw E23 E24 := by rw [eE24]; exact gw_ref _ _ _ _
    have hE0 : nE E0 ≤ nE E24 := Nat.le_trans hE0 hgw24.1
    have h_p0 : isO 11 E24 p0 := isO_up hgw24 h_p0
    refine W.eq (g2 := F0 m 97 ls []) rfl ?_
    refine lv_aload_n hx hb d_1_1_97 rfl (lv_at hl 0 rfl) ?_
    refine lv_bipush (v := oI 20) hx hb d_1_1_98 (by decide +kernel) ?_
    obtain ⟨p25, ep25, h⟩ := nb_e h
    obtain ⟨E25, eE25, h⟩ := nb_e h
    obtain ⟨M25, eM25, h⟩ := nb_e h
    refine m_newI (x := (20 : Int)) (N := 20) hx hb (by decide) (by decide) (by decide) (hts _ w_100) hG hP hD hS hA (show _ ≤ mc by omega) (show _ ≤ ms by omega) d_1_1_100 (fun ad25 H hag25 hP hD hS => ?_)
    have hP : va_P z.1 classes (wv z ad25 E25 M25) H := by rw [eE25, eM25]; exact hP
    have hD : va_D A (wv z ad25 E25 M25) := by rw [eE25, eM25]; exact hD
    refine W.eq (g2 := F0 m 102 ls (.ref (ad25 p25) :: [.ref (ad25 p0)])) (by rw [ep25, hag25 p0 h_p0.1] <;> rfl) ?_
    have hl : lv_has ls 1 [(0, .ref (ad25 p0))] := by rw [hag25 p0 h_p0.1]; exact hl
    have hgw25 : Gw E24 E25 := by rw [eE25]; exact gw_new _ _
    have hag0 : ∀ i, i < nE E0 → ad25 i = ad0 i := fun i hi => (hag25 i (Nat.lt_of_lt_of_le hi hE0)).trans (hag0 i hi)
    have hE0 : nE E0 ≤ nE E25 := Nat.le_trans hE0 hgw25.1
    have h_p0 : isO 11 E25 p0 := isO_up hgw25 h_p0
    have h_p25 : isIA E25 p25 := by rw [ep25, eE25]; exact ⟨new_i _ _, by rw [new_T]⟩
    obtain ⟨E26, eE26, h⟩ := nb_e h
    refine m_prF (C := "Ballothall") (T := TX11) (N := 14) (ci := 11) (k := 7) (ty := (.array .int)) hx hb hts iX11 hown hG hP hD hS h_p0.1 h_p0.2 rfl (by decide) w_404 (fun _ h9 => h9) rfl rfl tyX11_ok nmX11 rfl hin rfl (by decide +kernel) h_p25.1 (fun _ => rfl) (fun _ => rfl) d_1_1_102 (fun H locs hP hD hS => ?_)
    have hP : va_P z.1 classes (wv z ad25 E26 M25) H := by rw [eE26]; exact hP
    have hD : va_D A (wv z ad25 E26 M25) := by rw [eE26]; exact hD
    have hgw26 : Gw E25 E26 := by rw [eE26]; exact gw_ref _ _ _ _
    have hE0 : nE E0 ≤ nE E26 := Nat.le_trans hE0 hgw26.1
    have h_p0 : isO 11 E26 p0 := isO_up hgw26 h_p0
    refine W.eq (g2 := F0 m 105 ls []) rfl ?_
    refine lv_aload_n hx hb d_1_1_105 rfl (lv_at hl 0 rfl) ?_
    refine lv_bipush (v := oI 20) hx hb d_1_1_106 (by decide +kernel) ?_
    obtain ⟨p27, ep27, h⟩ := nb_e h
    obtain ⟨E27, eE27, h⟩ := nb_e h
    obtain ⟨M27, eM27, h⟩ := nb_e h
    refine m_newI (x := (20 : Int)) (N := 20) hx hb (by decide) (by decide) (by decide) (hts _ w_100) hG hP hD hS hA (show _ ≤ mc by omega) (show _ ≤ ms by omega) d_1_1_108 (fun ad27 H hag27 hP hD hS => ?_)
    have hP : va_P z.1 classes (wv z ad27 E27 M27) H := by rw [eE27, eM27]; exact hP
    have hD : va_D A (wv z ad27 E27 M27) := by rw [eE27, eM27]; exact hD
    refine W.eq (g2 := F0 m 110 ls (.ref (ad27 p27) :: [.ref (ad27 p0)])) (by rw [ep27, hag27 p0 h_p0.1] <;> rfl) ?_
    have hl : lv_has ls 1 [(0, .ref (ad27 p0))] := by rw [hag27 p0 h_p0.1]; exact hl
    have hgw27 : Gw E26 E27 := by rw [eE27]; exact gw_new _ _
    have hag0 : ∀ i, i < nE E0 → ad27 i = ad0 i := fun i hi => (hag27 i (Nat.lt_of_lt_of_le hi hE0)).trans (hag0 i hi)
    have hE0 : nE E0 ≤ nE E27 := Nat.le_trans hE0 hgw27.1
    have h_p0 : isO 11 E27 p0 := isO_up hgw27 h_p0
    have h_p27 : isIA E27 p27 := by rw [ep27, eE27]; exact ⟨new_i _ _, by rw [new_T]⟩
    obtain ⟨E28, eE28, h⟩ := nb_e h
    refine m_prF (C := "Ballothall") (T := TX11) (N := 14) (ci := 11) (k := 8) (ty := (.array .int)) hx hb hts iX11 hown hG hP hD hS h_p0.1 h_p0.2 rfl (by decide) w_405 (fun _ h9 => h9) rfl rfl tyX11_ok nmX11 rfl hin rfl (by decide +kernel) h_p27.1 (fun _ => rfl) (fun _ => rfl) d_1_1_110 (fun H locs hP hD hS => ?_)
    have hP : va_P z.1 classes (wv z ad27 E28 M27) H := by rw [eE28]; exact hP
    have hD : va_D A (wv z ad27 E28 M27) := by rw [eE28]; exact hD
    have hgw28 : Gw E27 E28 := by rw [eE28]; exact gw_ref _ _ _ _
    have hE0 : nE E0 ≤ nE E28 := Nat.le_trans hE0 hgw28.1
    have h_p0 : isO 11 E28 p0 := isO_up hgw28 h_p0
    refine W.eq (g2 := F0 m 113 ls []) rfl ?_
    refine lv_aload_n hx hb d_1_1_113 rfl (lv_at hl 0 rfl) ?_
    refine lv_bipush (v := oI 20) hx hb d_1_1_114 (by decide +kernel) ?_
    obtain ⟨p29, ep29, h⟩ := nb_e h
    obtain ⟨E29, eE29, h⟩ := nb_e h
    obtain ⟨M29, eM29, h⟩ := nb_e h
    refine m_newI (x := (20 : Int)) (N := 20) hx hb (by decide) (by decide) (by decide) (hts _ w_100) hG hP hD hS hA (show _ ≤ mc by omega) (show _ ≤ ms by omega) d_1_1_116 (fun ad29 H hag29 hP hD hS => ?_)
    have hP : va_P z.1 classes (wv z ad29 E29 M29) H := by rw [eE29, eM29]; exact hP
    have hD : va_D A (wv z ad29 E29 M29) := by rw [eE29, eM29]; exact hD
    refine W.eq (g2 := F0 m 118 ls (.ref (ad29 p29) :: [.ref (ad29 p0)])) (by rw [ep29, hag29 p0 h_p0.1] <;> rfl) ?_
    have hl : lv_has ls 1 [(0, .ref (ad29 p0))] := by rw [hag29 p0 h_p0.1]; exact hl
    have hgw29 : Gw E28 E29 := by rw [eE29]; exact gw_new _ _
    have hag0 : ∀ i, i < nE E0 → ad29 i = ad0 i := fun i hi => (hag29 i (Nat.lt_of_lt_of_le hi hE0)).trans (hag0 i hi)
    have hE0 : nE E0 ≤ nE E29 := Nat.le_trans hE0 hgw29.1
    have h_p0 : isO 11 E29 p0 := isO_up hgw29 h_p0
    have h_p29 : isIA E29 p29 := by rw [ep29, eE29]; exact ⟨new_i _ _, by rw [new_T]⟩
    obtain ⟨E30, eE30, h⟩ := nb_e h
    refine m_prF (C := "Ballothall") (T := TX11) (N := 14) (ci := 11) (k := 9) (ty := (.array .int)) hx hb hts iX11 hown hG hP hD hS h_p0.1 h_p0.2 rfl (by decide) w_406 (fun _ h9 => h9) rfl rfl tyX11_ok nmX11 rfl hin rfl (by decide +kernel) h_p29.1 (fun _ => rfl) (fun _ => rfl) d_1_1_118 (fun H locs hP hD hS => ?_)
    have hP : va_P z.1 classes (wv z ad29 E30 M29) H := by rw [eE30]; exact hP
    have hD : va_D A (wv z ad29 E30 M29) := by rw [eE30]; exact hD
    have hgw30 : Gw E29 E30 := by rw [eE30]; exact gw_ref _ _ _ _
    have hE0 : nE E0 ≤ nE E30 := Nat.le_trans hE0 hgw30.1
    have h_p0 : isO 11 E30 p0 := isO_up hgw30 h_p0
    refine W.eq (g2 := F0 m 121 ls []) rfl ?_
    refine lv_aload_n hx hb d_1_1_121 rfl (lv_at hl 0 rfl) ?_
    refine lv_sipush (v := oI 240) hx hb d_1_1_122 (by decide +kernel) ?_
    obtain ⟨p31, ep31, h⟩ := nb_e h
    obtain ⟨E31, eE31, h⟩ := nb_e h
    obtain ⟨M31, eM31, h⟩ := nb_e h
    refine m_newI (x := (240 : Int)) (N := 240) hx hb (by decide) (by decide) (by decide) (hts _ w_100) hG hP hD hS hA (show _ ≤ mc by omega) (show _ ≤ ms by omega) d_1_1_125 (fun ad31 H hag31 hP hD hS => ?_)
    have hP : va_P z.1 classes (wv z ad31 E31 M31) H := by rw [eE31, eM31]; exact hP
    have hD : va_D A (wv z ad31 E31 M31) := by rw [eE31, eM31]; exact hD
    refine W.eq (g2 := F0 m 127 ls (.ref (ad31 p31) :: [.ref (ad31 p0)])) (by rw [ep31, hag31 p0 h_p0.1] <;> rfl) ?_
    have hl : lv_has ls 1 [(0, .ref (ad31 p0))] := by rw [hag31 p0 h_p0.1]; exact hl
    have hgw31 : Gw E30 E31 := by rw [eE31]; exact gw_new _ _
    have hag0 : ∀ i, i < nE E0 → ad31 i = ad0 i := fun i hi => (hag31 i (Nat.lt_of_lt_of_le hi hE0)).trans (hag0 i hi)
    have hE0 : nE E0 ≤ nE E31 := Nat.le_trans hE0 hgw31.1
    have h_p0 : isO 11 E31 p0 := isO_up hgw31 h_p0
    have h_p31 : isIA E31 p31 := by rw [ep31, eE31]; exact ⟨new_i _ _, by rw [new_T]⟩
    obtain ⟨E32, eE32, h⟩ := nb_e h
    refine m_prF (C := "Ballothall") (T := TX11) (N := 14) (ci := 11) (k := 12) (ty := (.array .int)) hx hb hts iX11 hown hG hP hD hS h_p0.1 h_p0.2 rfl (by decide) w_409 (fun _ h9 => h9) rfl rfl tyX11_ok nmX11 rfl hin rfl (by decide +kernel) h_p31.1 (fun _ => rfl) (fun _ => rfl) d_1_1_127 (fun H locs hP hD hS => ?_)
    have hP : va_P z.1 classes (wv z ad31 E32 M31) H := by rw [eE32]; exact hP
    have hD : va_D A (wv z ad31 E32 M31) := by rw [eE32]; exact hD
    have hgw32 : Gw E31 E32 := by rw [eE32]; exact gw_ref _ _ _ _
    have hE0 : nE E0 ≤ nE E32 := Nat.le_trans hE0 hgw32.1
    have h_p0 : isO 11 E32 p0 := isO_up hgw32 h_p0
    refine W.eq (g2 := F0 m 130 ls []) rfl ?_
    refine W.wide (k := c1) (n := s1) (by omega) (by omega) ?_
    obtain ⟨rfl, rfl⟩ := in2 h
    exact W.vret hx hb hr (fun t ht hW => qkA hP hD hS ad31 (congrArg (fun q => wv z q E32 M31) (adj_self hag0).symm) rfl ht) hS.2.2 d_1_1_130
  exact key E ad 349 10025 0 0 349 10025 _ _ _ (by decide) (by decide) (by decide) (by decide) (fun _ _ => rfl) (Nat.le_refl _) hts hP hS
set_option maxRecDepth 100000 in
set_option maxHeartbeats 4000000 in
theorem s_La_next (l : Launch) (z : Zz) (ad : Nat → Nat) (E : Ev) (M : Mm) (p0 : Nat) (x1 : Int) (r : Int) (N : Mm) (hL : Lay E) (h : f_La_next E M p0 x1 = some (r, N)) : CT l z ⟨"BallothallLaw", "next", "([II)I"⟩ method_2_code 2 (some .int) [.ref (ad p0), .int (oI x1)] (wv z ad E M) 0 20 0 0 (fun _ => some (.int (oI r))) (fun _ => (wv z ad E N)) := by
  refine CT.of (own := "BallothallLaw") (by decide +kernel) (Nat.le_of_ble_eq_true rfl) rfl (fun p e s m below meth c A ls hx hb hml hr hts hown hlocks hin hA hG hZ hP hD hS hl => ?_)
  have hl : lv_has ls 2 [(0, .ref (ad p0)), (1, .int (oI x1))] := hl
  have key : ∀ (H : Heap) (locs : List Loc) (args : Array Value), (∀ w ∈ WG, w.before args s = true) → va_P z.1 classes (wv z ad E M) H → va_S A s.heap H locs → W p l e (rmK 0 20 0 0) s m args below meth c H locs 0 0 (MQ below (QK z A (fun _ => some (.int (oI r))) (fun _ => (wv z ad E N))) args s 0 0 A) (F0 m 0 ls []) := by
    intro H locs args hts hP hS
    unfold f_La_next at h
    obtain ⟨h_p0, h⟩ := ck_e h
    refine lv_aload_n hx hb d_L2_0 rfl (lv_at hl 0 rfl) ?_
    refine lv_iconst (v := oI 0) hx hb d_L2_1 (by decide +kernel) ?_
    refine lv_aload_n hx hb d_L2_2 rfl (lv_at hl 0 rfl) ?_
    refine lv_iconst (v := oI 0) hx hb d_L2_3 (by decide +kernel) ?_
    obtain ⟨ok0, h⟩ := ck_e h
    refine m_ia hx hb hG hP h_p0.1 (isIA_T h_p0) ok0 d_L2_4 ?_
    refine nrm (x1 := oI (M p0 0)) rfl ?_
    refine lv_ldc hx hb hown (hts _ w_798) d_L2_5 ?_
    refine nrm (x1 := oI 1103515245) (by decide +kernel) ?_
    refine lv_imul hx hb d_L2_7 ?_
    refine nrm (oI_mul _ _) ?_
    refine lv_sipush (v := oI 12345) hx hb d_L2_8 (by decide +kernel) ?_
    refine lv_iadd hx hb d_L2_11 ?_
    refine nrm (oI_add _ _) ?_
    obtain ⟨v1, e1, h⟩ := nb_e h
    refine nrm (congrArg oI e1.symm) ?_
    refine m_is hx hb hG hP hD hS h_p0.1 (isIA_T h_p0) ok0 d_L2_12 (fun H locs hP hD hS => ?_)
    have hP : va_P z.1 classes (wv z ad E (u2 M p0 0 v1)) H := hP
    have hD : va_D A (wv z ad E (u2 M p0 0 v1)) := hD
    refine lv_aload_n hx hb d_L2_13 rfl (lv_at hl 0 rfl) ?_
    refine lv_iconst (v := oI 0) hx hb d_L2_14 (by decide +kernel) ?_
    refine m_ia hx hb hG hP h_p0.1 (isIA_T h_p0) ok0 d_L2_15 ?_
    refine nrm (x1 := oI ((u2 M p0 0 v1) p0 0)) rfl ?_
    refine lv_bipush (v := oI 8) hx hb d_L2_16 (by decide +kernel) ?_
    refine lv_iushr (v := oI (ushI ((u2 M p0 0 v1) p0 0) 8)) hx hb d_L2_18 (oI_ushr _ 8 _ (by decide +kernel)) ?_
    refine lv_iload_n hx hb d_L2_19 rfl (lv_at hl 1 rfl) ?_
    obtain ⟨ok2, h⟩ := ck_e h
    refine lv_irem hx hb d_L2_20 (oI_nz ok2.1 ok2.2) ?_
    refine nrm (oI_rem (a := (ushI ((u2 M p0 0 v1) p0 0) 8)) (b := x1) (ushI_nn (by decide)).1 (ushI_nn (by decide)).2 ok2.1 ok2.2) ?_
    obtain ⟨rfl, rfl⟩ := in2 h
    exact W.iret hx hb hr (fun t ht hW => qkA hP hD hS (fun k => k) rfl rfl ht) hS.2.2 d_L2_21
  exact key _ _ _ hts hP hS
