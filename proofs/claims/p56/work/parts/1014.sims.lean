set_option maxRecDepth 100000 in
set_option maxHeartbeats 4000000 in
theorem s_La_pairs_417 (l : Launch) (z : Zz) (E0 : Ev) (ad0 : Nat → Nat) (q1 : Nat) (q2 : Nat) {Q : State → Prop} {p : Program} {e : Env} {s : State} {m : MethodId} {below : List Frame} {meth : Method} {c : Code} {A : Nat → Prop} {args : Array Value} (hx : p.tables.exec = Jvm.exec) (hb : c.code = method_7_code) (hml : c.maxLocals = 12) (hts : ∀ w ∈ WG, w.before args s = true) (hown : s.vm.findClass "BallothallLaw" = some m.cls) (hlocks : meth.locks = false) (hA : ∀ q, s.heap.size ≤ q → A q) (hG : KG z s) (hZ : FZ z A s) (mc ms c1 s1 : Nat) (hm : c1 ≤ mc) (hm2 : s1 ≤ ms) : ∀ (fu c0 s0 : Nat) (ad : Nat → Nat) (E : Ev) (M : Mm) (x3 : Int) (x6 : Int) (x8 : Int) (t : Nat) (w3 : Int) (w6 : Int) (w8 : Int) (F : Ev) (N : Mm), c0 + fu * 0 ≤ c1 → s0 + fu * 0 ≤ s1 → (∀ i, i < nE E0 → ad i = ad0 i) → nE E0 ≤ nE E → l_La_pairs_417 q1 q2 fu E M x3 x6 x8 = some (t, w3, w6, w8, F, N) → (∀ (ad1 : Nat → Nat), (∀ i, i < nE E0 → ad1 i = ad0 i) → nE E0 ≤ nE F → t = 1 → ∀ (H : Heap) (locs : List Loc) (ls : Array Slot), va_P z.1 classes (wv z ad1 F N) H → va_D A (wv z ad1 F N) → va_S A s.heap H locs → lv_has ls 12 [(0, .ref (ad1 1)), (3, .int (oI w3)), (6, .long (oJ w6))] → W p l e (rmK 5 144 mc ms) s m args below meth c H locs c1 s1 Q (F0 m 528 ls [])) → ∀ (H : Heap) (locs : List Loc) (ls : Array Slot), va_P z.1 classes (wv z ad E M) H → va_D A (wv z ad E M) → va_S A s.heap H locs → lv_has ls 12 [(0, .ref (ad 1)), (1, .ref (ad q1)), (2, .ref (ad q2)), (3, .int (oI x3)), (6, .long (oJ x6)), (8, .int (oI x8))] → W p l e (rmK 5 144 mc ms) s m args below meth c H locs c0 s0 Q (F0 m 417 ls []) := by
  intro fu
  induction fu with
  | zero =>
    intro c0 s0 ad E M x3 x6 x8 t w3 w6 w8 F N hc hs hag0 hE0 h
    have h : (none : Option (Nat × Int × Int × Int × Ev × Mm)) = some _ := h
    cases h
  | succ fu ih =>
    intro c0 s0 ad E M x3 x6 x8 t w3 w6 w8 F N hc hs hag0 hE0 h k1 H locs ls hP hD hS hl
    obtain ⟨⟨t0, w30, w60, w80, F9, N9⟩, g0, h⟩ := bd_e h
    refine W.wide (Nat.le_refl _) (Nat.le_refl _) (b_La_pairs_417b l z E0 ad0 ad E M q1 q2 x3 x6 x8 t0 w30 w60 w80 F9 N9 hx hb hml hts hown hlocks hA hG hZ mc ms c0 s0 (c0 + 0) (s0 + 0) (Nat.le_refl _) (Nat.le_refl _) (by omega) (by omega) hag0 hE0 g0 (fun ad1 ha he e0 => ?_) (fun ad1 ha he e0 => ?_) H locs ls hP hD hS hl)
    · subst e0
      have h := ite_t rfl h
      exact ih (c0 + 0) (s0 + 0) ad1 F9 N9 w30 w60 w80 t w3 w6 w8 F N (by omega) (by omega) ha he h k1
    · subst e0
      have h := ite_f (by decide) h
      obtain ⟨rfl, rfl, rfl, rfl, rfl, rfl⟩ := in6 h
      exact fun H locs ls hP hD hS hl => W.wide (by omega) (by omega) (k1 ad1 ha he rfl H locs ls hP hD hS hl)
set_option maxRecDepth 100000 in
set_option maxHeartbeats 4000000 in
theorem b_La_pairs_j528 (l : Launch) (z : Zz) (E0 : Ev) (ad0 : Nat → Nat) (ad : Nat → Nat) (E : Ev) (M : Mm) (x3 : Int) (x6 : Int) (r : Int) (F : Ev) (N : Mm) {p : Program} {e : Env} {s : State} {m : MethodId} {below : List Frame} {meth : Method} {c : Code} {A : Nat → Prop} {args : Array Value} (hx : p.tables.exec = Jvm.exec) (hb : c.code = method_7_code) (hml : c.maxLocals = 12) (hts : ∀ w ∈ WG, w.before args s = true) (hown : s.vm.findClass "BallothallLaw" = some m.cls) (hlocks : meth.locks = false) (hA : ∀ q, s.heap.size ≤ q → A q) (hG : KG z s) (hZ : FZ z A s) (hr : meth.sig.returnType = (some .boolean)) (mc ms c0 s0 c1 s1 : Nat) (hc : c0 + 0 ≤ c1) (hs : s0 + 0 ≤ s1) (hm : c1 ≤ mc) (hm2 : s1 ≤ ms) (hag0 : ∀ i, i < nE E0 → ad i = ad0 i) (hE0 : nE E0 ≤ nE E) (h : La_pairs_j528 E M x3 x6 = some (r, F, N)) : ∀ (H : Heap) (locs : List Loc) (ls : Array Slot), va_P z.1 classes (wv z ad E M) H → va_D A (wv z ad E M) → va_S A s.heap H locs → lv_has ls 12 [(0, .ref (ad 1)), (3, .int (oI x3)), (6, .long (oJ x6))] → W p l e (rmK 5 144 mc ms) s m args below meth c H locs c0 s0 (MQ below (QK z A (fun u => some (.int (oI r))) (fun u => wv z (adj E0 ad0 u) F N)) args s c1 s1 A) (F0 m 528 ls []) := by
  intro H locs ls hP hD hS hl
  unfold La_pairs_j528 at h
  obtain ⟨hL, h⟩ := ck_e h
  refine lv_iload_n hx hb d_L7_528 rfl (lv_at hl 1 rfl) ?_
  obtain ⟨ok202, h⟩ := ck_e h
  refine lv_if_eq (tgt := 546) hx hb d_L7_529 (by decide) (fun c9 => ?_) (fun c9 => ?_)
  · have h := ite_t ((oI_eq0 ok202).mp c9) h
    refine lv_iconst (v := oI 0) hx hb d_L7_546 (by decide +kernel) ?_
    refine W.wide (k := c1) (n := s1) (by omega) (by omega) ?_
    obtain ⟨rfl, rfl, rfl⟩ := in3 h
    exact W.zret hx hb hr rfl (fun t ht hW => qkA hP hD hS ad (congrArg (fun q => wv z q E M) (adj_self hag0).symm) rfl ht) hS.2.2 d_L7_547
  · have h := ite_f (fun q => c9 ((oI_eq0 ok202).mpr q)) h
    refine lv_lload hx hb d_L7_532 (lv_at hl 2 rfl) ?_
    refine lv_aload_n hx hb d_L7_534 rfl (lv_at hl 0 rfl) ?_
    obtain ⟨⟨r203, M203⟩, g203, h⟩ := bd_e h
    refine kV (As := []) (rest := [.long (oJ x6)]) (s_B_consensusDistance l z ad E M r203 M203 hL g203) hx hb hml hown hts w_1352 w_1349 w_1350 w_1351 w_1 md_d7c82f ⟨Nat.le_of_ble_eq_true rfl, Nat.le_of_ble_eq_true rfl⟩ hG hZ hP hD hS hA 1 (wv_o (ci := 11) (yi_1 hL) (yt_1 hL)) rfl rfl rfl hl.1 rfl (Nat.le_of_ble_eq_true rfl) d_L7_535 ⟨(show _ ≤ mc by omega), (show _ ≤ ms by omega)⟩ (fun _ H locs hP hD hS => ?_)
    have hP : va_P z.1 classes (wv z ad E M203) H := hP
    have hD : va_D A (wv z ad E M203) := hD
    refine W.eq (g2 := F0 m 538 ls [.long (oJ r203), .long (oJ x6)]) rfl ?_
    obtain ⟨ok204, h⟩ := ck_e h
    obtain ⟨ok205, h⟩ := ck_e h
    refine W.lcmp hx hb d_L7_538 ?_
    refine nrm (cmp_val (a := x6) (b := r203) ok204 ok205) ?_
    refine lv_if_ne (tgt := 546) hx hb d_L7_539 (by decide) (fun c9 => ?_) (fun c9 => ?_)
    · have h := ite_f (fun q => c9 ((cmp_eq x6 r203).mpr q)) h
      refine lv_iconst (v := oI 0) hx hb d_L7_546 (by decide +kernel) ?_
      refine W.wide (k := c1) (n := s1) (by omega) (by omega) ?_
      obtain ⟨rfl, rfl, rfl⟩ := in3 h
      exact W.zret hx hb hr rfl (fun t ht hW => qkA hP hD hS ad (congrArg (fun q => wv z q E M203) (adj_self hag0).symm) rfl ht) hS.2.2 d_L7_547
    · have h := ite_t ((cmp_eq x6 r203).mp c9) h
      refine lv_iconst (v := oI 1) hx hb d_L7_542 (by decide +kernel) ?_
      refine lv_goto (tgt := 547) hx hb d_L7_543 (by decide) ?_
      refine W.wide (k := c1) (n := s1) (by omega) (by omega) ?_
      obtain ⟨rfl, rfl, rfl⟩ := in3 h
      exact W.zret hx hb hr rfl (fun t ht hW => qkA hP hD hS ad (congrArg (fun q => wv z q E M203) (adj_self hag0).symm) rfl ht) hS.2.2 d_L7_547
set_option maxRecDepth 100000 in
set_option maxHeartbeats 4000000 in
theorem s_La_pairs (l : Launch) (z : Zz) (ad : Nat → Nat) (E : Ev) (M : Mm) (p1 : Nat) (r : Int) (F : Ev) (N : Mm) (h : f_La_pairs E M p1 = some (r, F, N)) : CT l z ⟨"BallothallLaw", "pairs", "(LBallothall;LBallothallLaw$Box;)Z"⟩ method_7_code 12 (some .boolean) [.ref (ad 1), .ref (ad p1)] (wv z ad E M) 5 144 9 72 (fun u => some (.int (oI r))) (fun u => wv z (adj E ad u) F N) := by
  refine CT.of (own := "BallothallLaw") (by decide +kernel) (Nat.le_of_ble_eq_true rfl) rfl (fun p e s m below meth c A ls hx hb hml hr hts hown hlocks hin hA hG hZ hP hD hS hl => ?_)
  have hl : lv_has ls 12 [(0, .ref (ad 1)), (1, .ref (ad p1))] := hl
  have key : ∀ (E0 : Ev) (ad0 : Nat → Nat) (mc ms c0 s0 c1 s1 : Nat) (H : Heap) (locs : List Loc) (args : Array Value), c0 + 9 ≤ c1 → s0 + 72 ≤ s1 → c1 ≤ mc → s1 ≤ ms → (∀ i, i < nE E0 → ad i = ad0 i) → nE E0 ≤ nE E → (∀ w ∈ WG, w.before args s = true) → va_P z.1 classes (wv z ad E M) H → va_S A s.heap H locs → W p l e (rmK 5 144 mc ms) s m args below meth c H locs c0 s0 (MQ below (QK z A (fun u => some (.int (oI r))) (fun u => wv z (adj E0 ad0 u) F N)) args s c1 s1 A) (F0 m 0 ls []) := by
    intro E0 ad0 mc ms c0 s0 c1 s1 H locs args hc hs hm hm2 hag0 hE0 hts hP hS
    unfold f_La_pairs at h
    obtain ⟨hL, h⟩ := ck_e h
    obtain ⟨h_p1, h⟩ := ck_e h
    refine lv_aload_n hx hb d_L7_0 rfl (lv_at hl 1 rfl) ?_
    refine m_giN (C := "BallothallLaw$Box") (T := TX12) (N := 4) (ci := 12) (k := 0) hx hb hts iX12 hown hG hP h_p1.1 h_p1.2 rfl (by decide) n_775 rfl (fun _ h9 => h9) rfl rfl d_L7_1 ?_
    refine lv_aload_n hx hb d_L7_4 rfl (lv_at hl 1 rfl) ?_
    refine m_giN (C := "BallothallLaw$Box") (T := TX12) (N := 4) (ci := 12) (k := 0) hx hb hts iX12 hown hG hP h_p1.1 h_p1.2 rfl (by decide) n_775 rfl (fun _ h9 => h9) rfl rfl d_L7_5 ?_
    obtain ⟨ok100, h⟩ := ck_e h
    obtain ⟨ok101, h⟩ := ck_e h
    obtain ⟨p102, ep102, h⟩ := nb_e h
    obtain ⟨E102, eE102, h⟩ := nb_e h
    obtain ⟨M102, eM102, h⟩ := nb_e h
    refine m_grid (x := (M p1 0)) (y := (M p1 0)) (N := 8) (K := 8) hx hb ok100.1 ok100.2 (by decide) ok101.1 ok101.2 (by decide) hown (hts _ w_1300) (hts _ w_100) hG hP hD hS hA (show _ ≤ mc by omega) (show _ ≤ ms by omega) d_L7_8 (fun ad102 H hag102 hP hD hS => ?_)
    have hP : va_P z.1 classes (wv z ad102 E102 M102) H := by rw [eE102, eM102]; exact hP
    have hD : va_D A (wv z ad102 E102 M102) := by rw [eE102, eM102]; exact hD
    refine W.eq (g2 := F0 m 12 ls (.ref (ad102 p102) :: [])) (by rw [ep102] <;> rfl) ?_
    have hl : lv_has ls 12 [(0, .ref (ad102 1)), (1, .ref (ad102 p1))] := by rw [hag102 1 (yi_1 hL), hag102 p1 h_p1.1]; exact hl
    have hgw102 : Gw E E102 := by rw [eE102]; exact gw_grid _ _ _
    have hL102 : Lay E102 := by rw [eE102]; exact lay_grid hL
    have hag0 : ∀ i, i < nE E0 → ad102 i = ad0 i := fun i hi => (hag102 i (Nat.lt_of_lt_of_le hi hE0)).trans (hag0 i hi)
    have hE0 : nE E0 ≤ nE E102 := Nat.le_trans hE0 hgw102.1
    have hL : Lay E102 := hL102
    have h_p1 : isO 12 E102 p1 := isO_up hgw102 h_p1
    have h_p102 : isQ 6 E102 p102 := by rw [ep102, eE102]; exact ⟨grid_i _ _ _, by rw [grid_T]⟩
    refine lv_astore_n (lv' := [(2, .ref (ad102 p102)), (0, .ref (ad102 1)), (1, .ref (ad102 p1))]) hx hb d_L7_12 rfl hl (by decide) rfl (fun ls hl => ?_)
    refine lv_iconst (v := oI 1) hx hb d_L7_13 (by decide +kernel) ?_
    refine lv_istore_n (lv' := [(3, .int (oI 1)), (2, .ref (ad102 p102)), (0, .ref (ad102 1)), (1, .ref (ad102 p1))]) hx hb d_L7_14 rfl hl (by decide) rfl (fun ls hl => ?_)
    refine lv_iconst (v := oI 0) hx hb d_L7_15 (by decide +kernel) ?_
    refine lv_istore (lv' := [(4, .int (oI 0)), (3, .int (oI 1)), (2, .ref (ad102 p102)), (0, .ref (ad102 1)), (1, .ref (ad102 p1))]) hx hb d_L7_16 hl (by decide) rfl (fun ls hl => ?_)
    obtain ⟨⟨t119, v119_3, v119_4, E119, M119⟩, g119, h⟩ := bd_e h
    obtain ⟨hgw119, h⟩ := ck_e h
    obtain ⟨hL119, h⟩ := ck_e h
    obtain ⟨ok119, h⟩ := ck_e h
    refine s_La_pairs_18 l z E102 ad102 p1 p102 hx hb hml hts hown hlocks hA hG hZ mc ms (c0 + 9) (s0 + 72) (by omega) (by omega) 5000 _ _ ad102 E102 M102 1 0 t119 v119_3 v119_4 E119 M119 (by omega) (by omega) (fun _ _ => rfl) (Nat.le_refl _) g119 (fun ad119 hag119 hEE119 e119 H locs ls hP hD hS hl => ?_) H locs ls hP hD hS (lv_sub hl [3, 4, 2, 1, 0] rfl)
    have hag0 : ∀ i, i < nE E0 → ad119 i = ad0 i := fun i hi => (hag119 i (Nat.lt_of_lt_of_le hi hE0)).trans (hag0 i hi)
    have hE0 : nE E0 ≤ nE E119 := Nat.le_trans hE0 hgw119.1
    have hL : Lay E119 := hL119
    have h_p1 : isO 12 E119 p1 := isO_up hgw119 h_p1
    have h_p102 : isQ 6 E119 p102 := isA_up hgw119 h_p102
    refine lv_aload_n hx hb d_L7_105 rfl (lv_at hl 0 rfl) ?_
    obtain ⟨⟨r120, M120⟩, g120, h⟩ := bd_e h
    refine kV (As := []) (rest := []) (s_B_beatingSet l z ad119 E119 M119 r120 M120 hL g120) hx hb hml hown hts w_1313 w_1310 w_1311 w_1312 w_1 md_47adca ⟨Nat.le_of_ble_eq_true rfl, Nat.le_of_ble_eq_true rfl⟩ hG hZ hP hD hS hA 1 (wv_o (ci := 11) (yi_1 hL) (yt_1 hL)) rfl rfl rfl hl.1 rfl (Nat.le_of_ble_eq_true rfl) d_L7_106 ⟨(show _ ≤ mc by omega), (show _ ≤ ms by omega)⟩ (fun _ H locs hP hD hS => ?_)
    have hP : va_P z.1 classes (wv z ad119 E119 M120) H := hP
    have hD : va_D A (wv z ad119 E119 M120) := hD
    refine W.eq (g2 := F0 m 109 ls [.int (oI r120)]) rfl ?_
    refine lv_istore (lv' := [(4, .int (oI r120)), (0, .ref (ad119 1)), (1, .ref (ad119 p1)), (2, .ref (ad119 p102)), (3, .int (oI v119_3))]) hx hb d_L7_109 hl (by decide) rfl (fun ls hl => ?_)
    refine lv_iconst (v := oI 0) hx hb d_L7_111 (by decide +kernel) ?_
    refine lv_istore (lv' := [(5, .int (oI 0)), (4, .int (oI r120)), (0, .ref (ad119 1)), (1, .ref (ad119 p1)), (2, .ref (ad119 p102)), (3, .int (oI v119_3))]) hx hb d_L7_112 hl (by decide) rfl (fun ls hl => ?_)
    refine lv_iconst (v := oI 0) hx hb d_L7_114 (by decide +kernel) ?_
    refine lv_istore (lv' := [(6, .int (oI 0)), (5, .int (oI 0)), (4, .int (oI r120)), (0, .ref (ad119 1)), (1, .ref (ad119 p1)), (2, .ref (ad119 p102)), (3, .int (oI v119_3))]) hx hb d_L7_115 hl (by decide) rfl (fun ls hl => ?_)
    obtain ⟨⟨t175, v175_3, v175_5, v175_6, E175, M175⟩, g175, h⟩ := bd_e h
    obtain ⟨hgw175, h⟩ := ck_e h
    obtain ⟨hL175, h⟩ := ck_e h
    obtain ⟨ok175, h⟩ := ck_e h
    refine s_La_pairs_117 l z E119 ad119 p1 p102 r120 hx hb hml hts hown hlocks hA hG hZ mc ms (c0 + 9) (s0 + 72) (by omega) (by omega) 5000 _ _ ad119 E119 M120 v119_3 0 0 t175 v175_3 v175_5 v175_6 E175 M175 (by omega) (by omega) (fun _ _ => rfl) (Nat.le_refl _) g175 (fun ad175 hag175 hEE175 e175 H locs ls hP hD hS hl => ?_) H locs ls hP hD hS (lv_sub hl [3, 4, 5, 6, 2, 1, 0] rfl)
    have hag0 : ∀ i, i < nE E0 → ad175 i = ad0 i := fun i hi => (hag175 i (Nat.lt_of_lt_of_le hi hE0)).trans (hag0 i hi)
    have hE0 : nE E0 ≤ nE E175 := Nat.le_trans hE0 hgw175.1
    have hL : Lay E175 := hL175
    have h_p1 : isO 12 E175 p1 := isO_up hgw175 h_p1
    have h_p102 : isQ 6 E175 p102 := isA_up hgw175 h_p102
    refine lv_iload_n hx hb d_L7_384 rfl (lv_at hl 3 rfl) ?_
    obtain ⟨ok176, h⟩ := ck_e h
    refine lv_if_eq (tgt := 409) hx hb d_L7_385 (by decide) (fun c9 => ?_) (fun c9 => ?_)
    · have h := ite_t ((oI_eq0 ok176).mp c9) h
      refine lv_iconst (v := oI 0) hx hb d_L7_409 (by decide +kernel) ?_
      refine lv_istore_n (lv' := [(3, .int (oI 0)), (0, .ref (ad175 1)), (1, .ref (ad175 p1)), (2, .ref (ad175 p102)), (4, .int (oI r120)), (5, .int (oI v175_5))]) hx hb d_L7_410 rfl hl (by decide) rfl (fun ls hl => ?_)
      refine lv_lconst (v := oJ 0) hx hb d_L7_411 (by decide +kernel) ?_
      refine lv_lstore (lv' := [(6, .long (oJ 0)), (3, .int (oI 0)), (0, .ref (ad175 1)), (1, .ref (ad175 p1)), (2, .ref (ad175 p102)), (4, .int (oI r120)), (5, .int (oI v175_5))]) hx hb d_L7_412 hl (by decide) rfl (fun ls hl => ?_)
      refine lv_iconst (v := oI 0) hx hb d_L7_414 (by decide +kernel) ?_
      refine lv_istore (lv' := [(8, .int (oI 0)), (6, .long (oJ 0)), (3, .int (oI 0)), (0, .ref (ad175 1)), (1, .ref (ad175 p1)), (2, .ref (ad175 p102)), (4, .int (oI r120)), (5, .int (oI v175_5))]) hx hb d_L7_415 hl (by decide) rfl (fun ls hl => ?_)
      obtain ⟨⟨t201, v201_3, v201_6, v201_8, E201, M201⟩, g201, h⟩ := bd_e h
      obtain ⟨hgw201, h⟩ := ck_e h
      obtain ⟨hL201, h⟩ := ck_e h
      obtain ⟨ok201, h⟩ := ck_e h
      refine s_La_pairs_417 l z E175 ad175 p1 p102 hx hb hml hts hown hlocks hA hG hZ mc ms (c0 + 9) (s0 + 72) (by omega) (by omega) 5000 _ _ ad175 E175 M175 0 0 0 t201 v201_3 v201_6 v201_8 E201 M201 (by omega) (by omega) (fun _ _ => rfl) (Nat.le_refl _) g201 (fun ad201 hag201 hEE201 e201 H locs ls hP hD hS hl => ?_) H locs ls hP hD hS (lv_sub hl [3, 4, 5, 2, 1, 0] rfl)
      have hag0 : ∀ i, i < nE E0 → ad201 i = ad0 i := fun i hi => (hag201 i (Nat.lt_of_lt_of_le hi hE0)).trans (hag0 i hi)
      have hE0 : nE E0 ≤ nE E201 := Nat.le_trans hE0 hgw201.1
      have hL : Lay E201 := hL201
      exact b_La_pairs_j528 l z E0 ad0 ad201 E201 M201 v201_3 v201_6 r F N hx hb hml hts hown hlocks hA hG hZ hr mc ms _ _ c1 s1 (by omega) (by omega) hm hm2 hag0 hE0 h H locs ls hP hD hS (lv_sub hl [0, 1, 2] rfl)
    · have h := ite_f (fun q => c9 ((oI_eq0 ok176).mpr q)) h
      refine lv_aload_n hx hb d_L7_388 rfl (lv_at hl 0 rfl) ?_
      obtain ⟨⟨r206, M206⟩, g206, h⟩ := bd_e h
      refine kV (As := []) (rest := []) (s_B_pathWinners l z ad175 E175 M175 r206 M206 hL g206) hx hb hml hown hts w_1348 w_1345 w_1346 w_1347 w_1 md_d21c8e ⟨Nat.le_of_ble_eq_true rfl, Nat.le_of_ble_eq_true rfl⟩ hG hZ hP hD hS hA 1 (wv_o (ci := 11) (yi_1 hL) (yt_1 hL)) rfl rfl rfl hl.1 rfl (Nat.le_of_ble_eq_true rfl) d_L7_389 ⟨(show _ ≤ mc by omega), (show _ ≤ ms by omega)⟩ (fun _ H locs hP hD hS => ?_)
      have hP : va_P z.1 classes (wv z ad175 E175 M206) H := hP
      have hD : va_D A (wv z ad175 E175 M206) := hD
      refine W.eq (g2 := F0 m 392 ls [.int (oI r206)]) rfl ?_
      refine lv_iload hx hb d_L7_392 (lv_at hl 5 rfl) ?_
      obtain ⟨ok207, h⟩ := ck_e h
      obtain ⟨ok208, h⟩ := ck_e h
      refine lv_icmp_ne (tgt := 409) hx hb d_L7_394 (by decide) (fun c9 => ?_) (fun c9 => ?_)
      · have h := ite_f (fun q => c9 ((oI_eq (a := r206) (b := v175_5) ok207 ok208).mpr q)) h
        refine lv_iconst (v := oI 0) hx hb d_L7_409 (by decide +kernel) ?_
        refine lv_istore_n (lv' := [(3, .int (oI 0)), (0, .ref (ad175 1)), (1, .ref (ad175 p1)), (2, .ref (ad175 p102)), (4, .int (oI r120)), (5, .int (oI v175_5))]) hx hb d_L7_410 rfl hl (by decide) rfl (fun ls hl => ?_)
        refine lv_lconst (v := oJ 0) hx hb d_L7_411 (by decide +kernel) ?_
        refine lv_lstore (lv' := [(6, .long (oJ 0)), (3, .int (oI 0)), (0, .ref (ad175 1)), (1, .ref (ad175 p1)), (2, .ref (ad175 p102)), (4, .int (oI r120)), (5, .int (oI v175_5))]) hx hb d_L7_412 hl (by decide) rfl (fun ls hl => ?_)
        refine lv_iconst (v := oI 0) hx hb d_L7_414 (by decide +kernel) ?_
        refine lv_istore (lv' := [(8, .int (oI 0)), (6, .long (oJ 0)), (3, .int (oI 0)), (0, .ref (ad175 1)), (1, .ref (ad175 p1)), (2, .ref (ad175 p102)), (4, .int (oI r120)), (5, .int (oI v175_5))]) hx hb d_L7_415 hl (by decide) rfl (fun ls hl => ?_)
        obtain ⟨⟨t209, v209_3, v209_6, v209_8, E209, M209⟩, g209, h⟩ := bd_e h
        obtain ⟨hgw209, h⟩ := ck_e h
        obtain ⟨hL209, h⟩ := ck_e h
        obtain ⟨ok209, h⟩ := ck_e h
        refine s_La_pairs_417 l z E175 ad175 p1 p102 hx hb hml hts hown hlocks hA hG hZ mc ms (c0 + 9) (s0 + 72) (by omega) (by omega) 5000 _ _ ad175 E175 M206 0 0 0 t209 v209_3 v209_6 v209_8 E209 M209 (by omega) (by omega) (fun _ _ => rfl) (Nat.le_refl _) g209 (fun ad209 hag209 hEE209 e209 H locs ls hP hD hS hl => ?_) H locs ls hP hD hS (lv_sub hl [3, 4, 5, 2, 1, 0] rfl)
        have hag0 : ∀ i, i < nE E0 → ad209 i = ad0 i := fun i hi => (hag209 i (Nat.lt_of_lt_of_le hi hE0)).trans (hag0 i hi)
        have hE0 : nE E0 ≤ nE E209 := Nat.le_trans hE0 hgw209.1
        have hL : Lay E209 := hL209
        exact b_La_pairs_j528 l z E0 ad0 ad209 E209 M209 v209_3 v209_6 r F N hx hb hml hts hown hlocks hA hG hZ hr mc ms _ _ c1 s1 (by omega) (by omega) hm hm2 hag0 hE0 h H locs ls hP hD hS (lv_sub hl [0, 1, 2] rfl)
      · have h := ite_t ((oI_eq (a := r206) (b := v175_5) ok207 ok208).mp c9) h
        refine lv_iload hx hb d_L7_397 (lv_at hl 5 rfl) ?_
        refine lv_iload hx hb d_L7_399 (lv_at hl 4 rfl) ?_
        obtain ⟨ok210, h⟩ := ck_e h
        obtain ⟨ok211, h⟩ := ck_e h
        refine lv_iand hx hb d_L7_401 ?_
        refine nrm (oI_and (a := v175_5) (b := r120) ok210.1 ok210.2 ok211.1 ok211.2) ?_
        refine lv_if_eq (tgt := 409) hx hb d_L7_402 (by decide) (fun c9 => ?_) (fun c9 => ?_)
        · have h := ite_t ((oI_eq0 (rg_nn (and_nn ok210))).mp c9) h
          refine lv_iconst (v := oI 0) hx hb d_L7_409 (by decide +kernel) ?_
          refine lv_istore_n (lv' := [(3, .int (oI 0)), (0, .ref (ad175 1)), (1, .ref (ad175 p1)), (2, .ref (ad175 p102)), (4, .int (oI r120)), (5, .int (oI v175_5))]) hx hb d_L7_410 rfl hl (by decide) rfl (fun ls hl => ?_)
          refine lv_lconst (v := oJ 0) hx hb d_L7_411 (by decide +kernel) ?_
          refine lv_lstore (lv' := [(6, .long (oJ 0)), (3, .int (oI 0)), (0, .ref (ad175 1)), (1, .ref (ad175 p1)), (2, .ref (ad175 p102)), (4, .int (oI r120)), (5, .int (oI v175_5))]) hx hb d_L7_412 hl (by decide) rfl (fun ls hl => ?_)
          refine lv_iconst (v := oI 0) hx hb d_L7_414 (by decide +kernel) ?_
          refine lv_istore (lv' := [(8, .int (oI 0)), (6, .long (oJ 0)), (3, .int (oI 0)), (0, .ref (ad175 1)), (1, .ref (ad175 p1)), (2, .ref (ad175 p102)), (4, .int (oI r120)), (5, .int (oI v175_5))]) hx hb d_L7_415 hl (by decide) rfl (fun ls hl => ?_)
          obtain ⟨⟨t212, v212_3, v212_6, v212_8, E212, M212⟩, g212, h⟩ := bd_e h
          obtain ⟨hgw212, h⟩ := ck_e h
          obtain ⟨hL212, h⟩ := ck_e h
          obtain ⟨ok212, h⟩ := ck_e h
          refine s_La_pairs_417 l z E175 ad175 p1 p102 hx hb hml hts hown hlocks hA hG hZ mc ms (c0 + 9) (s0 + 72) (by omega) (by omega) 5000 _ _ ad175 E175 M206 0 0 0 t212 v212_3 v212_6 v212_8 E212 M212 (by omega) (by omega) (fun _ _ => rfl) (Nat.le_refl _) g212 (fun ad212 hag212 hEE212 e212 H locs ls hP hD hS hl => ?_) H locs ls hP hD hS (lv_sub hl [3, 4, 5, 2, 1, 0] rfl)
          have hag0 : ∀ i, i < nE E0 → ad212 i = ad0 i := fun i hi => (hag212 i (Nat.lt_of_lt_of_le hi hE0)).trans (hag0 i hi)
          have hE0 : nE E0 ≤ nE E212 := Nat.le_trans hE0 hgw212.1
          have hL : Lay E212 := hL212
          exact b_La_pairs_j528 l z E0 ad0 ad212 E212 M212 v212_3 v212_6 r F N hx hb hml hts hown hlocks hA hG hZ hr mc ms _ _ c1 s1 (by omega) (by omega) hm hm2 hag0 hE0 h H locs ls hP hD hS (lv_sub hl [0, 1, 2] rfl)
        · have h := ite_f (fun q => c9 ((oI_eq0 (rg_nn (and_nn ok210))).mpr q)) h
          refine lv_iconst (v := oI 1) hx hb d_L7_405 (by decide +kernel) ?_
          refine lv_goto (tgt := 410) hx hb d_L7_406 (by decide) ?_
          refine lv_istore_n (lv' := [(3, .int (oI 1)), (0, .ref (ad175 1)), (1, .ref (ad175 p1)), (2, .ref (ad175 p102)), (4, .int (oI r120)), (5, .int (oI v175_5))]) hx hb d_L7_410 rfl hl (by decide) rfl (fun ls hl => ?_)
          refine lv_lconst (v := oJ 0) hx hb d_L7_411 (by decide +kernel) ?_
          refine lv_lstore (lv' := [(6, .long (oJ 0)), (3, .int (oI 1)), (0, .ref (ad175 1)), (1, .ref (ad175 p1)), (2, .ref (ad175 p102)), (4, .int (oI r120)), (5, .int (oI v175_5))]) hx hb d_L7_412 hl (by decide) rfl (fun ls hl => ?_)
          refine lv_iconst (v := oI 0) hx hb d_L7_414 (by decide +kernel) ?_
          refine lv_istore (lv' := [(8, .int (oI 0)), (6, .long (oJ 0)), (3, .int (oI 1)), (0, .ref (ad175 1)), (1, .ref (ad175 p1)), (2, .ref (ad175 p102)), (4, .int (oI r120)), (5, .int (oI v175_5))]) hx hb d_L7_415 hl (by decide) rfl (fun ls hl => ?_)
          obtain ⟨⟨t213, v213_3, v213_6, v213_8, E213, M213⟩, g213, h⟩ := bd_e h
          obtain ⟨hgw213, h⟩ := ck_e h
          obtain ⟨hL213, h⟩ := ck_e h
          obtain ⟨ok213, h⟩ := ck_e h
          refine s_La_pairs_417 l z E175 ad175 p1 p102 hx hb hml hts hown hlocks hA hG hZ mc ms (c0 + 9) (s0 + 72) (by omega) (by omega) 5000 _ _ ad175 E175 M206 1 0 0 t213 v213_3 v213_6 v213_8 E213 M213 (by omega) (by omega) (fun _ _ => rfl) (Nat.le_refl _) g213 (fun ad213 hag213 hEE213 e213 H locs ls hP hD hS hl => ?_) H locs ls hP hD hS (lv_sub hl [3, 4, 5, 2, 1, 0] rfl)
          have hag0 : ∀ i, i < nE E0 → ad213 i = ad0 i := fun i hi => (hag213 i (Nat.lt_of_lt_of_le hi hE0)).trans (hag0 i hi)
          have hE0 : nE E0 ≤ nE E213 := Nat.le_trans hE0 hgw213.1
          have hL : Lay E213 := hL213
          exact b_La_pairs_j528 l z E0 ad0 ad213 E213 M213 v213_3 v213_6 r F N hx hb hml hts hown hlocks hA hG hZ hr mc ms _ _ c1 s1 (by omega) (by omega) hm hm2 hag0 hE0 h H locs ls hP hD hS (lv_sub hl [0, 1, 2] rfl)
  exact key E ad 9 72 0 0 9 72 _ _ _ (by decide) (by decide) (by decide) (by decide) (fun _ _ => rfl) (Nat.le_refl _) hts hP hS
set_option maxRecDepth 100000 in
set_option maxHeartbeats 4000000 in
theorem s_B_needFewCandidates (l : Launch) (z : Zz) (ad : Nat → Nat) (E : Ev) (M : Mm)  (hL : Lay E) (h : f_B_needFewCandidates E M = some ()) : CT l z ⟨"Ballothall", "needFewCandidates", "()V"⟩ prog_1_method_60_code 1 none [.ref (ad 1)] (wv z ad E M) 0 20 0 0 (fun _ => none) (fun _ => (wv z ad E M)) := by
  refine CT.of (own := "Ballothall") (by decide +kernel) (Nat.le_of_ble_eq_true rfl) rfl (fun p e s m below meth c A ls hx hb hml hr hts hown hlocks hin hA hG hZ hP hD hS hl => ?_)
  have hl : lv_has ls 1 [(0, .ref (ad 1))] := hl
  have key : ∀ (H : Heap) (locs : List Loc) (args : Array Value), (∀ w ∈ WG, w.before args s = true) → va_P z.1 classes (wv z ad E M) H → va_S A s.heap H locs → W p l e (rmK 0 20 0 0) s m args below meth c H locs 0 0 (MQ below (QK z A (fun _ => none) (fun _ => (wv z ad E M))) args s 0 0 A) (F0 m 0 ls []) := by
    intro H locs args hts hP hS
    unfold f_B_needFewCandidates at h
    refine lv_aload_n hx hb d_1_60_0 rfl (lv_at hl 0 rfl) ?_
    refine m_gr (j := 2) (C := "Ballothall") (T := TX11) (N := 14) (ci := 11) (k := 0) hx hb hts iX11 hown hG hP (yi_1 hL) (yt_1 hL) rfl (by decide) w_397 (fun _ h9 => h9) rfl rfl (yr_1_0 hL) d_1_60_1 ?_
    refine m_giN (C := "Ballothall$BallotBox") (T := TX0) (N := 10) (ci := 0) (k := 2) hx hb hts iX0 hown hG hP (yi_2 hL) (yt_2 hL) rfl (by decide) n_52 rfl (fun _ h9 => h9) rfl rfl d_1_60_4 ?_
    refine lv_iconst (v := oI 5) hx hb d_1_60_7 (by decide +kernel) ?_
    obtain ⟨ok100, h⟩ := ck_e h
    refine lv_icmp_le (tgt := 22) hx hb d_1_60_8 (by decide) (fun c9 => ?_) (fun c9 => ?_)
    · have h := ite_t ((oI_le (a := (M 2 2)) (b := (5 : Int)) ok100 (by decide)).mp c9) h
      clear h
      exact W.vret hx hb hr (fun t ht hW => qkA hP hD hS (fun k => k) rfl rfl ht) hS.2.2 d_1_60_22
    · have h := ite_f (fun q => c9 ((oI_le (a := (M 2 2)) (b := (5 : Int)) ok100 (by decide)).mpr q)) h
      cases h
  exact key _ _ _ hts hP hS
set_option maxRecDepth 100000 in
set_option maxHeartbeats 4000000 in
theorem b_Ar_fillL_6b (l : Launch) (z : Zz) (ad : Nat → Nat) (E : Ev) (M : Mm) (q0 : Nat) (x1 : Int) (x4 : Int) (x3 : Int) (t : Nat) (w3 : Int) (N : Mm) {Q : State → Prop} {p : Program} {e : Env} {s : State} {m : MethodId} {below : List Frame} {meth : Method} {c : Code} {A : Nat → Prop} {args : Array Value} (hx : p.tables.exec = Jvm.exec) (hb : c.code = prog_43_method_101_code) (hml : c.maxLocals = 5) (hts : ∀ w ∈ WG, w.before args s = true) (hown : s.vm.findClass "java/util/Arrays" = some m.cls) (hlocks : meth.locks = false) (hA : ∀ q, s.heap.size ≤ q → A q) (hG : KG z s) (hZ : FZ z A s) (hL : Lay E) (h : Ar_fillL_6b E M q0 x1 x4 x3 = some (t, w3, N)) (k0 : t = 0 → ∀ (H : Heap) (locs : List Loc) (ls : Array Slot), va_P z.1 classes (wv z ad E N) H → va_D A (wv z ad E N) → va_S A s.heap H locs → lv_has ls 5 [(0, .ref (ad q0)), (1, .long (oJ x1)), (3, .int (oI w3)), (4, .int (oI x4))] → W p l e (rmK 0 20 0 0) s m args below meth c H locs 0 0 Q (F0 m 6 ls [])) (k1 : t = 1 → ∀ (H : Heap) (locs : List Loc) (ls : Array Slot), va_P z.1 classes (wv z ad E N) H → va_D A (wv z ad E N) → va_S A s.heap H locs → lv_has ls 5 [] → W p l e (rmK 0 20 0 0) s m args below meth c H locs 0 0 Q (F0 m 22 ls [])) : ∀ (H : Heap) (locs : List Loc) (ls : Array Slot), va_P z.1 classes (wv z ad E M) H → va_D A (wv z ad E M) → va_S A s.heap H locs → lv_has ls 5 [(0, .ref (ad q0)), (1, .long (oJ x1)), (3, .int (oI x3)), (4, .int (oI x4))] → W p l e (rmK 0 20 0 0) s m args below meth c H locs 0 0 Q (F0 m 6 ls []) := by
  intro H locs ls hP hD hS hl
  unfold Ar_fillL_6b at h
  obtain ⟨h_q0, h⟩ := ck_e h
  refine lv_iload_n hx hb d_43_101_6 rfl (lv_at hl 2 rfl) ?_
  refine lv_iload hx hb d_43_101_7 (lv_at hl 3 rfl) ?_
  obtain ⟨ok100, h⟩ := ck_e h
  obtain ⟨ok101, h⟩ := ck_e h
  refine lv_icmp_ge (tgt := 22) hx hb d_43_101_9 (by decide) (fun c9 => ?_) (fun c9 => ?_)
  · have h := ite_t ((oI_le (a := x4) (b := x3) ok101 ok100).mp c9) h
    obtain ⟨rfl, rfl, rfl⟩ := in3 h
    exact k1 rfl H locs ls hP hD hS (lv_sub hl [] rfl)
  · have h := ite_f (fun q => c9 ((oI_le (a := x4) (b := x3) ok101 ok100).mpr q)) h
    refine lv_aload_n hx hb d_43_101_12 rfl (lv_at hl 0 rfl) ?_
    refine lv_iload_n hx hb d_43_101_13 rfl (lv_at hl 2 rfl) ?_
    refine lv_lload_n hx hb d_43_101_14 rfl (lv_at hl 1 rfl) ?_
    obtain ⟨ok102, h⟩ := ck_e h
    refine m_ls hx hb hG hP hD hS h_q0.1 (isLA_T h_q0) ok102 d_43_101_15 (fun H locs hP hD hS => ?_)
    have hP : va_P z.1 classes (wv z ad E (u2 M q0 x3.toNat x1)) H := hP
    have hD : va_D A (wv z ad E (u2 M q0 x3.toNat x1)) := hD
    refine lv_iinc (v := oI (x3 + 1)) (lv' := [(3, .int (oI (x3 + 1))), (0, .ref (ad q0)), (1, .long (oJ x1)), (4, .int (oI x4))]) hx hb d_43_101_16 hl (k := 2) rfl (oI_add x3 1) (by decide) rfl (fun ls hl => ?_)
    refine lv_goto (tgt := 6) hx hb d_43_101_19 (by decide) ?_
    obtain ⟨rfl, rfl, rfl⟩ := in3 h
    exact k0 rfl H locs ls hP hD hS (lv_sub hl [1, 2, 0, 3] rfl)
set_option maxRecDepth 100000 in
set_option maxHeartbeats 4000000 in
theorem s_Ar_fillL_6 (l : Launch) (z : Zz) (ad : Nat → Nat) (E : Ev) (q0 : Nat) (x1 : Int) (x4 : Int) {Q : State → Prop} {p : Program} {e : Env} {s : State} {m : MethodId} {below : List Frame} {meth : Method} {c : Code} {A : Nat → Prop} {args : Array Value} (hx : p.tables.exec = Jvm.exec) (hb : c.code = prog_43_method_101_code) (hml : c.maxLocals = 5) (hts : ∀ w ∈ WG, w.before args s = true) (hown : s.vm.findClass "java/util/Arrays" = some m.cls) (hlocks : meth.locks = false) (hA : ∀ q, s.heap.size ≤ q → A q) (hG : KG z s) (hZ : FZ z A s) (hL : Lay E) : ∀ (fu : Nat) (M : Mm) (x3 : Int) (t : Nat) (w3 : Int) (N : Mm), l_Ar_fillL_6 E q0 x1 x4 fu M x3 = some (t, w3, N) → (t = 1 → ∀ (H : Heap) (locs : List Loc) (ls : Array Slot), va_P z.1 classes (wv z ad E N) H → va_D A (wv z ad E N) → va_S A s.heap H locs → lv_has ls 5 [] → W p l e (rmK 0 20 0 0) s m args below meth c H locs 0 0 Q (F0 m 22 ls [])) → ∀ (H : Heap) (locs : List Loc) (ls : Array Slot), va_P z.1 classes (wv z ad E M) H → va_D A (wv z ad E M) → va_S A s.heap H locs → lv_has ls 5 [(0, .ref (ad q0)), (1, .long (oJ x1)), (3, .int (oI x3)), (4, .int (oI x4))] → W p l e (rmK 0 20 0 0) s m args below meth c H locs 0 0 Q (F0 m 6 ls []) := by
  intro fu
  induction fu with
  | zero =>
    intro M x3 t w3 N h
    have h : (none : Option (Nat × Int × Mm)) = some _ := h
    cases h
  | succ fu ih =>
    intro M x3 t w3 N h k1 H locs ls hP hD hS hl
    obtain ⟨⟨t0, w30, N9⟩, g0, h⟩ := bd_e h
    refine b_Ar_fillL_6b l z ad E M q0 x1 x4 x3 t0 w30 N9 hx hb hml hts hown hlocks hA hG hZ hL g0 (fun e0 => ?_) (fun e0 => ?_) H locs ls hP hD hS hl
    · subst e0
      have h := ite_t rfl h
      exact ih N9 w30 t w3 N h k1
    · subst e0
      have h := ite_f (by decide) h
      obtain ⟨rfl, rfl, rfl⟩ := in3 h
      exact k1 rfl
set_option maxRecDepth 100000 in
set_option maxHeartbeats 4000000 in
theorem s_Ar_fillL (l : Launch) (z : Zz) (ad : Nat → Nat) (E : Ev) (M : Mm) (p0 : Nat) (x1 : Int) (N : Mm) (hL : Lay E) (h : f_Ar_fillL E M p0 x1 = some N) : CT l z ⟨"java/util/Arrays", "fill", "([JJ)V"⟩ prog_43_method_101_code 5 none [.ref (ad p0), .long (oJ x1)] (wv z ad E M) 0 20 0 0 (fun _ => none) (fun _ => (wv z ad E N)) := by
  refine CT.of (own := "java/util/Arrays") (by decide +kernel) (Nat.le_of_ble_eq_true rfl) rfl (fun p e s m below meth c A ls hx hb hml hr hts hown hlocks hin hA hG hZ hP hD hS hl => ?_)
  have hl : lv_has ls 5 [(0, .ref (ad p0)), (1, .long (oJ x1))] := hl
  have key : ∀ (H : Heap) (locs : List Loc) (args : Array Value), (∀ w ∈ WG, w.before args s = true) → va_P z.1 classes (wv z ad E M) H → va_S A s.heap H locs → W p l e (rmK 0 20 0 0) s m args below meth c H locs 0 0 (MQ below (QK z A (fun _ => none) (fun _ => (wv z ad E N))) args s 0 0 A) (F0 m 0 ls []) := by
    intro H locs args hts hP hS
    unfold f_Ar_fillL at h
    obtain ⟨h_p0, h⟩ := ck_e h
    refine lv_iconst (v := oI 0) hx hb d_43_101_0 (by decide +kernel) ?_
    refine lv_istore_n (lv' := [(3, .int (oI 0)), (0, .ref (ad p0)), (1, .long (oJ x1))]) hx hb d_43_101_1 rfl hl (by decide) rfl (fun ls hl => ?_)
    refine lv_aload_n hx hb d_43_101_2 rfl (lv_at hl 1 rfl) ?_
    refine m_lenL (v := ((tE E p0).2 : Int)) hx hb hG hP h_p0.1 (isLA_T h_p0) (len_oI _) d_43_101_3 ?_
    refine lv_istore (lv' := [(4, .int (oI ((tE E p0).2 : Int))), (3, .int (oI 0)), (0, .ref (ad p0)), (1, .long (oJ x1))]) hx hb d_43_101_4 hl (by decide) rfl (fun ls hl => ?_)
    obtain ⟨⟨t103, v103_3, M103⟩, g103, h⟩ := bd_e h
    obtain ⟨ok103, h⟩ := ck_e h
    refine s_Ar_fillL_6 l z ad E p0 x1 ((tE E p0).2 : Int) hx hb hml hts hown hlocks hA hG hZ hL FU M 0 t103 v103_3 M103 g103 (fun e103 H locs ls hP hD hS hl => ?_) H locs ls hP hD hS (lv_sub hl [2, 3, 1, 0] rfl)
    obtain rfl := in1 h
    exact W.vret hx hb hr (fun t ht hW => qkA hP hD hS (fun k => k) rfl rfl ht) hS.2.2 d_43_101_22
  exact key _ _ _ hts hP hS
set_option maxRecDepth 100000 in
set_option maxHeartbeats 4000000 in
theorem b_Po_scoreTopsOf_j38 (l : Launch) (z : Zz) (ad : Nat → Nat) (E : Ev) (M : Mm) (x1 : Int) (x2 : Int) (y0 : Int) (t : Nat) (w2 : Int) (N : Mm) {Q : State → Prop} {p : Program} {e : Env} {s : State} {m : MethodId} {below : List Frame} {meth : Method} {c : Code} {A : Nat → Prop} {args : Array Value} (hx : p.tables.exec = Jvm.exec) (hb : c.code = prog_11_method_26_code) (hml : c.maxLocals = 4) (hts : ∀ w ∈ WG, w.before args s = true) (hown : s.vm.findClass "Ballothall$Poll" = some m.cls) (hlocks : meth.locks = false) (hA : ∀ q, s.heap.size ≤ q → A q) (hG : KG z s) (hZ : FZ z A s) (hL : Lay E) (h : Po_scoreTopsOf_j38 E M x1 x2 y0 = some (t, w2, N)) (k0 : t = 0 → ∀ (H : Heap) (locs : List Loc) (ls : Array Slot), va_P z.1 classes (wv z ad E N) H → va_D A (wv z ad E N) → va_S A s.heap H locs → lv_has ls 4 [(0, .ref (ad 41)), (1, .int (oI x1)), (2, .int (oI w2))] → W p l e (rmK 2 67 0 0) s m args below meth c H locs 0 0 Q (F0 m 10 ls [])) (k1 : t = 1 → ∀ (H : Heap) (locs : List Loc) (ls : Array Slot), va_P z.1 classes (wv z ad E N) H → va_D A (wv z ad E N) → va_S A s.heap H locs → lv_has ls 4 [] → W p l e (rmK 2 67 0 0) s m args below meth c H locs 0 0 Q (F0 m 66 ls [])) : ∀ (H : Heap) (locs : List Loc) (ls : Array Slot), va_P z.1 classes (wv z ad E M) H → va_D A (wv z ad E M) → va_S A s.heap H locs → lv_has ls 4 [(0, .ref (ad 41)), (1, .int (oI x1)), (2, .int (oI x2))] → W p l e (rmK 2 67 0 0) s m args below meth c H locs 0 0 Q (F0 m 38 ls [.int (oI y0)]) := by
  intro H locs ls hP hD hS hl
  unfold Po_scoreTopsOf_j38 at h
  refine lv_istore_n (lv' := [(3, .int (oI y0)), (0, .ref (ad 41)), (1, .int (oI x1)), (2, .int (oI x2))]) hx hb d_11_26_38 rfl hl (by decide) rfl (fun ls hl => ?_)
  refine lv_iload_n hx hb d_11_26_39 rfl (lv_at hl 0 rfl) ?_
  refine lv_iconst (v := oI (-1)) hx hb d_11_26_40 (by decide +kernel) ?_
  obtain ⟨ok105, h⟩ := ck_e h
  refine lv_icmp_eq (tgt := 60) hx hb d_11_26_41 (by decide) (fun c9 => ?_) (fun c9 => ?_)
  · have h := ite_t ((oI_eq (a := y0) (b := (-1 : Int)) ok105 (by decide)).mp c9) h
    refine lv_iinc (v := oI (x2 + 1)) (lv' := [(2, .int (oI (x2 + 1))), (3, .int (oI y0)), (0, .ref (ad 41)), (1, .int (oI x1))]) hx hb d_11_26_60 hl (k := 3) rfl (oI_add x2 1) (by decide) rfl (fun ls hl => ?_)
    refine lv_goto (tgt := 10) hx hb d_11_26_63 (by decide) ?_
    obtain ⟨rfl, rfl, rfl⟩ := in3 h
    exact k0 rfl H locs ls hP hD hS (lv_sub hl [2, 3, 0] rfl)
  · have h := ite_f (fun q => c9 ((oI_eq (a := y0) (b := (-1 : Int)) ok105 (by decide)).mpr q)) h
    refine lv_aload_n hx hb d_11_26_44 rfl (lv_at hl 1 rfl) ?_
    refine m_gr (j := 48) (C := "Ballothall$Poll") (T := TX9) (N := 12) (ci := 9) (k := 9) hx hb hts iX9 hown hG hP (yi_41 hL) (yt_41 hL) rfl (by decide) w_116 (fun _ h9 => h9) rfl rfl (yr_41_9 hL) d_11_26_45 ?_
    refine lv_iload_n hx hb d_11_26_48 rfl (lv_at hl 0 rfl) ?_
    refine lv_dup2_11 hx hb d_11_26_49 rfl rfl ?_
    obtain ⟨ok106, h⟩ := ck_e h
    refine m_la hx hb hG hP (yi_48 hL) (yt_48 hL) ok106 d_11_26_50 ?_
    refine lv_aload_n hx hb d_11_26_51 rfl (lv_at hl 1 rfl) ?_
    refine m_gr (j := 42) (C := "Ballothall$Poll") (T := TX9) (N := 12) (ci := 9) (k := 3) hx hb hts iX9 hown hG hP (yi_41 hL) (yt_41 hL) rfl (by decide) w_110 (fun _ h9 => h9) rfl rfl (yr_41_3 hL) d_11_26_52 ?_
    refine lv_iload_n hx hb d_11_26_55 rfl (lv_at hl 3 rfl) ?_
    obtain ⟨ok107, h⟩ := ck_e h
    refine m_ia hx hb hG hP (yi_42 hL) (yt_42 hL) ok107 d_11_26_56 ?_
    obtain ⟨ok108, h⟩ := ck_e h
    refine lv_i2l (v := oJ (M 42 x2.toNat)) hx hb d_11_26_57 (oI_l ok108) ?_
    refine lv_ladd hx hb d_11_26_58 ?_
    refine nrmL (oJ_add _ _) ?_
    obtain ⟨v109, e109, h⟩ := nb_e h
    refine nrmL (congrArg oJ e109.symm) ?_
    refine m_ls hx hb hG hP hD hS (yi_48 hL) (yt_48 hL) ok106 d_11_26_59 (fun H locs hP hD hS => ?_)
    have hP : va_P z.1 classes (wv z ad E (u2 M 48 y0.toNat v109)) H := hP
    have hD : va_D A (wv z ad E (u2 M 48 y0.toNat v109)) := hD
    refine lv_iinc (v := oI (x2 + 1)) (lv' := [(2, .int (oI (x2 + 1))), (3, .int (oI y0)), (0, .ref (ad 41)), (1, .int (oI x1))]) hx hb d_11_26_60 hl (k := 3) rfl (oI_add x2 1) (by decide) rfl (fun ls hl => ?_)
    refine lv_goto (tgt := 10) hx hb d_11_26_63 (by decide) ?_
    obtain ⟨rfl, rfl, rfl⟩ := in3 h
    exact k0 rfl H locs ls hP hD hS (lv_sub hl [2, 3, 0] rfl)
set_option maxRecDepth 100000 in
set_option maxHeartbeats 4000000 in
theorem b_Po_scoreTopsOf_10b (l : Launch) (z : Zz) (ad : Nat → Nat) (E : Ev) (M : Mm) (x1 : Int) (x2 : Int) (t : Nat) (w2 : Int) (N : Mm) {Q : State → Prop} {p : Program} {e : Env} {s : State} {m : MethodId} {below : List Frame} {meth : Method} {c : Code} {A : Nat → Prop} {args : Array Value} (hx : p.tables.exec = Jvm.exec) (hb : c.code = prog_11_method_26_code) (hml : c.maxLocals = 4) (hts : ∀ w ∈ WG, w.before args s = true) (hown : s.vm.findClass "Ballothall$Poll" = some m.cls) (hlocks : meth.locks = false) (hA : ∀ q, s.heap.size ≤ q → A q) (hG : KG z s) (hZ : FZ z A s) (hL : Lay E) (h : Po_scoreTopsOf_10b E M x1 x2 = some (t, w2, N)) (k0 : t = 0 → ∀ (H : Heap) (locs : List Loc) (ls : Array Slot), va_P z.1 classes (wv z ad E N) H → va_D A (wv z ad E N) → va_S A s.heap H locs → lv_has ls 4 [(0, .ref (ad 41)), (1, .int (oI x1)), (2, .int (oI w2))] → W p l e (rmK 2 67 0 0) s m args below meth c H locs 0 0 Q (F0 m 10 ls [])) (k1 : t = 1 → ∀ (H : Heap) (locs : List Loc) (ls : Array Slot), va_P z.1 classes (wv z ad E N) H → va_D A (wv z ad E N) → va_S A s.heap H locs → lv_has ls 4 [] → W p l e (rmK 2 67 0 0) s m args below meth c H locs 0 0 Q (F0 m 66 ls [])) : ∀ (H : Heap) (locs : List Loc) (ls : Array Slot), va_P z.1 classes (wv z ad E M) H → va_D A (wv z ad E M) → va_S A s.heap H locs → lv_has ls 4 [(0, .ref (ad 41)), (1, .int (oI x1)), (2, .int (oI x2))] → W p l e (rmK 2 67 0 0) s m args below meth c H locs 0 0 Q (F0 m 10 ls []) := by
  intro H locs ls hP hD hS hl
  unfold Po_scoreTopsOf_10b at h
  refine lv_iload_n hx hb d_11_26_10 rfl (lv_at hl 2 rfl) ?_
  refine lv_bipush (v := oI 31) hx hb d_11_26_11 (by decide +kernel) ?_
  obtain ⟨ok101, h⟩ := ck_e h
  refine lv_icmp_ge (tgt := 66) hx hb d_11_26_13 (by decide) (fun c9 => ?_) (fun c9 => ?_)
  · have h := ite_t ((oI_le (a := (31 : Int)) (b := x2) (by decide) ok101).mp c9) h
    obtain ⟨rfl, rfl, rfl⟩ := in3 h
    exact k1 rfl H locs ls hP hD hS (lv_sub hl [] rfl)
  · have h := ite_f (fun q => c9 ((oI_le (a := (31 : Int)) (b := x2) (by decide) ok101).mpr q)) h
    refine lv_aload_n hx hb d_11_26_16 rfl (lv_at hl 0 rfl) ?_
    refine m_gr (j := 42) (C := "Ballothall$Poll") (T := TX9) (N := 12) (ci := 9) (k := 3) hx hb hts iX9 hown hG hP (yi_41 hL) (yt_41 hL) rfl (by decide) w_110 (fun _ h9 => h9) rfl rfl (yr_41_3 hL) d_11_26_17 ?_
    refine lv_iload_n hx hb d_11_26_20 rfl (lv_at hl 2 rfl) ?_
    obtain ⟨ok102, h⟩ := ck_e h
    refine m_ia hx hb hG hP (yi_42 hL) (yt_42 hL) ok102 d_11_26_21 ?_
    obtain ⟨ok103, h⟩ := ck_e h
    refine lv_if_ne (tgt := 29) hx hb d_11_26_22 (by decide) (fun c9 => ?_) (fun c9 => ?_)
    · have h := ite_f (fun q => c9 ((oI_eq0 ok103).mpr q)) h
      refine lv_aload_n hx hb d_11_26_29 rfl (lv_at hl 0 rfl) ?_
      refine m_gr (j := 2) (C := "Ballothall$Poll") (T := TX9) (N := 12) (ci := 9) (k := 0) hx hb hts iX9 hown hG hP (yi_41 hL) (yt_41 hL) rfl (by decide) w_107 (fun _ h9 => h9) rfl rfl (yr_41_0 hL) d_11_26_30 ?_
      refine lv_iload_n hx hb d_11_26_33 rfl (lv_at hl 2 rfl) ?_
      refine lv_iload_n hx hb d_11_26_34 rfl (lv_at hl 1 rfl) ?_
      obtain ⟨r104, g104, h⟩ := bd_e h
      refine kVN (As := [.int (oI x2), .int (oI x1)]) (rest := []) (s_Bx_soleTopOf l z ad E M x2 x1 r104 hL g104) hx hb hml hown hts w_681 n_678 w_680 w_s_fbd9d2 w_2 md_0f833a ⟨Nat.le_of_ble_eq_true rfl, Nat.le_of_ble_eq_true rfl⟩ hG hZ hP hD hS hA 2 (wv_o (ci := 0) (yi_2 hL) (yt_2 hL)) rfl rfl rfl hl.1 rfl (Nat.le_of_ble_eq_true rfl) d_11_26_35 ⟨Nat.le_of_ble_eq_true rfl, Nat.le_of_ble_eq_true rfl⟩ (fun _ H locs hP hD hS => ?_)
      have hP : va_P z.1 classes (wv z ad E M) H := hP
      have hD : va_D A (wv z ad E M) := hD
      refine W.eq (g2 := F0 m 38 ls [.int (oI r104)]) rfl ?_
      exact b_Po_scoreTopsOf_j38 l z ad E M x1 x2 r104 t w2 N hx hb hml hts hown hlocks hA hG hZ hL h k0 k1 H locs ls hP hD hS (lv_sub hl [0, 1, 2] rfl)
    · have h := ite_t ((oI_eq0 ok103).mp c9) h
      refine lv_iconst (v := oI (-1)) hx hb d_11_26_25 (by decide +kernel) ?_
      refine lv_goto (tgt := 38) hx hb d_11_26_26 (by decide) ?_
      exact b_Po_scoreTopsOf_j38 l z ad E M x1 x2 (-1) t w2 N hx hb hml hts hown hlocks hA hG hZ hL h k0 k1 H locs ls hP hD hS (lv_sub hl [0, 1, 2] rfl)
set_option maxRecDepth 100000 in
set_option maxHeartbeats 4000000 in
theorem s_Po_scoreTopsOf_10 (l : Launch) (z : Zz) (ad : Nat → Nat) (E : Ev) (x1 : Int) {Q : State → Prop} {p : Program} {e : Env} {s : State} {m : MethodId} {below : List Frame} {meth : Method} {c : Code} {A : Nat → Prop} {args : Array Value} (hx : p.tables.exec = Jvm.exec) (hb : c.code = prog_11_method_26_code) (hml : c.maxLocals = 4) (hts : ∀ w ∈ WG, w.before args s = true) (hown : s.vm.findClass "Ballothall$Poll" = some m.cls) (hlocks : meth.locks = false) (hA : ∀ q, s.heap.size ≤ q → A q) (hG : KG z s) (hZ : FZ z A s) (hL : Lay E) : ∀ (fu : Nat) (M : Mm) (x2 : Int) (t : Nat) (w2 : Int) (N : Mm), l_Po_scoreTopsOf_10 E x1 fu M x2 = some (t, w2, N) → (t = 1 → ∀ (H : Heap) (locs : List Loc) (ls : Array Slot), va_P z.1 classes (wv z ad E N) H → va_D A (wv z ad E N) → va_S A s.heap H locs → lv_has ls 4 [] → W p l e (rmK 2 67 0 0) s m args below meth c H locs 0 0 Q (F0 m 66 ls [])) → ∀ (H : Heap) (locs : List Loc) (ls : Array Slot), va_P z.1 classes (wv z ad E M) H → va_D A (wv z ad E M) → va_S A s.heap H locs → lv_has ls 4 [(0, .ref (ad 41)), (1, .int (oI x1)), (2, .int (oI x2))] → W p l e (rmK 2 67 0 0) s m args below meth c H locs 0 0 Q (F0 m 10 ls []) := by
  intro fu
  induction fu with
  | zero =>
    intro M x2 t w2 N h
    have h : (none : Option (Nat × Int × Mm)) = some _ := h
    cases h
  | succ fu ih =>
    intro M x2 t w2 N h k1 H locs ls hP hD hS hl
    obtain ⟨⟨t0, w20, N9⟩, g0, h⟩ := bd_e h
    refine b_Po_scoreTopsOf_10b l z ad E M x1 x2 t0 w20 N9 hx hb hml hts hown hlocks hA hG hZ hL g0 (fun e0 => ?_) (fun e0 => ?_) H locs ls hP hD hS hl
    · subst e0
      have h := ite_t rfl h
      exact ih N9 w20 t w2 N h k1
    · subst e0
      have h := ite_f (by decide) h
      obtain ⟨rfl, rfl, rfl⟩ := in3 h
      exact k1 rfl
set_option maxRecDepth 100000 in
set_option maxHeartbeats 4000000 in
theorem s_Po_scoreTopsOf (l : Launch) (z : Zz) (ad : Nat → Nat) (E : Ev) (M : Mm) (x1 : Int) (N : Mm) (hL : Lay E) (h : f_Po_scoreTopsOf E M x1 = some N) : CT l z ⟨"Ballothall$Poll", "scoreTopsOf", "(I)V"⟩ prog_11_method_26_code 4 none [.ref (ad 41), .int (oI x1)] (wv z ad E M) 2 67 0 0 (fun _ => none) (fun _ => (wv z ad E N)) := by
  refine CT.of (own := "Ballothall$Poll") (by decide +kernel) (Nat.le_of_ble_eq_true rfl) rfl (fun p e s m below meth c A ls hx hb hml hr hts hown hlocks hin hA hG hZ hP hD hS hl => ?_)
  have hl : lv_has ls 4 [(0, .ref (ad 41)), (1, .int (oI x1))] := hl
  have key : ∀ (H : Heap) (locs : List Loc) (args : Array Value), (∀ w ∈ WG, w.before args s = true) → va_P z.1 classes (wv z ad E M) H → va_S A s.heap H locs → W p l e (rmK 2 67 0 0) s m args below meth c H locs 0 0 (MQ below (QK z A (fun _ => none) (fun _ => (wv z ad E N))) args s 0 0 A) (F0 m 0 ls []) := by
    intro H locs args hts hP hS
    unfold f_Po_scoreTopsOf at h
    refine lv_aload_n hx hb d_11_26_0 rfl (lv_at hl 0 rfl) ?_
    refine m_gr (j := 48) (C := "Ballothall$Poll") (T := TX9) (N := 12) (ci := 9) (k := 9) hx hb hts iX9 hown hG hP (yi_41 hL) (yt_41 hL) rfl (by decide) w_116 (fun _ h9 => h9) rfl rfl (yr_41_9 hL) d_11_26_1 ?_
    refine lv_lconst (v := oJ 0) hx hb d_11_26_4 (by decide +kernel) ?_
    obtain ⟨M100, g100, h⟩ := bd_e h
    refine kS (As := [.ref (ad 48), .long (oJ 0)]) (rest := []) (s_Ar_fillL l z ad E M 48 0 M100 hL g100) hx hb hml hown hts w_1385 w_1383 w_1384 w_23 md_357667 ⟨Nat.le_of_ble_eq_true rfl, Nat.le_of_ble_eq_true rfl⟩ hG hZ hP hD hS hA rfl hl.1 rfl (Nat.le_of_ble_eq_true rfl) d_11_26_5 ⟨Nat.le_of_ble_eq_true rfl, Nat.le_of_ble_eq_true rfl⟩ (fun _ H locs hP hD hS => ?_)
    have hP : va_P z.1 classes (wv z ad E M100) H := hP
    have hD : va_D A (wv z ad E M100) := hD
    refine W.eq (g2 := F0 m 8 ls []) rfl ?_
    refine lv_iconst (v := oI 0) hx hb d_11_26_8 (by decide +kernel) ?_
    refine lv_istore_n (lv' := [(2, .int (oI 0)), (0, .ref (ad 41)), (1, .int (oI x1))]) hx hb d_11_26_9 rfl hl (by decide) rfl (fun ls hl => ?_)
    obtain ⟨⟨t110, v110_2, M110⟩, g110, h⟩ := bd_e h
    obtain ⟨ok110, h⟩ := ck_e h
    refine s_Po_scoreTopsOf_10 l z ad E x1 hx hb hml hts hown hlocks hA hG hZ hL FU M100 0 t110 v110_2 M110 g110 (fun e110 H locs ls hP hD hS hl => ?_) H locs ls hP hD hS (lv_sub hl [1, 2, 0] rfl)
    obtain rfl := in1 h
    exact W.vret hx hb hr (fun t ht hW => qkA hP hD hS (fun k => k) rfl rfl ht) hS.2.2 d_11_26_66
  exact key _ _ _ hts hP hS
set_option maxRecDepth 100000 in
set_option maxHeartbeats 4000000 in
theorem b_Po_smallestOf_4b (l : Launch) (z : Zz) (ad : Nat → Nat) (E : Ev) (M : Mm) (x1 : Int) (x2 : Int) (x3 : Int) (t : Nat) (w2 : Int) (w3 : Int)  {Q : State → Prop} {p : Program} {e : Env} {s : State} {m : MethodId} {below : List Frame} {meth : Method} {c : Code} {A : Nat → Prop} {args : Array Value} (hx : p.tables.exec = Jvm.exec) (hb : c.code = prog_11_method_24_code) (hml : c.maxLocals = 4) (hts : ∀ w ∈ WG, w.before args s = true) (hown : s.vm.findClass "Ballothall$Poll" = some m.cls) (hlocks : meth.locks = false) (hA : ∀ q, s.heap.size ≤ q → A q) (hG : KG z s) (hZ : FZ z A s) (hL : Lay E) (h : Po_smallestOf_4b E M x1 x2 x3 = some (t, w2, w3)) (k0 : t = 0 → ∀ (H : Heap) (locs : List Loc) (ls : Array Slot), va_P z.1 classes (wv z ad E M) H → va_D A (wv z ad E M) → va_S A s.heap H locs → lv_has ls 4 [(0, .ref (ad 41)), (1, .int (oI x1)), (2, .int (oI w2)), (3, .int (oI w3))] → W p l e (rmK 1 42 0 0) s m args below meth c H locs 0 0 Q (F0 m 4 ls [])) (k1 : t = 1 → ∀ (H : Heap) (locs : List Loc) (ls : Array Slot), va_P z.1 classes (wv z ad E M) H → va_D A (wv z ad E M) → va_S A s.heap H locs → lv_has ls 4 [(2, .int (oI w2))] → W p l e (rmK 1 42 0 0) s m args below meth c H locs 0 0 Q (F0 m 80 ls [])) : ∀ (H : Heap) (locs : List Loc) (ls : Array Slot), va_P z.1 classes (wv z ad E M) H → va_D A (wv z ad E M) → va_S A s.heap H locs → lv_has ls 4 [(0, .ref (ad 41)), (1, .int (oI x1)), (2, .int (oI x2)), (3, .int (oI x3))] → W p l e (rmK 1 42 0 0) s m args below meth c H locs 0 0 Q (F0 m 4 ls []) := by
  intro H locs ls hP hD hS hl
  unfold Po_smallestOf_4b at h
  refine lv_iload_n hx hb d_11_24_4 rfl (lv_at hl 3 rfl) ?_
  refine lv_aload_n hx hb d_11_24_5 rfl (lv_at hl 0 rfl) ?_
  refine m_gr (j := 2) (C := "Ballothall$Poll") (T := TX9) (N := 12) (ci := 9) (k := 0) hx hb hts iX9 hown hG hP (yi_41 hL) (yt_41 hL) rfl (by decide) w_107 (fun _ h9 => h9) rfl rfl (yr_41_0 hL) d_11_24_6 ?_
  refine m_giN (C := "Ballothall$BallotBox") (T := TX0) (N := 10) (ci := 0) (k := 2) hx hb hts iX0 hown hG hP (yi_2 hL) (yt_2 hL) rfl (by decide) n_53 rfl (fun _ h9 => h9) rfl rfl d_11_24_9 ?_
  obtain ⟨ok100, h⟩ := ck_e h
  obtain ⟨ok101, h⟩ := ck_e h
  refine lv_icmp_ge (tgt := 80) hx hb d_11_24_12 (by decide) (fun c9 => ?_) (fun c9 => ?_)
  · have h := ite_t ((oI_le (a := (M 2 2)) (b := x3) ok101 ok100).mp c9) h
    obtain ⟨rfl, rfl, rfl⟩ := in3 h
    exact k1 rfl H locs ls hP hD hS (lv_sub hl [2] rfl)
  · have h := ite_f (fun q => c9 ((oI_le (a := (M 2 2)) (b := x3) ok101 ok100).mpr q)) h
    refine lv_iload_n hx hb d_11_24_15 rfl (lv_at hl 1 rfl) ?_
    refine lv_iload_n hx hb d_11_24_16 rfl (lv_at hl 3 rfl) ?_
    obtain ⟨r102, g102, h⟩ := bd_e h
    refine kSN (As := [.int (oI x1), .int (oI x3)]) (rest := []) (s_B_has l z ad E M x1 x3 r102 hL g102) hx hb hml hown hts w_693 n_691 w_692 w_1 md_26545c ⟨Nat.le_of_ble_eq_true rfl, Nat.le_of_ble_eq_true rfl⟩ hG hZ hP hD hS hA rfl hl.1 rfl (Nat.le_of_ble_eq_true rfl) d_11_24_17 ⟨Nat.le_of_ble_eq_true rfl, Nat.le_of_ble_eq_true rfl⟩ (fun _ H locs hP hD hS => ?_)
    have hP : va_P z.1 classes (wv z ad E M) H := hP
    have hD : va_D A (wv z ad E M) := hD
    refine W.eq (g2 := F0 m 20 ls [.int (oI r102)]) rfl ?_
    obtain ⟨ok103, h⟩ := ck_e h
    refine lv_if_eq (tgt := 74) hx hb d_11_24_20 (by decide) (fun c9 => ?_) (fun c9 => ?_)
    · have h := ite_t ((oI_eq0 ok103).mp c9) h
      refine lv_iinc (v := oI (x3 + 1)) (lv' := [(3, .int (oI (x3 + 1))), (0, .ref (ad 41)), (1, .int (oI x1)), (2, .int (oI x2))]) hx hb d_11_24_74 hl (k := 3) rfl (oI_add x3 1) (by decide) rfl (fun ls hl => ?_)
      refine lv_goto (tgt := 4) hx hb d_11_24_77 (by decide) ?_
      obtain ⟨rfl, rfl, rfl⟩ := in3 h
      exact k0 rfl H locs ls hP hD hS (lv_sub hl [1, 2, 3, 0] rfl)
    · have h := ite_f (fun q => c9 ((oI_eq0 ok103).mpr q)) h
      refine lv_iload_n hx hb d_11_24_23 rfl (lv_at hl 2 rfl) ?_
      refine lv_iconst (v := oI (-1)) hx hb d_11_24_24 (by decide +kernel) ?_
      obtain ⟨ok104, h⟩ := ck_e h
      refine lv_icmp_eq (tgt := 72) hx hb d_11_24_25 (by decide) (fun c9 => ?_) (fun c9 => ?_)
      · have h := ite_t ((oI_eq (a := x2) (b := (-1 : Int)) ok104 (by decide)).mp c9) h
        refine lv_iload_n hx hb d_11_24_72 rfl (lv_at hl 3 rfl) ?_
        refine lv_istore_n (lv' := [(2, .int (oI x3)), (0, .ref (ad 41)), (1, .int (oI x1)), (3, .int (oI x3))]) hx hb d_11_24_73 rfl hl (by decide) rfl (fun ls hl => ?_)
        refine lv_iinc (v := oI (x3 + 1)) (lv' := [(3, .int (oI (x3 + 1))), (2, .int (oI x3)), (0, .ref (ad 41)), (1, .int (oI x1))]) hx hb d_11_24_74 hl (k := 3) rfl (oI_add x3 1) (by decide) rfl (fun ls hl => ?_)
        refine lv_goto (tgt := 4) hx hb d_11_24_77 (by decide) ?_
        obtain ⟨rfl, rfl, rfl⟩ := in3 h
        exact k0 rfl H locs ls hP hD hS (lv_sub hl [2, 3, 1, 0] rfl)
      · have h := ite_f (fun q => c9 ((oI_eq (a := x2) (b := (-1 : Int)) ok104 (by decide)).mpr q)) h
        refine lv_aload_n hx hb d_11_24_28 rfl (lv_at hl 0 rfl) ?_
        refine m_gr (j := 48) (C := "Ballothall$Poll") (T := TX9) (N := 12) (ci := 9) (k := 9) hx hb hts iX9 hown hG hP (yi_41 hL) (yt_41 hL) rfl (by decide) w_116 (fun _ h9 => h9) rfl rfl (yr_41_9 hL) d_11_24_29 ?_
        refine lv_iload_n hx hb d_11_24_32 rfl (lv_at hl 3 rfl) ?_
        obtain ⟨ok105, h⟩ := ck_e h
        refine m_la hx hb hG hP (yi_48 hL) (yt_48 hL) ok105 d_11_24_33 ?_
        refine lv_aload_n hx hb d_11_24_34 rfl (lv_at hl 0 rfl) ?_
        refine m_gr (j := 48) (C := "Ballothall$Poll") (T := TX9) (N := 12) (ci := 9) (k := 9) hx hb hts iX9 hown hG hP (yi_41 hL) (yt_41 hL) rfl (by decide) w_116 (fun _ h9 => h9) rfl rfl (yr_41_9 hL) d_11_24_35 ?_
        refine lv_iload_n hx hb d_11_24_38 rfl (lv_at hl 2 rfl) ?_
        obtain ⟨ok106, h⟩ := ck_e h
        refine m_la hx hb hG hP (yi_48 hL) (yt_48 hL) ok106 d_11_24_39 ?_
        obtain ⟨ok107, h⟩ := ck_e h
        obtain ⟨ok108, h⟩ := ck_e h
        refine W.lcmp hx hb d_11_24_40 ?_
        refine nrm (cmp_val (a := (M 48 x3.toNat)) (b := (M 48 x2.toNat)) ok107 ok108) ?_
        refine lv_if_lt (tgt := 72) hx hb d_11_24_41 (by decide) (fun c9 => ?_) (fun c9 => ?_)
        · have h := ite_t ((cmp_lt (M 48 x3.toNat) (M 48 x2.toNat)).mp c9) h
          refine lv_iload_n hx hb d_11_24_72 rfl (lv_at hl 3 rfl) ?_
          refine lv_istore_n (lv' := [(2, .int (oI x3)), (0, .ref (ad 41)), (1, .int (oI x1)), (3, .int (oI x3))]) hx hb d_11_24_73 rfl hl (by decide) rfl (fun ls hl => ?_)
          refine lv_iinc (v := oI (x3 + 1)) (lv' := [(3, .int (oI (x3 + 1))), (2, .int (oI x3)), (0, .ref (ad 41)), (1, .int (oI x1))]) hx hb d_11_24_74 hl (k := 3) rfl (oI_add x3 1) (by decide) rfl (fun ls hl => ?_)
          refine lv_goto (tgt := 4) hx hb d_11_24_77 (by decide) ?_
          obtain ⟨rfl, rfl, rfl⟩ := in3 h
          exact k0 rfl H locs ls hP hD hS (lv_sub hl [2, 3, 1, 0] rfl)
        · have h := ite_f (fun q => c9 ((cmp_lt (M 48 x3.toNat) (M 48 x2.toNat)).mpr q)) h
          refine lv_aload_n hx hb d_11_24_44 rfl (lv_at hl 0 rfl) ?_
          refine m_gr (j := 48) (C := "Ballothall$Poll") (T := TX9) (N := 12) (ci := 9) (k := 9) hx hb hts iX9 hown hG hP (yi_41 hL) (yt_41 hL) rfl (by decide) w_116 (fun _ h9 => h9) rfl rfl (yr_41_9 hL) d_11_24_45 ?_
          refine lv_iload_n hx hb d_11_24_48 rfl (lv_at hl 3 rfl) ?_
          refine m_la hx hb hG hP (yi_48 hL) (yt_48 hL) ok105 d_11_24_49 ?_
          refine lv_aload_n hx hb d_11_24_50 rfl (lv_at hl 0 rfl) ?_
          refine m_gr (j := 48) (C := "Ballothall$Poll") (T := TX9) (N := 12) (ci := 9) (k := 9) hx hb hts iX9 hown hG hP (yi_41 hL) (yt_41 hL) rfl (by decide) w_116 (fun _ h9 => h9) rfl rfl (yr_41_9 hL) d_11_24_51 ?_
          refine lv_iload_n hx hb d_11_24_54 rfl (lv_at hl 2 rfl) ?_
          refine m_la hx hb hG hP (yi_48 hL) (yt_48 hL) ok106 d_11_24_55 ?_
          refine W.lcmp hx hb d_11_24_56 ?_
          refine nrm (cmp_val (a := (M 48 x3.toNat)) (b := (M 48 x2.toNat)) ok107 ok108) ?_
          refine lv_if_ne (tgt := 74) hx hb d_11_24_57 (by decide) (fun c9 => ?_) (fun c9 => ?_)
          · have h := ite_f (fun q => c9 ((cmp_eq (M 48 x3.toNat) (M 48 x2.toNat)).mpr q)) h
            refine lv_iinc (v := oI (x3 + 1)) (lv' := [(3, .int (oI (x3 + 1))), (0, .ref (ad 41)), (1, .int (oI x1)), (2, .int (oI x2))]) hx hb d_11_24_74 hl (k := 3) rfl (oI_add x3 1) (by decide) rfl (fun ls hl => ?_)
            refine lv_goto (tgt := 4) hx hb d_11_24_77 (by decide) ?_
            obtain ⟨rfl, rfl, rfl⟩ := in3 h
            exact k0 rfl H locs ls hP hD hS (lv_sub hl [1, 2, 3, 0] rfl)
          · have h := ite_t ((cmp_eq (M 48 x3.toNat) (M 48 x2.toNat)).mp c9) h
            refine lv_aload_n hx hb d_11_24_60 rfl (lv_at hl 0 rfl) ?_
            refine m_gr (j := 2) (C := "Ballothall$Poll") (T := TX9) (N := 12) (ci := 9) (k := 0) hx hb hts iX9 hown hG hP (yi_41 hL) (yt_41 hL) rfl (by decide) w_107 (fun _ h9 => h9) rfl rfl (yr_41_0 hL) d_11_24_61 ?_
            refine lv_iload_n hx hb d_11_24_64 rfl (lv_at hl 2 rfl) ?_
            refine lv_iload_n hx hb d_11_24_65 rfl (lv_at hl 3 rfl) ?_
            obtain ⟨r109, g109, h⟩ := bd_e h
            refine kVN (As := [.int (oI x2), .int (oI x3)]) (rest := []) (s_Bx_winsLot l z ad E M x2 x3 r109 hL g109) hx hb hml hown hts w_1163 n_1390 w_1162 w_s_85fec9 w_2 md_aa27a3 ⟨Nat.le_of_ble_eq_true rfl, Nat.le_of_ble_eq_true rfl⟩ hG hZ hP hD hS hA 2 (wv_o (ci := 0) (yi_2 hL) (yt_2 hL)) rfl rfl rfl hl.1 rfl (Nat.le_of_ble_eq_true rfl) d_11_24_66 ⟨Nat.le_of_ble_eq_true rfl, Nat.le_of_ble_eq_true rfl⟩ (fun _ H locs hP hD hS => ?_)
            have hP : va_P z.1 classes (wv z ad E M) H := hP
            have hD : va_D A (wv z ad E M) := hD
            refine W.eq (g2 := F0 m 69 ls [.int (oI r109)]) rfl ?_
            obtain ⟨ok110, h⟩ := ck_e h
            refine lv_if_eq (tgt := 74) hx hb d_11_24_69 (by decide) (fun c9 => ?_) (fun c9 => ?_)
            · have h := ite_t ((oI_eq0 ok110).mp c9) h
              refine lv_iinc (v := oI (x3 + 1)) (lv' := [(3, .int (oI (x3 + 1))), (0, .ref (ad 41)), (1, .int (oI x1)), (2, .int (oI x2))]) hx hb d_11_24_74 hl (k := 3) rfl (oI_add x3 1) (by decide) rfl (fun ls hl => ?_)
              refine lv_goto (tgt := 4) hx hb d_11_24_77 (by decide) ?_
              obtain ⟨rfl, rfl, rfl⟩ := in3 h
              exact k0 rfl H locs ls hP hD hS (lv_sub hl [1, 2, 3, 0] rfl)
            · have h := ite_f (fun q => c9 ((oI_eq0 ok110).mpr q)) h
              refine lv_iload_n hx hb d_11_24_72 rfl (lv_at hl 3 rfl) ?_
              refine lv_istore_n (lv' := [(2, .int (oI x3)), (0, .ref (ad 41)), (1, .int (oI x1)), (3, .int (oI x3))]) hx hb d_11_24_73 rfl hl (by decide) rfl (fun ls hl => ?_)
              refine lv_iinc (v := oI (x3 + 1)) (lv' := [(3, .int (oI (x3 + 1))), (2, .int (oI x3)), (0, .ref (ad 41)), (1, .int (oI x1))]) hx hb d_11_24_74 hl (k := 3) rfl (oI_add x3 1) (by decide) rfl (fun ls hl => ?_)
              refine lv_goto (tgt := 4) hx hb d_11_24_77 (by decide) ?_
              obtain ⟨rfl, rfl, rfl⟩ := in3 h
              exact k0 rfl H locs ls hP hD hS (lv_sub hl [2, 3, 1, 0] rfl)
set_option maxRecDepth 100000 in
set_option maxHeartbeats 4000000 in
theorem s_Po_smallestOf_4 (l : Launch) (z : Zz) (ad : Nat → Nat) (E : Ev) (x1 : Int) {Q : State → Prop} {p : Program} {e : Env} {s : State} {m : MethodId} {below : List Frame} {meth : Method} {c : Code} {A : Nat → Prop} {args : Array Value} (hx : p.tables.exec = Jvm.exec) (hb : c.code = prog_11_method_24_code) (hml : c.maxLocals = 4) (hts : ∀ w ∈ WG, w.before args s = true) (hown : s.vm.findClass "Ballothall$Poll" = some m.cls) (hlocks : meth.locks = false) (hA : ∀ q, s.heap.size ≤ q → A q) (hG : KG z s) (hZ : FZ z A s) (hL : Lay E) : ∀ (fu : Nat) (M : Mm) (x2 : Int) (x3 : Int) (t : Nat) (w2 : Int) (w3 : Int), l_Po_smallestOf_4 E x1 fu M x2 x3 = some (t, w2, w3) → (t = 1 → ∀ (H : Heap) (locs : List Loc) (ls : Array Slot), va_P z.1 classes (wv z ad E M) H → va_D A (wv z ad E M) → va_S A s.heap H locs → lv_has ls 4 [(2, .int (oI w2))] → W p l e (rmK 1 42 0 0) s m args below meth c H locs 0 0 Q (F0 m 80 ls [])) → ∀ (H : Heap) (locs : List Loc) (ls : Array Slot), va_P z.1 classes (wv z ad E M) H → va_D A (wv z ad E M) → va_S A s.heap H locs → lv_has ls 4 [(0, .ref (ad 41)), (1, .int (oI x1)), (2, .int (oI x2)), (3, .int (oI x3))] → W p l e (rmK 1 42 0 0) s m args below meth c H locs 0 0 Q (F0 m 4 ls []) := by
  intro fu
  induction fu with
  | zero =>
    intro M x2 x3 t w2 w3 h
    have h : (none : Option (Nat × Int × Int)) = some _ := h
    cases h
  | succ fu ih =>
    intro M x2 x3 t w2 w3 h k1 H locs ls hP hD hS hl
    obtain ⟨⟨t0, w20, w30⟩, g0, h⟩ := bd_e h
    refine b_Po_smallestOf_4b l z ad E M x1 x2 x3 t0 w20 w30 hx hb hml hts hown hlocks hA hG hZ hL g0 (fun e0 => ?_) (fun e0 => ?_) H locs ls hP hD hS hl
    · subst e0
      have h := ite_t rfl h
      exact ih M w20 w30 t w2 w3 h k1
    · subst e0
      have h := ite_f (by decide) h
      obtain ⟨rfl, rfl, rfl⟩ := in3 h
      exact k1 rfl
set_option maxRecDepth 100000 in
set_option maxHeartbeats 4000000 in
theorem s_Po_smallestOf (l : Launch) (z : Zz) (ad : Nat → Nat) (E : Ev) (M : Mm) (x1 : Int) (r : Int)  (hL : Lay E) (h : f_Po_smallestOf E M x1 = some r) : CT l z ⟨"Ballothall$Poll", "smallestOf", "(I)I"⟩ prog_11_method_24_code 4 (some .int) [.ref (ad 41), .int (oI x1)] (wv z ad E M) 1 42 0 0 (fun _ => some (.int (oI r))) (fun _ => (wv z ad E M)) := by
  refine CT.of (own := "Ballothall$Poll") (by decide +kernel) (Nat.le_of_ble_eq_true rfl) rfl (fun p e s m below meth c A ls hx hb hml hr hts hown hlocks hin hA hG hZ hP hD hS hl => ?_)
  have hl : lv_has ls 4 [(0, .ref (ad 41)), (1, .int (oI x1))] := hl
  have key : ∀ (H : Heap) (locs : List Loc) (args : Array Value), (∀ w ∈ WG, w.before args s = true) → va_P z.1 classes (wv z ad E M) H → va_S A s.heap H locs → W p l e (rmK 1 42 0 0) s m args below meth c H locs 0 0 (MQ below (QK z A (fun _ => some (.int (oI r))) (fun _ => (wv z ad E M))) args s 0 0 A) (F0 m 0 ls []) := by
    intro H locs args hts hP hS
    unfold f_Po_smallestOf at h
    refine lv_iconst (v := oI (-1)) hx hb d_11_24_0 (by decide +kernel) ?_
    refine lv_istore_n (lv' := [(2, .int (oI (-1))), (0, .ref (ad 41)), (1, .int (oI x1))]) hx hb d_11_24_1 rfl hl (by decide) rfl (fun ls hl => ?_)
    refine lv_iconst (v := oI 0) hx hb d_11_24_2 (by decide +kernel) ?_
    refine lv_istore_n (lv' := [(3, .int (oI 0)), (2, .int (oI (-1))), (0, .ref (ad 41)), (1, .int (oI x1))]) hx hb d_11_24_3 rfl hl (by decide) rfl (fun ls hl => ?_)
    obtain ⟨⟨t111, v111_2, v111_3⟩, g111, h⟩ := bd_e h
    obtain ⟨ok111, h⟩ := ck_e h
    refine s_Po_smallestOf_4 l z ad E x1 hx hb hml hts hown hlocks hA hG hZ hL FU M (-1) 0 t111 v111_2 v111_3 g111 (fun e111 H locs ls hP hD hS hl => ?_) H locs ls hP hD hS (lv_sub hl [2, 3, 1, 0] rfl)
    refine lv_iload_n hx hb d_11_24_80 rfl (lv_at hl 0 rfl) ?_
    obtain rfl := in1 h
    exact W.iret hx hb hr (fun t ht hW => qkA hP hD hS (fun k => k) rfl rfl ht) hS.2.2 d_11_24_81
  exact key _ _ _ hts hP hS
set_option maxRecDepth 100000 in
set_option maxHeartbeats 4000000 in
theorem b_Po_bestByLot_4b (l : Launch) (z : Zz) (ad : Nat → Nat) (E : Ev) (M : Mm) (x1 : Int) (x2 : Int) (x3 : Int) (t : Nat) (w2 : Int) (w3 : Int)  {Q : State → Prop} {p : Program} {e : Env} {s : State} {m : MethodId} {below : List Frame} {meth : Method} {c : Code} {A : Nat → Prop} {args : Array Value} (hx : p.tables.exec = Jvm.exec) (hb : c.code = prog_11_method_22_code) (hml : c.maxLocals = 4) (hts : ∀ w ∈ WG, w.before args s = true) (hown : s.vm.findClass "Ballothall$Poll" = some m.cls) (hlocks : meth.locks = false) (hA : ∀ q, s.heap.size ≤ q → A q) (hG : KG z s) (hZ : FZ z A s) (hL : Lay E) (h : Po_bestByLot_4b E M x1 x2 x3 = some (t, w2, w3)) (k0 : t = 0 → ∀ (H : Heap) (locs : List Loc) (ls : Array Slot), va_P z.1 classes (wv z ad E M) H → va_D A (wv z ad E M) → va_S A s.heap H locs → lv_has ls 4 [(0, .ref (ad 41)), (1, .int (oI x1)), (2, .int (oI w2)), (3, .int (oI w3))] → W p l e (rmK 1 42 0 0) s m args below meth c H locs 0 0 Q (F0 m 4 ls [])) (k1 : t = 1 → ∀ (H : Heap) (locs : List Loc) (ls : Array Slot), va_P z.1 classes (wv z ad E M) H → va_D A (wv z ad E M) → va_S A s.heap H locs → lv_has ls 4 [(2, .int (oI w2))] → W p l e (rmK 1 42 0 0) s m args below meth c H locs 0 0 Q (F0 m 48 ls [])) : ∀ (H : Heap) (locs : List Loc) (ls : Array Slot), va_P z.1 classes (wv z ad E M) H → va_D A (wv z ad E M) → va_S A s.heap H locs → lv_has ls 4 [(0, .ref (ad 41)), (1, .int (oI x1)), (2, .int (oI x2)), (3, .int (oI x3))] → W p l e (rmK 1 42 0 0) s m args below meth c H locs 0 0 Q (F0 m 4 ls []) := by
  intro H locs ls hP hD hS hl
  unfold Po_bestByLot_4b at h
  refine lv_iload_n hx hb d_11_22_4 rfl (lv_at hl 3 rfl) ?_
  refine lv_aload_n hx hb d_11_22_5 rfl (lv_at hl 0 rfl) ?_
  refine m_gr (j := 2) (C := "Ballothall$Poll") (T := TX9) (N := 12) (ci := 9) (k := 0) hx hb hts iX9 hown hG hP (yi_41 hL) (yt_41 hL) rfl (by decide) w_107 (fun _ h9 => h9) rfl rfl (yr_41_0 hL) d_11_22_6 ?_
  refine m_giN (C := "Ballothall$BallotBox") (T := TX0) (N := 10) (ci := 0) (k := 2) hx hb hts iX0 hown hG hP (yi_2 hL) (yt_2 hL) rfl (by decide) n_53 rfl (fun _ h9 => h9) rfl rfl d_11_22_9 ?_
  obtain ⟨ok100, h⟩ := ck_e h
  obtain ⟨ok101, h⟩ := ck_e h
  refine lv_icmp_ge (tgt := 48) hx hb d_11_22_12 (by decide) (fun c9 => ?_) (fun c9 => ?_)
  · have h := ite_t ((oI_le (a := (M 2 2)) (b := x3) ok101 ok100).mp c9) h
    obtain ⟨rfl, rfl, rfl⟩ := in3 h
    exact k1 rfl H locs ls hP hD hS (lv_sub hl [2] rfl)
  · have h := ite_f (fun q => c9 ((oI_le (a := (M 2 2)) (b := x3) ok101 ok100).mpr q)) h
    refine lv_iload_n hx hb d_11_22_15 rfl (lv_at hl 1 rfl) ?_
    refine lv_iload_n hx hb d_11_22_16 rfl (lv_at hl 3 rfl) ?_
    obtain ⟨r102, g102, h⟩ := bd_e h
    refine kSN (As := [.int (oI x1), .int (oI x3)]) (rest := []) (s_B_has l z ad E M x1 x3 r102 hL g102) hx hb hml hown hts w_693 n_691 w_692 w_1 md_26545c ⟨Nat.le_of_ble_eq_true rfl, Nat.le_of_ble_eq_true rfl⟩ hG hZ hP hD hS hA rfl hl.1 rfl (Nat.le_of_ble_eq_true rfl) d_11_22_17 ⟨Nat.le_of_ble_eq_true rfl, Nat.le_of_ble_eq_true rfl⟩ (fun _ H locs hP hD hS => ?_)
    have hP : va_P z.1 classes (wv z ad E M) H := hP
    have hD : va_D A (wv z ad E M) := hD
    refine W.eq (g2 := F0 m 20 ls [.int (oI r102)]) rfl ?_
    obtain ⟨ok103, h⟩ := ck_e h
    refine lv_if_eq (tgt := 42) hx hb d_11_22_20 (by decide) (fun c9 => ?_) (fun c9 => ?_)
    · have h := ite_t ((oI_eq0 ok103).mp c9) h
      refine lv_iinc (v := oI (x3 + 1)) (lv' := [(3, .int (oI (x3 + 1))), (0, .ref (ad 41)), (1, .int (oI x1)), (2, .int (oI x2))]) hx hb d_11_22_42 hl (k := 3) rfl (oI_add x3 1) (by decide) rfl (fun ls hl => ?_)
      refine lv_goto (tgt := 4) hx hb d_11_22_45 (by decide) ?_
      obtain ⟨rfl, rfl, rfl⟩ := in3 h
      exact k0 rfl H locs ls hP hD hS (lv_sub hl [1, 2, 3, 0] rfl)
    · have h := ite_f (fun q => c9 ((oI_eq0 ok103).mpr q)) h
      refine lv_iload_n hx hb d_11_22_23 rfl (lv_at hl 2 rfl) ?_
      refine lv_iconst (v := oI (-1)) hx hb d_11_22_24 (by decide +kernel) ?_
      obtain ⟨ok104, h⟩ := ck_e h
      refine lv_icmp_eq (tgt := 40) hx hb d_11_22_25 (by decide) (fun c9 => ?_) (fun c9 => ?_)
      · have h := ite_t ((oI_eq (a := x2) (b := (-1 : Int)) ok104 (by decide)).mp c9) h
        refine lv_iload_n hx hb d_11_22_40 rfl (lv_at hl 3 rfl) ?_
        refine lv_istore_n (lv' := [(2, .int (oI x3)), (0, .ref (ad 41)), (1, .int (oI x1)), (3, .int (oI x3))]) hx hb d_11_22_41 rfl hl (by decide) rfl (fun ls hl => ?_)
        refine lv_iinc (v := oI (x3 + 1)) (lv' := [(3, .int (oI (x3 + 1))), (2, .int (oI x3)), (0, .ref (ad 41)), (1, .int (oI x1))]) hx hb d_11_22_42 hl (k := 3) rfl (oI_add x3 1) (by decide) rfl (fun ls hl => ?_)
        refine lv_goto (tgt := 4) hx hb d_11_22_45 (by decide) ?_
        obtain ⟨rfl, rfl, rfl⟩ := in3 h
        exact k0 rfl H locs ls hP hD hS (lv_sub hl [2, 3, 1, 0] rfl)
      · have h := ite_f (fun q => c9 ((oI_eq (a := x2) (b := (-1 : Int)) ok104 (by decide)).mpr q)) h
        refine lv_aload_n hx hb d_11_22_28 rfl (lv_at hl 0 rfl) ?_
        refine m_gr (j := 2) (C := "Ballothall$Poll") (T := TX9) (N := 12) (ci := 9) (k := 0) hx hb hts iX9 hown hG hP (yi_41 hL) (yt_41 hL) rfl (by decide) w_107 (fun _ h9 => h9) rfl rfl (yr_41_0 hL) d_11_22_29 ?_
        refine lv_iload_n hx hb d_11_22_32 rfl (lv_at hl 3 rfl) ?_
        refine lv_iload_n hx hb d_11_22_33 rfl (lv_at hl 2 rfl) ?_
        obtain ⟨r105, g105, h⟩ := bd_e h
        refine kVN (As := [.int (oI x3), .int (oI x2)]) (rest := []) (s_Bx_winsLot l z ad E M x3 x2 r105 hL g105) hx hb hml hown hts w_1163 n_1390 w_1162 w_s_85fec9 w_2 md_aa27a3 ⟨Nat.le_of_ble_eq_true rfl, Nat.le_of_ble_eq_true rfl⟩ hG hZ hP hD hS hA 2 (wv_o (ci := 0) (yi_2 hL) (yt_2 hL)) rfl rfl rfl hl.1 rfl (Nat.le_of_ble_eq_true rfl) d_11_22_34 ⟨Nat.le_of_ble_eq_true rfl, Nat.le_of_ble_eq_true rfl⟩ (fun _ H locs hP hD hS => ?_)
        have hP : va_P z.1 classes (wv z ad E M) H := hP
        have hD : va_D A (wv z ad E M) := hD
        refine W.eq (g2 := F0 m 37 ls [.int (oI r105)]) rfl ?_
        obtain ⟨ok106, h⟩ := ck_e h
        refine lv_if_eq (tgt := 42) hx hb d_11_22_37 (by decide) (fun c9 => ?_) (fun c9 => ?_)
        · have h := ite_t ((oI_eq0 ok106).mp c9) h
          refine lv_iinc (v := oI (x3 + 1)) (lv' := [(3, .int (oI (x3 + 1))), (0, .ref (ad 41)), (1, .int (oI x1)), (2, .int (oI x2))]) hx hb d_11_22_42 hl (k := 3) rfl (oI_add x3 1) (by decide) rfl (fun ls hl => ?_)
          refine lv_goto (tgt := 4) hx hb d_11_22_45 (by decide) ?_
          obtain ⟨rfl, rfl, rfl⟩ := in3 h
          exact k0 rfl H locs ls hP hD hS (lv_sub hl [1, 2, 3, 0] rfl)
        · have h := ite_f (fun q => c9 ((oI_eq0 ok106).mpr q)) h
          refine lv_iload_n hx hb d_11_22_40 rfl (lv_at hl 3 rfl) ?_
          refine lv_istore_n (lv' := [(2, .int (oI x3)), (0, .ref (ad 41)), (1, .int (oI x1)), (3, .int (oI x3))]) hx hb d_11_22_41 rfl hl (by decide) rfl (fun ls hl => ?_)
          refine lv_iinc (v := oI (x3 + 1)) (lv' := [(3, .int (oI (x3 + 1))), (2, .int (oI x3)), (0, .ref (ad 41)), (1, .int (oI x1))]) hx hb d_11_22_42 hl (k := 3) rfl (oI_add x3 1) (by decide) rfl (fun ls hl => ?_)
          refine lv_goto (tgt := 4) hx hb d_11_22_45 (by decide) ?_
          obtain ⟨rfl, rfl, rfl⟩ := in3 h
          exact k0 rfl H locs ls hP hD hS (lv_sub hl [2, 3, 1, 0] rfl)
set_option maxRecDepth 100000 in
set_option maxHeartbeats 4000000 in
theorem s_Po_bestByLot_4 (l : Launch) (z : Zz) (ad : Nat → Nat) (E : Ev) (x1 : Int) {Q : State → Prop} {p : Program} {e : Env} {s : State} {m : MethodId} {below : List Frame} {meth : Method} {c : Code} {A : Nat → Prop} {args : Array Value} (hx : p.tables.exec = Jvm.exec) (hb : c.code = prog_11_method_22_code) (hml : c.maxLocals = 4) (hts : ∀ w ∈ WG, w.before args s = true) (hown : s.vm.findClass "Ballothall$Poll" = some m.cls) (hlocks : meth.locks = false) (hA : ∀ q, s.heap.size ≤ q → A q) (hG : KG z s) (hZ : FZ z A s) (hL : Lay E) : ∀ (fu : Nat) (M : Mm) (x2 : Int) (x3 : Int) (t : Nat) (w2 : Int) (w3 : Int), l_Po_bestByLot_4 E x1 fu M x2 x3 = some (t, w2, w3) → (t = 1 → ∀ (H : Heap) (locs : List Loc) (ls : Array Slot), va_P z.1 classes (wv z ad E M) H → va_D A (wv z ad E M) → va_S A s.heap H locs → lv_has ls 4 [(2, .int (oI w2))] → W p l e (rmK 1 42 0 0) s m args below meth c H locs 0 0 Q (F0 m 48 ls [])) → ∀ (H : Heap) (locs : List Loc) (ls : Array Slot), va_P z.1 classes (wv z ad E M) H → va_D A (wv z ad E M) → va_S A s.heap H locs → lv_has ls 4 [(0, .ref (ad 41)), (1, .int (oI x1)), (2, .int (oI x2)), (3, .int (oI x3))] → W p l e (rmK 1 42 0 0) s m args below meth c H locs 0 0 Q (F0 m 4 ls []) := by
  intro fu
  induction fu with
  | zero =>
    intro M x2 x3 t w2 w3 h
    have h : (none : Option (Nat × Int × Int)) = some _ := h
    cases h
  | succ fu ih =>
    intro M x2 x3 t w2 w3 h k1 H locs ls hP hD hS hl
    obtain ⟨⟨t0, w20, w30⟩, g0, h⟩ := bd_e h
    refine b_Po_bestByLot_4b l z ad E M x1 x2 x3 t0 w20 w30 hx hb hml hts hown hlocks hA hG hZ hL g0 (fun e0 => ?_) (fun e0 => ?_) H locs ls hP hD hS hl
    · subst e0
      have h := ite_t rfl h
      exact ih M w20 w30 t w2 w3 h k1
    · subst e0
      have h := ite_f (by decide) h
      obtain ⟨rfl, rfl, rfl⟩ := in3 h
      exact k1 rfl
set_option maxRecDepth 100000 in
set_option maxHeartbeats 4000000 in
theorem s_Po_bestByLot (l : Launch) (z : Zz) (ad : Nat → Nat) (E : Ev) (M : Mm) (x1 : Int) (r : Int)  (hL : Lay E) (h : f_Po_bestByLot E M x1 = some r) : CT l z ⟨"Ballothall$Poll", "bestByLot", "(I)I"⟩ prog_11_method_22_code 4 (some .int) [.ref (ad 41), .int (oI x1)] (wv z ad E M) 1 42 0 0 (fun _ => some (.int (oI r))) (fun _ => (wv z ad E M)) := by
  refine CT.of (own := "Ballothall$Poll") (by decide +kernel) (Nat.le_of_ble_eq_true rfl) rfl (fun p e s m below meth c A ls hx hb hml hr hts hown hlocks hin hA hG hZ hP hD hS hl => ?_)
  have hl : lv_has ls 4 [(0, .ref (ad 41)), (1, .int (oI x1))] := hl
  have key : ∀ (H : Heap) (locs : List Loc) (args : Array Value), (∀ w ∈ WG, w.before args s = true) → va_P z.1 classes (wv z ad E M) H → va_S A s.heap H locs → W p l e (rmK 1 42 0 0) s m args below meth c H locs 0 0 (MQ below (QK z A (fun _ => some (.int (oI r))) (fun _ => (wv z ad E M))) args s 0 0 A) (F0 m 0 ls []) := by
    intro H locs args hts hP hS
    unfold f_Po_bestByLot at h
    refine lv_iconst (v := oI (-1)) hx hb d_11_22_0 (by decide +kernel) ?_
    refine lv_istore_n (lv' := [(2, .int (oI (-1))), (0, .ref (ad 41)), (1, .int (oI x1))]) hx hb d_11_22_1 rfl hl (by decide) rfl (fun ls hl => ?_)
    refine lv_iconst (v := oI 0) hx hb d_11_22_2 (by decide +kernel) ?_
    refine lv_istore_n (lv' := [(3, .int (oI 0)), (2, .int (oI (-1))), (0, .ref (ad 41)), (1, .int (oI x1))]) hx hb d_11_22_3 rfl hl (by decide) rfl (fun ls hl => ?_)
    obtain ⟨⟨t107, v107_2, v107_3⟩, g107, h⟩ := bd_e h
    obtain ⟨ok107, h⟩ := ck_e h
    refine s_Po_bestByLot_4 l z ad E x1 hx hb hml hts hown hlocks hA hG hZ hL FU M (-1) 0 t107 v107_2 v107_3 g107 (fun e107 H locs ls hP hD hS hl => ?_) H locs ls hP hD hS (lv_sub hl [2, 3, 1, 0] rfl)
    refine lv_iload_n hx hb d_11_22_48 rfl (lv_at hl 0 rfl) ?_
    obtain rfl := in1 h
    exact W.iret hx hb hr (fun t ht hW => qkA hP hD hS (fun k => k) rfl rfl ht) hS.2.2 d_11_22_49
  exact key _ _ _ hts hP hS
set_option maxRecDepth 100000 in
set_option maxHeartbeats 4000000 in
theorem b_Po_lastOfRunoff_17b (l : Launch) (z : Zz) (ad : Nat → Nat) (E : Ev) (M : Mm) (x2 : Int) (x1 : Int) (x3 : Int) (t : Nat) (w1 : Int) (w3 : Int) (N : Mm) {Q : State → Prop} {p : Program} {e : Env} {s : State} {m : MethodId} {below : List Frame} {meth : Method} {c : Code} {A : Nat → Prop} {args : Array Value} (hx : p.tables.exec = Jvm.exec) (hb : c.code = prog_11_method_25_code) (hml : c.maxLocals = 5) (hts : ∀ w ∈ WG, w.before args s = true) (hown : s.vm.findClass "Ballothall$Poll" = some m.cls) (hlocks : meth.locks = false) (hA : ∀ q, s.heap.size ≤ q → A q) (hG : KG z s) (hZ : FZ z A s) (hL : Lay E) (h : Po_lastOfRunoff_17b E M x2 x1 x3 = some (t, w1, w3, N)) (k0 : t = 0 → ∀ (H : Heap) (locs : List Loc) (ls : Array Slot), va_P z.1 classes (wv z ad E N) H → va_D A (wv z ad E N) → va_S A s.heap H locs → lv_has ls 5 [(0, .ref (ad 41)), (1, .int (oI w1)), (2, .int (oI x2)), (3, .int (oI w3))] → W p l e (rmK 3 90 0 0) s m args below meth c H locs 0 0 Q (F0 m 17 ls [])) (k1 : t = 1 → ∀ (H : Heap) (locs : List Loc) (ls : Array Slot), va_P z.1 classes (wv z ad E N) H → va_D A (wv z ad E N) → va_S A s.heap H locs → lv_has ls 5 [(0, .ref (ad 41)), (1, .int (oI w1))] → W p l e (rmK 3 90 0 0) s m args below meth c H locs 0 0 Q (F0 m 57 ls [])) : ∀ (H : Heap) (locs : List Loc) (ls : Array Slot), va_P z.1 classes (wv z ad E M) H → va_D A (wv z ad E M) → va_S A s.heap H locs → lv_has ls 5 [(0, .ref (ad 41)), (1, .int (oI x1)), (2, .int (oI x2)), (3, .int (oI x3))] → W p l e (rmK 3 90 0 0) s m args below meth c H locs 0 0 Q (F0 m 17 ls []) := by
  intro H locs ls hP hD hS hl
  unfold Po_lastOfRunoff_17b at h
  refine lv_iload_n hx hb d_11_25_17 rfl (lv_at hl 3 rfl) ?_
  refine lv_iload_n hx hb d_11_25_18 rfl (lv_at hl 2 rfl) ?_
  obtain ⟨ok101, h⟩ := ck_e h
  obtain ⟨ok102, h⟩ := ck_e h
  refine lv_icmp_ge (tgt := 57) hx hb d_11_25_19 (by decide) (fun c9 => ?_) (fun c9 => ?_)
  · have h := ite_t ((oI_le (a := x2) (b := x3) ok102 ok101).mp c9) h
    obtain ⟨rfl, rfl, rfl, rfl⟩ := in4 h
    exact k1 rfl H locs ls hP hD hS (lv_sub hl [0, 1] rfl)
  · have h := ite_f (fun q => c9 ((oI_le (a := x2) (b := x3) ok102 ok101).mpr q)) h
    refine lv_aload_n hx hb d_11_25_22 rfl (lv_at hl 0 rfl) ?_
    refine lv_iload_n hx hb d_11_25_23 rfl (lv_at hl 1 rfl) ?_
    obtain ⟨M103, g103, h⟩ := bd_e h
    refine kV (As := [.int (oI x1)]) (rest := []) (s_Po_scoreTopsOf l z ad E M x1 M103 hL g103) hx hb hml hown hts w_1382 w_1379 w_1381 w_s_7c0c97 w_3 md_a89aae ⟨Nat.le_of_ble_eq_true rfl, Nat.le_of_ble_eq_true rfl⟩ hG hZ hP hD hS hA 41 (wv_o (ci := 9) (yi_41 hL) (yt_41 hL)) rfl rfl rfl hl.1 rfl (Nat.le_of_ble_eq_true rfl) d_11_25_24 ⟨Nat.le_of_ble_eq_true rfl, Nat.le_of_ble_eq_true rfl⟩ (fun _ H locs hP hD hS => ?_)
    have hP : va_P z.1 classes (wv z ad E M103) H := hP
    have hD : va_D A (wv z ad E M103) := hD
    refine W.eq (g2 := F0 m 27 ls []) rfl ?_
    refine lv_aload_n hx hb d_11_25_27 rfl (lv_at hl 0 rfl) ?_
    refine lv_iload_n hx hb d_11_25_28 rfl (lv_at hl 1 rfl) ?_
    obtain ⟨r104, g104, h⟩ := bd_e h
    refine kV (As := [.int (oI x1)]) (rest := []) (s_Po_smallestOf l z ad E M103 x1 r104 hL g104) hx hb hml hown hts w_1389 w_1386 w_1388 w_s_df56a8 w_3 md_ba9fe6 ⟨Nat.le_of_ble_eq_true rfl, Nat.le_of_ble_eq_true rfl⟩ hG hZ hP hD hS hA 41 (wv_o (ci := 9) (yi_41 hL) (yt_41 hL)) rfl rfl rfl hl.1 rfl (Nat.le_of_ble_eq_true rfl) d_11_25_29 ⟨Nat.le_of_ble_eq_true rfl, Nat.le_of_ble_eq_true rfl⟩ (fun _ H locs hP hD hS => ?_)
    have hP : va_P z.1 classes (wv z ad E M103) H := hP
    have hD : va_D A (wv z ad E M103) := hD
    refine W.eq (g2 := F0 m 32 ls [.int (oI r104)]) rfl ?_
    refine lv_istore (lv' := [(4, .int (oI r104)), (0, .ref (ad 41)), (1, .int (oI x1)), (2, .int (oI x2)), (3, .int (oI x3))]) hx hb d_11_25_32 hl (by decide) rfl (fun ls hl => ?_)
    refine lv_aload_n hx hb d_11_25_34 rfl (lv_at hl 1 rfl) ?_
    refine m_gr (j := 49) (C := "Ballothall$Poll") (T := TX9) (N := 12) (ci := 9) (k := 10) hx hb hts iX9 hown hG hP (yi_41 hL) (yt_41 hL) rfl (by decide) w_117 (fun _ h9 => h9) rfl rfl (yr_41_10 hL) d_11_25_35 ?_
    refine lv_iload_n hx hb d_11_25_38 rfl (lv_at hl 4 rfl) ?_
    refine lv_iload hx hb d_11_25_39 (lv_at hl 0 rfl) ?_
    obtain ⟨ok105, h⟩ := ck_e h
    refine m_is hx hb hG hP hD hS (yi_49 hL) (yt_49 hL) ok105 d_11_25_41 (fun H locs hP hD hS => ?_)
    have hP : va_P z.1 classes (wv z ad E (u2 M103 49 x3.toNat r104)) H := hP
    have hD : va_D A (wv z ad E (u2 M103 49 x3.toNat r104)) := hD
    refine lv_iload_n hx hb d_11_25_42 rfl (lv_at hl 2 rfl) ?_
    refine lv_iconst (v := oI 1) hx hb d_11_25_43 (by decide +kernel) ?_
    refine lv_iload hx hb d_11_25_44 (lv_at hl 0 rfl) ?_
    obtain ⟨ok106, h⟩ := ck_e h
    refine lv_ishl hx hb d_11_25_46 ?_
    refine nrm (oI_one_shl ok106) ?_
    refine lv_iconst (v := oI (-1)) hx hb d_11_25_47 (by decide +kernel) ?_
    refine lv_ixor hx hb d_11_25_48 ?_
    refine nrm (oI_not _) ?_
    obtain ⟨ok107, h⟩ := ck_e h
    obtain ⟨ok108, h⟩ := ck_e h
    refine lv_iand hx hb d_11_25_49 ?_
    refine nrm (oI_dif ok107.1 ok107.2 ok108.1 ok108.2) ?_
    refine lv_istore_n (lv' := [(1, .int (oI (dfI x1 (2 ^ r104.toNat)))), (4, .int (oI r104)), (0, .ref (ad 41)), (2, .int (oI x2)), (3, .int (oI x3))]) hx hb d_11_25_50 rfl hl (by decide) rfl (fun ls hl => ?_)
    refine lv_iinc (v := oI (x3 + 1)) (lv' := [(3, .int (oI (x3 + 1))), (1, .int (oI (dfI x1 (2 ^ r104.toNat)))), (4, .int (oI r104)), (0, .ref (ad 41)), (2, .int (oI x2))]) hx hb d_11_25_51 hl (k := 4) rfl (oI_add x3 1) (by decide) rfl (fun ls hl => ?_)
    refine lv_goto (tgt := 17) hx hb d_11_25_54 (by decide) ?_
    obtain ⟨rfl, rfl, rfl, rfl⟩ := in4 h
    exact k0 rfl H locs ls hP hD hS (lv_sub hl [3, 1, 4, 0] rfl)
set_option maxRecDepth 100000 in
set_option maxHeartbeats 4000000 in
theorem s_Po_lastOfRunoff_17 (l : Launch) (z : Zz) (ad : Nat → Nat) (E : Ev) (x2 : Int) {Q : State → Prop} {p : Program} {e : Env} {s : State} {m : MethodId} {below : List Frame} {meth : Method} {c : Code} {A : Nat → Prop} {args : Array Value} (hx : p.tables.exec = Jvm.exec) (hb : c.code = prog_11_method_25_code) (hml : c.maxLocals = 5) (hts : ∀ w ∈ WG, w.before args s = true) (hown : s.vm.findClass "Ballothall$Poll" = some m.cls) (hlocks : meth.locks = false) (hA : ∀ q, s.heap.size ≤ q → A q) (hG : KG z s) (hZ : FZ z A s) (hL : Lay E) : ∀ (fu : Nat) (M : Mm) (x1 : Int) (x3 : Int) (t : Nat) (w1 : Int) (w3 : Int) (N : Mm), l_Po_lastOfRunoff_17 E x2 fu M x1 x3 = some (t, w1, w3, N) → (t = 1 → ∀ (H : Heap) (locs : List Loc) (ls : Array Slot), va_P z.1 classes (wv z ad E N) H → va_D A (wv z ad E N) → va_S A s.heap H locs → lv_has ls 5 [(0, .ref (ad 41)), (1, .int (oI w1))] → W p l e (rmK 3 90 0 0) s m args below meth c H locs 0 0 Q (F0 m 57 ls [])) → ∀ (H : Heap) (locs : List Loc) (ls : Array Slot), va_P z.1 classes (wv z ad E M) H → va_D A (wv z ad E M) → va_S A s.heap H locs → lv_has ls 5 [(0, .ref (ad 41)), (1, .int (oI x1)), (2, .int (oI x2)), (3, .int (oI x3))] → W p l e (rmK 3 90 0 0) s m args below meth c H locs 0 0 Q (F0 m 17 ls []) := by
  intro fu
  induction fu with
  | zero =>
    intro M x1 x3 t w1 w3 N h
    have h : (none : Option (Nat × Int × Int × Mm)) = some _ := h
    cases h
  | succ fu ih =>
    intro M x1 x3 t w1 w3 N h k1 H locs ls hP hD hS hl
    obtain ⟨⟨t0, w10, w30, N9⟩, g0, h⟩ := bd_e h
    refine b_Po_lastOfRunoff_17b l z ad E M x2 x1 x3 t0 w10 w30 N9 hx hb hml hts hown hlocks hA hG hZ hL g0 (fun e0 => ?_) (fun e0 => ?_) H locs ls hP hD hS hl
    · subst e0
      have h := ite_t rfl h
      exact ih N9 w10 w30 t w1 w3 N h k1
    · subst e0
      have h := ite_f (by decide) h
      obtain ⟨rfl, rfl, rfl, rfl⟩ := in4 h
      exact k1 rfl
set_option maxRecDepth 100000 in
set_option maxHeartbeats 4000000 in
theorem s_Po_lastOfRunoff (l : Launch) (z : Zz) (ad : Nat → Nat) (E : Ev) (M : Mm) (r : Int) (N : Mm) (hL : Lay E) (h : f_Po_lastOfRunoff E M = some (r, N)) : CT l z ⟨"Ballothall$Poll", "lastOfRunoff", "()I"⟩ prog_11_method_25_code 5 (some .int) [.ref (ad 41)] (wv z ad E M) 3 90 0 0 (fun _ => some (.int (oI r))) (fun _ => (wv z ad E N)) := by
  refine CT.of (own := "Ballothall$Poll") (by decide +kernel) (Nat.le_of_ble_eq_true rfl) rfl (fun p e s m below meth c A ls hx hb hml hr hts hown hlocks hin hA hG hZ hP hD hS hl => ?_)
  have hl : lv_has ls 5 [(0, .ref (ad 41))] := hl
  have key : ∀ (H : Heap) (locs : List Loc) (args : Array Value), (∀ w ∈ WG, w.before args s = true) → va_P z.1 classes (wv z ad E M) H → va_S A s.heap H locs → W p l e (rmK 3 90 0 0) s m args below meth c H locs 0 0 (MQ below (QK z A (fun _ => some (.int (oI r))) (fun _ => (wv z ad E N))) args s 0 0 A) (F0 m 0 ls []) := by
    intro H locs args hts hP hS
    unfold f_Po_lastOfRunoff at h
    refine lv_aload_n hx hb d_11_25_0 rfl (lv_at hl 0 rfl) ?_
    refine m_gi (C := "Ballothall$Poll") (T := TX9) (N := 12) (ci := 9) (k := 1) hx hb hts iX9 hown hG hP (yi_41 hL) (yt_41 hL) rfl (by decide) w_108 (fun _ h9 => h9) rfl rfl d_11_25_1 ?_
    refine lv_istore_n (lv' := [(1, .int (oI (M 41 1))), (0, .ref (ad 41))]) hx hb d_11_25_4 rfl hl (by decide) rfl (fun ls hl => ?_)
    refine lv_aload_n hx hb d_11_25_5 rfl (lv_at hl 1 rfl) ?_
    refine m_gi (C := "Ballothall$Poll") (T := TX9) (N := 12) (ci := 9) (k := 1) hx hb hts iX9 hown hG hP (yi_41 hL) (yt_41 hL) rfl (by decide) w_108 (fun _ h9 => h9) rfl rfl d_11_25_6 ?_
    obtain ⟨r100, g100, h⟩ := bd_e h
    refine kS (As := [.int (oI (M 41 1))]) (rest := []) (s_In_bitCount l z ad E M (M 41 1) r100 hL g100) hx hb hml hown hts w_657 w_1318 w_656 w_30 md_eafe8c ⟨Nat.le_of_ble_eq_true rfl, Nat.le_of_ble_eq_true rfl⟩ hG hZ hP hD hS hA rfl hl.1 rfl (Nat.le_of_ble_eq_true rfl) d_11_25_9 ⟨Nat.le_of_ble_eq_true rfl, Nat.le_of_ble_eq_true rfl⟩ (fun _ H locs hP hD hS => ?_)
    have hP : va_P z.1 classes (wv z ad E M) H := hP
    have hD : va_D A (wv z ad E M) := hD
    refine W.eq (g2 := F0 m 12 ls [.int (oI r100)]) rfl ?_
    refine lv_iconst (v := oI 1) hx hb d_11_25_12 (by decide +kernel) ?_
    refine lv_isub hx hb d_11_25_13 ?_
    refine nrm (oI_sub _ _) ?_
    refine lv_istore_n (lv' := [(2, .int (oI (r100 - 1))), (1, .int (oI (M 41 1))), (0, .ref (ad 41))]) hx hb d_11_25_14 rfl hl (by decide) rfl (fun ls hl => ?_)
    refine lv_iconst (v := oI 0) hx hb d_11_25_15 (by decide +kernel) ?_
    refine lv_istore_n (lv' := [(3, .int (oI 0)), (2, .int (oI (r100 - 1))), (1, .int (oI (M 41 1))), (0, .ref (ad 41))]) hx hb d_11_25_16 rfl hl (by decide) rfl (fun ls hl => ?_)
    obtain ⟨⟨t109, v109_1, v109_3, M109⟩, g109, h⟩ := bd_e h
    obtain ⟨ok109, h⟩ := ck_e h
    refine s_Po_lastOfRunoff_17 l z ad E (r100 - 1) hx hb hml hts hown hlocks hA hG hZ hL FU M (M 41 1) 0 t109 v109_1 v109_3 M109 g109 (fun e109 H locs ls hP hD hS hl => ?_) H locs ls hP hD hS (lv_sub hl [3, 2, 1, 0] rfl)
    refine lv_aload_n hx hb d_11_25_57 rfl (lv_at hl 0 rfl) ?_
    refine lv_iload_n hx hb d_11_25_58 rfl (lv_at hl 1 rfl) ?_
    obtain ⟨r110, g110, h⟩ := bd_e h
    refine kV (As := [.int (oI v109_1)]) (rest := []) (s_Po_bestByLot l z ad E M109 v109_1 r110 hL g110) hx hb hml hown hts w_1394 w_1391 w_1393 w_s_b9deda w_3 md_322545 ⟨Nat.le_of_ble_eq_true rfl, Nat.le_of_ble_eq_true rfl⟩ hG hZ hP hD hS hA 41 (wv_o (ci := 9) (yi_41 hL) (yt_41 hL)) rfl rfl rfl hl.1 rfl (Nat.le_of_ble_eq_true rfl) d_11_25_59 ⟨Nat.le_of_ble_eq_true rfl, Nat.le_of_ble_eq_true rfl⟩ (fun _ H locs hP hD hS => ?_)
    have hP : va_P z.1 classes (wv z ad E M109) H := hP
    have hD : va_D A (wv z ad E M109) := hD
    refine W.eq (g2 := F0 m 62 ls [.int (oI r110)]) rfl ?_
    obtain ⟨rfl, rfl⟩ := in2 h
    exact W.iret hx hb hr (fun t ht hW => qkA hP hD hS (fun k => k) rfl rfl ht) hS.2.2 d_11_25_62
  exact key _ _ _ hts hP hS
set_option maxRecDepth 100000 in
set_option maxHeartbeats 4000000 in
theorem b_Po_pointsOf_5b (l : Launch) (z : Zz) (ad : Nat → Nat) (E : Ev) (M : Mm) (x1 : Int) (x2 : Int) (x4 : Int) (t : Nat) (w2 : Int) (w4 : Int)  {Q : State → Prop} {p : Program} {e : Env} {s : State} {m : MethodId} {below : List Frame} {meth : Method} {c : Code} {A : Nat → Prop} {args : Array Value} (hx : p.tables.exec = Jvm.exec) (hb : c.code = prog_11_method_21_code) (hml : c.maxLocals = 5) (hts : ∀ w ∈ WG, w.before args s = true) (hown : s.vm.findClass "Ballothall$Poll" = some m.cls) (hlocks : meth.locks = false) (hA : ∀ q, s.heap.size ≤ q → A q) (hG : KG z s) (hZ : FZ z A s) (hL : Lay E) (h : Po_pointsOf_5b E M x1 x2 x4 = some (t, w2, w4)) (k0 : t = 0 → ∀ (H : Heap) (locs : List Loc) (ls : Array Slot), va_P z.1 classes (wv z ad E M) H → va_D A (wv z ad E M) → va_S A s.heap H locs → lv_has ls 5 [(0, .ref (ad 41)), (1, .int (oI x1)), (2, .long (oJ w2)), (4, .int (oI w4))] → W p l e (rmK 1 42 0 0) s m args below meth c H locs 0 0 Q (F0 m 5 ls [])) (k1 : t = 1 → ∀ (H : Heap) (locs : List Loc) (ls : Array Slot), va_P z.1 classes (wv z ad E M) H → va_D A (wv z ad E M) → va_S A s.heap H locs → lv_has ls 5 [(2, .long (oJ w2))] → W p l e (rmK 1 42 0 0) s m args below meth c H locs 0 0 Q (F0 m 65 ls [])) : ∀ (H : Heap) (locs : List Loc) (ls : Array Slot), va_P z.1 classes (wv z ad E M) H → va_D A (wv z ad E M) → va_S A s.heap H locs → lv_has ls 5 [(0, .ref (ad 41)), (1, .int (oI x1)), (2, .long (oJ x2)), (4, .int (oI x4))] → W p l e (rmK 1 42 0 0) s m args below meth c H locs 0 0 Q (F0 m 5 ls []) := by
  intro H locs ls hP hD hS hl
  unfold Po_pointsOf_5b at h
  refine lv_iload hx hb d_11_21_5 (lv_at hl 3 rfl) ?_
  refine lv_aload_n hx hb d_11_21_7 rfl (lv_at hl 0 rfl) ?_
  refine m_gr (j := 2) (C := "Ballothall$Poll") (T := TX9) (N := 12) (ci := 9) (k := 0) hx hb hts iX9 hown hG hP (yi_41 hL) (yt_41 hL) rfl (by decide) w_107 (fun _ h9 => h9) rfl rfl (yr_41_0 hL) d_11_21_8 ?_
  refine m_giN (C := "Ballothall$BallotBox") (T := TX0) (N := 10) (ci := 0) (k := 2) hx hb hts iX0 hown hG hP (yi_2 hL) (yt_2 hL) rfl (by decide) n_53 rfl (fun _ h9 => h9) rfl rfl d_11_21_11 ?_
  obtain ⟨ok100, h⟩ := ck_e h
  obtain ⟨ok101, h⟩ := ck_e h
  refine lv_icmp_ge (tgt := 65) hx hb d_11_21_14 (by decide) (fun c9 => ?_) (fun c9 => ?_)
  · have h := ite_t ((oI_le (a := (M 2 2)) (b := x4) ok101 ok100).mp c9) h
    obtain ⟨rfl, rfl, rfl⟩ := in3 h
    exact k1 rfl H locs ls hP hD hS (lv_sub hl [2] rfl)
  · have h := ite_f (fun q => c9 ((oI_le (a := (M 2 2)) (b := x4) ok101 ok100).mpr q)) h
    refine lv_iload hx hb d_11_21_17 (lv_at hl 3 rfl) ?_
    refine lv_iload_n hx hb d_11_21_19 rfl (lv_at hl 1 rfl) ?_
    obtain ⟨ok102, h⟩ := ck_e h
    refine lv_icmp_eq (tgt := 59) hx hb d_11_21_20 (by decide) (fun c9 => ?_) (fun c9 => ?_)
    · have h := ite_t ((oI_eq (a := x4) (b := x1) ok100 ok102).mp c9) h
      refine lv_iinc (v := oI (x4 + 1)) (lv' := [(4, .int (oI (x4 + 1))), (0, .ref (ad 41)), (1, .int (oI x1)), (2, .long (oJ x2))]) hx hb d_11_21_59 hl (k := 3) rfl (oI_add x4 1) (by decide) rfl (fun ls hl => ?_)
      refine lv_goto (tgt := 5) hx hb d_11_21_62 (by decide) ?_
      obtain ⟨rfl, rfl, rfl⟩ := in3 h
      exact k0 rfl H locs ls hP hD hS (lv_sub hl [1, 2, 3, 0] rfl)
    · have h := ite_f (fun q => c9 ((oI_eq (a := x4) (b := x1) ok100 ok102).mpr q)) h
      refine lv_aload_n hx hb d_11_21_23 rfl (lv_at hl 0 rfl) ?_
      refine m_gi (C := "Ballothall$Poll") (T := TX9) (N := 12) (ci := 9) (k := 1) hx hb hts iX9 hown hG hP (yi_41 hL) (yt_41 hL) rfl (by decide) w_108 (fun _ h9 => h9) rfl rfl d_11_21_24 ?_
      refine lv_iload hx hb d_11_21_27 (lv_at hl 3 rfl) ?_
      obtain ⟨r103, g103, h⟩ := bd_e h
      refine kSN (As := [.int (oI (M 41 1)), .int (oI x4)]) (rest := []) (s_B_has l z ad E M (M 41 1) x4 r103 hL g103) hx hb hml hown hts w_693 n_691 w_692 w_1 md_26545c ⟨Nat.le_of_ble_eq_true rfl, Nat.le_of_ble_eq_true rfl⟩ hG hZ hP hD hS hA rfl hl.1 rfl (Nat.le_of_ble_eq_true rfl) d_11_21_29 ⟨Nat.le_of_ble_eq_true rfl, Nat.le_of_ble_eq_true rfl⟩ (fun _ H locs hP hD hS => ?_)
      have hP : va_P z.1 classes (wv z ad E M) H := hP
      have hD : va_D A (wv z ad E M) := hD
      refine W.eq (g2 := F0 m 32 ls [.int (oI r103)]) rfl ?_
      obtain ⟨ok104, h⟩ := ck_e h
      refine lv_if_eq (tgt := 59) hx hb d_11_21_32 (by decide) (fun c9 => ?_) (fun c9 => ?_)
      · have h := ite_t ((oI_eq0 ok104).mp c9) h
        refine lv_iinc (v := oI (x4 + 1)) (lv' := [(4, .int (oI (x4 + 1))), (0, .ref (ad 41)), (1, .int (oI x1)), (2, .long (oJ x2))]) hx hb d_11_21_59 hl (k := 3) rfl (oI_add x4 1) (by decide) rfl (fun ls hl => ?_)
        refine lv_goto (tgt := 5) hx hb d_11_21_62 (by decide) ?_
        obtain ⟨rfl, rfl, rfl⟩ := in3 h
        exact k0 rfl H locs ls hP hD hS (lv_sub hl [1, 2, 3, 0] rfl)
      · have h := ite_f (fun q => c9 ((oI_eq0 ok104).mpr q)) h
        refine lv_lload_n hx hb d_11_21_35 rfl (lv_at hl 2 rfl) ?_
        refine lv_aload_n hx hb d_11_21_36 rfl (lv_at hl 0 rfl) ?_
        refine m_gi (C := "Ballothall$Poll") (T := TX9) (N := 12) (ci := 9) (k := 2) hx hb hts iX9 hown hG hP (yi_41 hL) (yt_41 hL) rfl (by decide) w_109 (fun _ h9 => h9) rfl rfl d_11_21_37 ?_
        refine lv_aload_n hx hb d_11_21_40 rfl (lv_at hl 0 rfl) ?_
        refine lv_iload_n hx hb d_11_21_41 rfl (lv_at hl 1 rfl) ?_
        refine lv_iload hx hb d_11_21_42 (lv_at hl 3 rfl) ?_
        obtain ⟨r105, g105, h⟩ := bd_e h
        refine kV (As := [.int (oI x1), .int (oI x4)]) (rest := [.int (oI (M 41 2)), .long (oJ x2)]) (s_Po_pair l z ad E M x1 x4 r105 hL g105) hx hb hml hown hts w_709 w_706 w_708 w_s_776300 w_3 md_5a94c2 ⟨Nat.le_of_ble_eq_true rfl, Nat.le_of_ble_eq_true rfl⟩ hG hZ hP hD hS hA 41 (wv_o (ci := 9) (yi_41 hL) (yt_41 hL)) rfl rfl rfl hl.1 rfl (Nat.le_of_ble_eq_true rfl) d_11_21_44 ⟨Nat.le_of_ble_eq_true rfl, Nat.le_of_ble_eq_true rfl⟩ (fun _ H locs hP hD hS => ?_)
        have hP : va_P z.1 classes (wv z ad E M) H := hP
        have hD : va_D A (wv z ad E M) := hD
        refine W.eq (g2 := F0 m 47 ls [.int (oI r105), .int (oI (M 41 2)), .long (oJ x2)]) rfl ?_
        refine lv_iadd hx hb d_11_21_47 ?_
        refine nrm (oI_add _ _) ?_
        refine lv_aload_n hx hb d_11_21_48 rfl (lv_at hl 0 rfl) ?_
        refine lv_iload hx hb d_11_21_49 (lv_at hl 3 rfl) ?_
        refine lv_iload_n hx hb d_11_21_51 rfl (lv_at hl 1 rfl) ?_
        obtain ⟨r106, g106, h⟩ := bd_e h
        refine kV (As := [.int (oI x4), .int (oI x1)]) (rest := [.int (oI ((M 41 2) + r105)), .long (oJ x2)]) (s_Po_pair l z ad E M x4 x1 r106 hL g106) hx hb hml hown hts w_709 w_706 w_708 w_s_776300 w_3 md_5a94c2 ⟨Nat.le_of_ble_eq_true rfl, Nat.le_of_ble_eq_true rfl⟩ hG hZ hP hD hS hA 41 (wv_o (ci := 9) (yi_41 hL) (yt_41 hL)) rfl rfl rfl hl.1 rfl (Nat.le_of_ble_eq_true rfl) d_11_21_52 ⟨Nat.le_of_ble_eq_true rfl, Nat.le_of_ble_eq_true rfl⟩ (fun _ H locs hP hD hS => ?_)
        have hP : va_P z.1 classes (wv z ad E M) H := hP
        have hD : va_D A (wv z ad E M) := hD
        refine W.eq (g2 := F0 m 55 ls [.int (oI r106), .int (oI ((M 41 2) + r105)), .long (oJ x2)]) rfl ?_
        refine lv_isub hx hb d_11_21_55 ?_
        refine nrm (oI_sub _ _) ?_
        obtain ⟨ok107, h⟩ := ck_e h
        refine lv_i2l (v := oJ (((M 41 2) + r105) - r106)) hx hb d_11_21_56 (oI_l ok107) ?_
        refine lv_ladd hx hb d_11_21_57 ?_
        refine nrmL (oJ_add _ _) ?_
        obtain ⟨v108, e108, h⟩ := nb_e h
        refine nrmL (congrArg oJ e108.symm) ?_
        refine lv_lstore_n (lv' := [(2, .long (oJ v108)), (0, .ref (ad 41)), (1, .int (oI x1)), (4, .int (oI x4))]) hx hb d_11_21_58 rfl hl (by decide) rfl (fun ls hl => ?_)
        refine lv_iinc (v := oI (x4 + 1)) (lv' := [(4, .int (oI (x4 + 1))), (2, .long (oJ v108)), (0, .ref (ad 41)), (1, .int (oI x1))]) hx hb d_11_21_59 hl (k := 3) rfl (oI_add x4 1) (by decide) rfl (fun ls hl => ?_)
        refine lv_goto (tgt := 5) hx hb d_11_21_62 (by decide) ?_
        obtain ⟨rfl, rfl, rfl⟩ := in3 h
        exact k0 rfl H locs ls hP hD hS (lv_sub hl [2, 3, 1, 0] rfl)
set_option maxRecDepth 100000 in
set_option maxHeartbeats 4000000 in
theorem s_Po_pointsOf_5 (l : Launch) (z : Zz) (ad : Nat → Nat) (E : Ev) (x1 : Int) {Q : State → Prop} {p : Program} {e : Env} {s : State} {m : MethodId} {below : List Frame} {meth : Method} {c : Code} {A : Nat → Prop} {args : Array Value} (hx : p.tables.exec = Jvm.exec) (hb : c.code = prog_11_method_21_code) (hml : c.maxLocals = 5) (hts : ∀ w ∈ WG, w.before args s = true) (hown : s.vm.findClass "Ballothall$Poll" = some m.cls) (hlocks : meth.locks = false) (hA : ∀ q, s.heap.size ≤ q → A q) (hG : KG z s) (hZ : FZ z A s) (hL : Lay E) : ∀ (fu : Nat) (M : Mm) (x2 : Int) (x4 : Int) (t : Nat) (w2 : Int) (w4 : Int), l_Po_pointsOf_5 E x1 fu M x2 x4 = some (t, w2, w4) → (t = 1 → ∀ (H : Heap) (locs : List Loc) (ls : Array Slot), va_P z.1 classes (wv z ad E M) H → va_D A (wv z ad E M) → va_S A s.heap H locs → lv_has ls 5 [(2, .long (oJ w2))] → W p l e (rmK 1 42 0 0) s m args below meth c H locs 0 0 Q (F0 m 65 ls [])) → ∀ (H : Heap) (locs : List Loc) (ls : Array Slot), va_P z.1 classes (wv z ad E M) H → va_D A (wv z ad E M) → va_S A s.heap H locs → lv_has ls 5 [(0, .ref (ad 41)), (1, .int (oI x1)), (2, .long (oJ x2)), (4, .int (oI x4))] → W p l e (rmK 1 42 0 0) s m args below meth c H locs 0 0 Q (F0 m 5 ls []) := by
  intro fu
  induction fu with
  | zero =>
    intro M x2 x4 t w2 w4 h
    have h : (none : Option (Nat × Int × Int)) = some _ := h
    cases h
  | succ fu ih =>
    intro M x2 x4 t w2 w4 h k1 H locs ls hP hD hS hl
    obtain ⟨⟨t0, w20, w40⟩, g0, h⟩ := bd_e h
    refine b_Po_pointsOf_5b l z ad E M x1 x2 x4 t0 w20 w40 hx hb hml hts hown hlocks hA hG hZ hL g0 (fun e0 => ?_) (fun e0 => ?_) H locs ls hP hD hS hl
    · subst e0
      have h := ite_t rfl h
      exact ih M w20 w40 t w2 w4 h k1
    · subst e0
      have h := ite_f (by decide) h
      obtain ⟨rfl, rfl, rfl⟩ := in3 h
      exact k1 rfl
set_option maxRecDepth 100000 in
set_option maxHeartbeats 4000000 in
theorem s_Po_pointsOf (l : Launch) (z : Zz) (ad : Nat → Nat) (E : Ev) (M : Mm) (x1 : Int) (r : Int)  (hL : Lay E) (h : f_Po_pointsOf E M x1 = some r) : CT l z ⟨"Ballothall$Poll", "pointsOf", "(I)J"⟩ prog_11_method_21_code 5 (some .long) [.ref (ad 41), .int (oI x1)] (wv z ad E M) 1 42 0 0 (fun _ => some (.long (oJ r))) (fun _ => (wv z ad E M)) := by
  refine CT.of (own := "Ballothall$Poll") (by decide +kernel) (Nat.le_of_ble_eq_true rfl) rfl (fun p e s m below meth c A ls hx hb hml hr hts hown hlocks hin hA hG hZ hP hD hS hl => ?_)
  have hl : lv_has ls 5 [(0, .ref (ad 41)), (1, .int (oI x1))] := hl
  have key : ∀ (H : Heap) (locs : List Loc) (args : Array Value), (∀ w ∈ WG, w.before args s = true) → va_P z.1 classes (wv z ad E M) H → va_S A s.heap H locs → W p l e (rmK 1 42 0 0) s m args below meth c H locs 0 0 (MQ below (QK z A (fun _ => some (.long (oJ r))) (fun _ => (wv z ad E M))) args s 0 0 A) (F0 m 0 ls []) := by
    intro H locs args hts hP hS
    unfold f_Po_pointsOf at h
    refine lv_lconst (v := oJ 0) hx hb d_11_21_0 (by decide +kernel) ?_
    refine lv_lstore_n (lv' := [(2, .long (oJ 0)), (0, .ref (ad 41)), (1, .int (oI x1))]) hx hb d_11_21_1 rfl hl (by decide) rfl (fun ls hl => ?_)
    refine lv_iconst (v := oI 0) hx hb d_11_21_2 (by decide +kernel) ?_
    refine lv_istore (lv' := [(4, .int (oI 0)), (2, .long (oJ 0)), (0, .ref (ad 41)), (1, .int (oI x1))]) hx hb d_11_21_3 hl (by decide) rfl (fun ls hl => ?_)
    obtain ⟨⟨t109, v109_2, v109_4⟩, g109, h⟩ := bd_e h
    obtain ⟨ok109, h⟩ := ck_e h
    refine s_Po_pointsOf_5 l z ad E x1 hx hb hml hts hown hlocks hA hG hZ hL FU M 0 0 t109 v109_2 v109_4 g109 (fun e109 H locs ls hP hD hS hl => ?_) H locs ls hP hD hS (lv_sub hl [2, 3, 1, 0] rfl)
    refine lv_lload_n hx hb d_11_21_65 rfl (lv_at hl 0 rfl) ?_
    obtain rfl := in1 h
    exact W.lret hx hb hr (fun t ht hW => qkA hP hD hS (fun k => k) rfl rfl ht) hS.2.2 d_11_21_66
  exact key _ _ _ hts hP hS
set_option maxRecDepth 100000 in
set_option maxHeartbeats 4000000 in
theorem b_Po_findScores_j59 (l : Launch) (z : Zz) (ad : Nat → Nat) (E : Ev) (M : Mm) (x1 : Int) (x2 : Int) (y0 : Int) (y1 : Int) (y2 : Nat) (t : Nat) (w2 : Int) (N : Mm) {Q : State → Prop} {p : Program} {e : Env} {s : State} {m : MethodId} {below : List Frame} {meth : Method} {c : Code} {A : Nat → Prop} {args : Array Value} (hx : p.tables.exec = Jvm.exec) (hb : c.code = prog_11_method_20_code) (hml : c.maxLocals = 3) (hts : ∀ w ∈ WG, w.before args s = true) (hown : s.vm.findClass "Ballothall$Poll" = some m.cls) (hlocks : meth.locks = false) (hA : ∀ q, s.heap.size ≤ q → A q) (hG : KG z s) (hZ : FZ z A s) (hL : Lay E) (h : Po_findScores_j59 E M x1 x2 y0 y1 y2 = some (t, w2, N)) (k0 : t = 0 → ∀ (H : Heap) (locs : List Loc) (ls : Array Slot), va_P z.1 classes (wv z ad E N) H → va_D A (wv z ad E N) → va_S A s.heap H locs → lv_has ls 3 [(0, .ref (ad 41)), (1, .int (oI x1)), (2, .int (oI w2))] → W p l e (rmK 2 66 0 0) s m args below meth c H locs 0 0 Q (F0 m 2 ls [])) (k1 : t = 1 → ∀ (H : Heap) (locs : List Loc) (ls : Array Slot), va_P z.1 classes (wv z ad E N) H → va_D A (wv z ad E N) → va_S A s.heap H locs → lv_has ls 3 [] → W p l e (rmK 2 66 0 0) s m args below meth c H locs 0 0 Q (F0 m 66 ls [])) : ∀ (H : Heap) (locs : List Loc) (ls : Array Slot), va_P z.1 classes (wv z ad E M) H → va_D A (wv z ad E M) → va_S A s.heap H locs → lv_has ls 3 [(0, .ref (ad 41)), (1, .int (oI x1)), (2, .int (oI x2))] → W p l e (rmK 2 66 0 0) s m args below meth c H locs 0 0 Q (F0 m 59 ls [.long (oJ y0), .int (oI y1), .ref (ad y2)]) := by
  intro H locs ls hP hD hS hl
  unfold Po_findScores_j59 at h
  obtain ⟨h_y2, h⟩ := ck_e h
  obtain ⟨ok105, h⟩ := ck_e h
  refine m_ls hx hb hG hP hD hS h_y2.1 (isLA_T h_y2) ok105 d_11_20_59 (fun H locs hP hD hS => ?_)
  have hP : va_P z.1 classes (wv z ad E (u2 M y2 y1.toNat y0)) H := hP
  have hD : va_D A (wv z ad E (u2 M y2 y1.toNat y0)) := hD
  refine lv_iinc (v := oI (x2 + 1)) (lv' := [(2, .int (oI (x2 + 1))), (0, .ref (ad 41)), (1, .int (oI x1))]) hx hb d_11_20_60 hl (k := 2) rfl (oI_add x2 1) (by decide) rfl (fun ls hl => ?_)
  refine lv_goto (tgt := 2) hx hb d_11_20_63 (by decide) ?_
  obtain ⟨rfl, rfl, rfl⟩ := in3 h
  exact k0 rfl H locs ls hP hD hS (lv_sub hl [1, 2, 0] rfl)
set_option maxRecDepth 100000 in
set_option maxHeartbeats 4000000 in
theorem b_Po_findScores_2b (l : Launch) (z : Zz) (ad : Nat → Nat) (E : Ev) (M : Mm) (x1 : Int) (x2 : Int) (t : Nat) (w2 : Int) (N : Mm) {Q : State → Prop} {p : Program} {e : Env} {s : State} {m : MethodId} {below : List Frame} {meth : Method} {c : Code} {A : Nat → Prop} {args : Array Value} (hx : p.tables.exec = Jvm.exec) (hb : c.code = prog_11_method_20_code) (hml : c.maxLocals = 3) (hts : ∀ w ∈ WG, w.before args s = true) (hown : s.vm.findClass "Ballothall$Poll" = some m.cls) (hlocks : meth.locks = false) (hA : ∀ q, s.heap.size ≤ q → A q) (hG : KG z s) (hZ : FZ z A s) (hL : Lay E) (h : Po_findScores_2b E M x1 x2 = some (t, w2, N)) (k0 : t = 0 → ∀ (H : Heap) (locs : List Loc) (ls : Array Slot), va_P z.1 classes (wv z ad E N) H → va_D A (wv z ad E N) → va_S A s.heap H locs → lv_has ls 3 [(0, .ref (ad 41)), (1, .int (oI x1)), (2, .int (oI w2))] → W p l e (rmK 2 66 0 0) s m args below meth c H locs 0 0 Q (F0 m 2 ls [])) (k1 : t = 1 → ∀ (H : Heap) (locs : List Loc) (ls : Array Slot), va_P z.1 classes (wv z ad E N) H → va_D A (wv z ad E N) → va_S A s.heap H locs → lv_has ls 3 [] → W p l e (rmK 2 66 0 0) s m args below meth c H locs 0 0 Q (F0 m 66 ls [])) : ∀ (H : Heap) (locs : List Loc) (ls : Array Slot), va_P z.1 classes (wv z ad E M) H → va_D A (wv z ad E M) → va_S A s.heap H locs → lv_has ls 3 [(0, .ref (ad 41)), (1, .int (oI x1)), (2, .int (oI x2))] → W p l e (rmK 2 66 0 0) s m args below meth c H locs 0 0 Q (F0 m 2 ls []) := by
  intro H locs ls hP hD hS hl
  unfold Po_findScores_2b at h
  refine lv_iload_n hx hb d_11_20_2 rfl (lv_at hl 2 rfl) ?_
  refine lv_aload_n hx hb d_11_20_3 rfl (lv_at hl 0 rfl) ?_
  refine m_gr (j := 2) (C := "Ballothall$Poll") (T := TX9) (N := 12) (ci := 9) (k := 0) hx hb hts iX9 hown hG hP (yi_41 hL) (yt_41 hL) rfl (by decide) w_107 (fun _ h9 => h9) rfl rfl (yr_41_0 hL) d_11_20_4 ?_
  refine m_giN (C := "Ballothall$BallotBox") (T := TX0) (N := 10) (ci := 0) (k := 2) hx hb hts iX0 hown hG hP (yi_2 hL) (yt_2 hL) rfl (by decide) n_53 rfl (fun _ h9 => h9) rfl rfl d_11_20_7 ?_
  obtain ⟨ok100, h⟩ := ck_e h
  obtain ⟨ok101, h⟩ := ck_e h
  refine lv_icmp_ge (tgt := 66) hx hb d_11_20_10 (by decide) (fun c9 => ?_) (fun c9 => ?_)
  · have h := ite_t ((oI_le (a := (M 2 2)) (b := x2) ok101 ok100).mp c9) h
    obtain ⟨rfl, rfl, rfl⟩ := in3 h
    exact k1 rfl H locs ls hP hD hS (lv_sub hl [] rfl)
  · have h := ite_f (fun q => c9 ((oI_le (a := (M 2 2)) (b := x2) ok101 ok100).mpr q)) h
    refine lv_iload_n hx hb d_11_20_13 rfl (lv_at hl 1 rfl) ?_
    refine lv_iconst (v := oI 3) hx hb d_11_20_14 (by decide +kernel) ?_
    obtain ⟨ok102, h⟩ := ck_e h
    refine lv_icmp_ne (tgt := 32) hx hb d_11_20_15 (by decide) (fun c9 => ?_) (fun c9 => ?_)
    · have h := ite_f (fun q => c9 ((oI_eq (a := x1) (b := (3 : Int)) ok102 (by decide)).mpr q)) h
      refine lv_aload_n hx hb d_11_20_32 rfl (lv_at hl 0 rfl) ?_
      refine m_gr (j := 48) (C := "Ballothall$Poll") (T := TX9) (N := 12) (ci := 9) (k := 9) hx hb hts iX9 hown hG hP (yi_41 hL) (yt_41 hL) rfl (by decide) w_116 (fun _ h9 => h9) rfl rfl (yr_41_9 hL) d_11_20_33 ?_
      refine lv_iload_n hx hb d_11_20_36 rfl (lv_at hl 2 rfl) ?_
      refine lv_iload_n hx hb d_11_20_37 rfl (lv_at hl 1 rfl) ?_
      refine lv_iconst (v := oI 4) hx hb d_11_20_38 (by decide +kernel) ?_
      refine lv_icmp_ne (tgt := 52) hx hb d_11_20_39 (by decide) (fun c9 => ?_) (fun c9 => ?_)
      · have h := ite_f (fun q => c9 ((oI_eq (a := x1) (b := (4 : Int)) ok102 (by decide)).mpr q)) h
        refine lv_aload_n hx hb d_11_20_52 rfl (lv_at hl 0 rfl) ?_
        refine m_gr (j := 43) (C := "Ballothall$Poll") (T := TX9) (N := 12) (ci := 9) (k := 4) hx hb hts iX9 hown hG hP (yi_41 hL) (yt_41 hL) rfl (by decide) w_111 (fun _ h9 => h9) rfl rfl (yr_41_4 hL) d_11_20_53 ?_
        refine lv_iload_n hx hb d_11_20_56 rfl (lv_at hl 2 rfl) ?_
        obtain ⟨ok103, h⟩ := ck_e h
        refine m_ia hx hb hG hP (yi_43 hL) (yt_43 hL) ok103 d_11_20_57 ?_
        obtain ⟨ok104, h⟩ := ck_e h
        refine lv_i2l (v := oJ (M 43 x2.toNat)) hx hb d_11_20_58 (oI_l ok104) ?_
        exact b_Po_findScores_j59 l z ad E M x1 x2 (M 43 x2.toNat) x2 48 t w2 N hx hb hml hts hown hlocks hA hG hZ hL h k0 k1 H locs ls hP hD hS (lv_sub hl [0, 1, 2] rfl)
      · have h := ite_t ((oI_eq (a := x1) (b := (4 : Int)) ok102 (by decide)).mp c9) h
        refine lv_aload_n hx hb d_11_20_42 rfl (lv_at hl 0 rfl) ?_
        refine m_gr (j := 44) (C := "Ballothall$Poll") (T := TX9) (N := 12) (ci := 9) (k := 5) hx hb hts iX9 hown hG hP (yi_41 hL) (yt_41 hL) rfl (by decide) w_112 (fun _ h9 => h9) rfl rfl (yr_41_5 hL) d_11_20_43 ?_
        refine lv_iload_n hx hb d_11_20_46 rfl (lv_at hl 2 rfl) ?_
        obtain ⟨ok106, h⟩ := ck_e h
        refine m_ia hx hb hG hP (yi_44 hL) (yt_44 hL) ok106 d_11_20_47 ?_
        obtain ⟨ok107, h⟩ := ck_e h
        refine lv_i2l (v := oJ (M 44 x2.toNat)) hx hb d_11_20_48 (oI_l ok107) ?_
        refine lv_goto (tgt := 59) hx hb d_11_20_49 (by decide) ?_
        exact b_Po_findScores_j59 l z ad E M x1 x2 (M 44 x2.toNat) x2 48 t w2 N hx hb hml hts hown hlocks hA hG hZ hL h k0 k1 H locs ls hP hD hS (lv_sub hl [0, 1, 2] rfl)
    · have h := ite_t ((oI_eq (a := x1) (b := (3 : Int)) ok102 (by decide)).mp c9) h
      refine lv_aload_n hx hb d_11_20_18 rfl (lv_at hl 0 rfl) ?_
      refine m_gr (j := 48) (C := "Ballothall$Poll") (T := TX9) (N := 12) (ci := 9) (k := 9) hx hb hts iX9 hown hG hP (yi_41 hL) (yt_41 hL) rfl (by decide) w_116 (fun _ h9 => h9) rfl rfl (yr_41_9 hL) d_11_20_19 ?_
      refine lv_iload_n hx hb d_11_20_22 rfl (lv_at hl 2 rfl) ?_
      refine lv_aload_n hx hb d_11_20_23 rfl (lv_at hl 0 rfl) ?_
      refine lv_iload_n hx hb d_11_20_24 rfl (lv_at hl 2 rfl) ?_
      obtain ⟨r108, g108, h⟩ := bd_e h
      refine kV (As := [.int (oI x2)]) (rest := [.int (oI x2), .ref (ad 48)]) (s_Po_pointsOf l z ad E M x2 r108 hL g108) hx hb hml hown hts w_1403 w_1400 w_1402 w_s_1dc2e3 w_3 md_de5466 ⟨Nat.le_of_ble_eq_true rfl, Nat.le_of_ble_eq_true rfl⟩ hG hZ hP hD hS hA 41 (wv_o (ci := 9) (yi_41 hL) (yt_41 hL)) rfl rfl rfl hl.1 rfl (Nat.le_of_ble_eq_true rfl) d_11_20_25 ⟨Nat.le_of_ble_eq_true rfl, Nat.le_of_ble_eq_true rfl⟩ (fun _ H locs hP hD hS => ?_)
      have hP : va_P z.1 classes (wv z ad E M) H := hP
      have hD : va_D A (wv z ad E M) := hD
      refine W.eq (g2 := F0 m 28 ls [.long (oJ r108), .int (oI x2), .ref (ad 48)]) rfl ?_
      obtain ⟨ok109, h⟩ := ck_e h
      refine m_ls hx hb hG hP hD hS (yi_48 hL) (yt_48 hL) ok109 d_11_20_28 (fun H locs hP hD hS => ?_)
      have hP : va_P z.1 classes (wv z ad E (u2 M 48 x2.toNat r108)) H := hP
      have hD : va_D A (wv z ad E (u2 M 48 x2.toNat r108)) := hD
      refine lv_goto (tgt := 60) hx hb d_11_20_29 (by decide) ?_
      refine lv_iinc (v := oI (x2 + 1)) (lv' := [(2, .int (oI (x2 + 1))), (0, .ref (ad 41)), (1, .int (oI x1))]) hx hb d_11_20_60 hl (k := 2) rfl (oI_add x2 1) (by decide) rfl (fun ls hl => ?_)
      refine lv_goto (tgt := 2) hx hb d_11_20_63 (by decide) ?_
      obtain ⟨rfl, rfl, rfl⟩ := in3 h
      exact k0 rfl H locs ls hP hD hS (lv_sub hl [1, 2, 0] rfl)
set_option maxRecDepth 100000 in
set_option maxHeartbeats 4000000 in
theorem s_Po_findScores_2 (l : Launch) (z : Zz) (ad : Nat → Nat) (E : Ev) (x1 : Int) {Q : State → Prop} {p : Program} {e : Env} {s : State} {m : MethodId} {below : List Frame} {meth : Method} {c : Code} {A : Nat → Prop} {args : Array Value} (hx : p.tables.exec = Jvm.exec) (hb : c.code = prog_11_method_20_code) (hml : c.maxLocals = 3) (hts : ∀ w ∈ WG, w.before args s = true) (hown : s.vm.findClass "Ballothall$Poll" = some m.cls) (hlocks : meth.locks = false) (hA : ∀ q, s.heap.size ≤ q → A q) (hG : KG z s) (hZ : FZ z A s) (hL : Lay E) : ∀ (fu : Nat) (M : Mm) (x2 : Int) (t : Nat) (w2 : Int) (N : Mm), l_Po_findScores_2 E x1 fu M x2 = some (t, w2, N) → (t = 1 → ∀ (H : Heap) (locs : List Loc) (ls : Array Slot), va_P z.1 classes (wv z ad E N) H → va_D A (wv z ad E N) → va_S A s.heap H locs → lv_has ls 3 [] → W p l e (rmK 2 66 0 0) s m args below meth c H locs 0 0 Q (F0 m 66 ls [])) → ∀ (H : Heap) (locs : List Loc) (ls : Array Slot), va_P z.1 classes (wv z ad E M) H → va_D A (wv z ad E M) → va_S A s.heap H locs → lv_has ls 3 [(0, .ref (ad 41)), (1, .int (oI x1)), (2, .int (oI x2))] → W p l e (rmK 2 66 0 0) s m args below meth c H locs 0 0 Q (F0 m 2 ls []) := by
  intro fu
  induction fu with
  | zero =>
    intro M x2 t w2 N h
    have h : (none : Option (Nat × Int × Mm)) = some _ := h
    cases h
  | succ fu ih =>
    intro M x2 t w2 N h k1 H locs ls hP hD hS hl
    obtain ⟨⟨t0, w20, N9⟩, g0, h⟩ := bd_e h
    refine b_Po_findScores_2b l z ad E M x1 x2 t0 w20 N9 hx hb hml hts hown hlocks hA hG hZ hL g0 (fun e0 => ?_) (fun e0 => ?_) H locs ls hP hD hS hl
    · subst e0
      have h := ite_t rfl h
      exact ih N9 w20 t w2 N h k1
    · subst e0
      have h := ite_f (by decide) h
      obtain ⟨rfl, rfl, rfl⟩ := in3 h
      exact k1 rfl
set_option maxRecDepth 100000 in
set_option maxHeartbeats 4000000 in
theorem s_Po_findScores (l : Launch) (z : Zz) (ad : Nat → Nat) (E : Ev) (M : Mm) (x1 : Int) (N : Mm) (hL : Lay E) (h : f_Po_findScores E M x1 = some N) : CT l z ⟨"Ballothall$Poll", "findScores", "(I)V"⟩ prog_11_method_20_code 3 none [.ref (ad 41), .int (oI x1)] (wv z ad E M) 2 66 0 0 (fun _ => none) (fun _ => (wv z ad E N)) := by
  refine CT.of (own := "Ballothall$Poll") (by decide +kernel) (Nat.le_of_ble_eq_true rfl) rfl (fun p e s m below meth c A ls hx hb hml hr hts hown hlocks hin hA hG hZ hP hD hS hl => ?_)
  have hl : lv_has ls 3 [(0, .ref (ad 41)), (1, .int (oI x1))] := hl
  have key : ∀ (H : Heap) (locs : List Loc) (args : Array Value), (∀ w ∈ WG, w.before args s = true) → va_P z.1 classes (wv z ad E M) H → va_S A s.heap H locs → W p l e (rmK 2 66 0 0) s m args below meth c H locs 0 0 (MQ below (QK z A (fun _ => none) (fun _ => (wv z ad E N))) args s 0 0 A) (F0 m 0 ls []) := by
    intro H locs args hts hP hS
    unfold f_Po_findScores at h
    refine lv_iconst (v := oI 0) hx hb d_11_20_0 (by decide +kernel) ?_
    refine lv_istore_n (lv' := [(2, .int (oI 0)), (0, .ref (ad 41)), (1, .int (oI x1))]) hx hb d_11_20_1 rfl hl (by decide) rfl (fun ls hl => ?_)
    obtain ⟨⟨t110, v110_2, M110⟩, g110, h⟩ := bd_e h
    obtain ⟨ok110, h⟩ := ck_e h
    refine s_Po_findScores_2 l z ad E x1 hx hb hml hts hown hlocks hA hG hZ hL FU M 0 t110 v110_2 M110 g110 (fun e110 H locs ls hP hD hS hl => ?_) H locs ls hP hD hS (lv_sub hl [1, 2, 0] rfl)
    obtain rfl := in1 h
    exact W.vret hx hb hr (fun t ht hW => qkA hP hD hS (fun k => k) rfl rfl ht) hS.2.2 d_11_20_66
  exact key _ _ _ hts hP hS
set_option maxRecDepth 100000 in
set_option maxHeartbeats 4000000 in
theorem b_Po_greatestOf_4b (l : Launch) (z : Zz) (ad : Nat → Nat) (E : Ev) (M : Mm) (x1 : Int) (x2 : Int) (x3 : Int) (t : Nat) (w2 : Int) (w3 : Int)  {Q : State → Prop} {p : Program} {e : Env} {s : State} {m : MethodId} {below : List Frame} {meth : Method} {c : Code} {A : Nat → Prop} {args : Array Value} (hx : p.tables.exec = Jvm.exec) (hb : c.code = prog_11_method_23_code) (hml : c.maxLocals = 4) (hts : ∀ w ∈ WG, w.before args s = true) (hown : s.vm.findClass "Ballothall$Poll" = some m.cls) (hlocks : meth.locks = false) (hA : ∀ q, s.heap.size ≤ q → A q) (hG : KG z s) (hZ : FZ z A s) (hL : Lay E) (h : Po_greatestOf_4b E M x1 x2 x3 = some (t, w2, w3)) (k0 : t = 0 → ∀ (H : Heap) (locs : List Loc) (ls : Array Slot), va_P z.1 classes (wv z ad E M) H → va_D A (wv z ad E M) → va_S A s.heap H locs → lv_has ls 4 [(0, .ref (ad 41)), (1, .int (oI x1)), (2, .int (oI w2)), (3, .int (oI w3))] → W p l e (rmK 1 42 0 0) s m args below meth c H locs 0 0 Q (F0 m 4 ls [])) (k1 : t = 1 → ∀ (H : Heap) (locs : List Loc) (ls : Array Slot), va_P z.1 classes (wv z ad E M) H → va_D A (wv z ad E M) → va_S A s.heap H locs → lv_has ls 4 [(2, .int (oI w2))] → W p l e (rmK 1 42 0 0) s m args below meth c H locs 0 0 Q (F0 m 80 ls [])) : ∀ (H : Heap) (locs : List Loc) (ls : Array Slot), va_P z.1 classes (wv z ad E M) H → va_D A (wv z ad E M) → va_S A s.heap H locs → lv_has ls 4 [(0, .ref (ad 41)), (1, .int (oI x1)), (2, .int (oI x2)), (3, .int (oI x3))] → W p l e (rmK 1 42 0 0) s m args below meth c H locs 0 0 Q (F0 m 4 ls []) := by
  intro H locs ls hP hD hS hl
  unfold Po_greatestOf_4b at h
  refine lv_iload_n hx hb d_11_23_4 rfl (lv_at hl 3 rfl) ?_
  refine lv_aload_n hx hb d_11_23_5 rfl (lv_at hl 0 rfl) ?_
  refine m_gr (j := 2) (C := "Ballothall$Poll") (T := TX9) (N := 12) (ci := 9) (k := 0) hx hb hts iX9 hown hG hP (yi_41 hL) (yt_41 hL) rfl (by decide) w_107 (fun _ h9 => h9) rfl rfl (yr_41_0 hL) d_11_23_6 ?_
  refine m_giN (C := "Ballothall$BallotBox") (T := TX0) (N := 10) (ci := 0) (k := 2) hx hb hts iX0 hown hG hP (yi_2 hL) (yt_2 hL) rfl (by decide) n_53 rfl (fun _ h9 => h9) rfl rfl d_11_23_9 ?_
  obtain ⟨ok100, h⟩ := ck_e h
  obtain ⟨ok101, h⟩ := ck_e h
  refine lv_icmp_ge (tgt := 80) hx hb d_11_23_12 (by decide) (fun c9 => ?_) (fun c9 => ?_)
  · have h := ite_t ((oI_le (a := (M 2 2)) (b := x3) ok101 ok100).mp c9) h
    obtain ⟨rfl, rfl, rfl⟩ := in3 h
    exact k1 rfl H locs ls hP hD hS (lv_sub hl [2] rfl)
  · have h := ite_f (fun q => c9 ((oI_le (a := (M 2 2)) (b := x3) ok101 ok100).mpr q)) h
    refine lv_iload_n hx hb d_11_23_15 rfl (lv_at hl 1 rfl) ?_
    refine lv_iload_n hx hb d_11_23_16 rfl (lv_at hl 3 rfl) ?_
    obtain ⟨r102, g102, h⟩ := bd_e h
    refine kSN (As := [.int (oI x1), .int (oI x3)]) (rest := []) (s_B_has l z ad E M x1 x3 r102 hL g102) hx hb hml hown hts w_693 n_691 w_692 w_1 md_26545c ⟨Nat.le_of_ble_eq_true rfl, Nat.le_of_ble_eq_true rfl⟩ hG hZ hP hD hS hA rfl hl.1 rfl (Nat.le_of_ble_eq_true rfl) d_11_23_17 ⟨Nat.le_of_ble_eq_true rfl, Nat.le_of_ble_eq_true rfl⟩ (fun _ H locs hP hD hS => ?_)
    have hP : va_P z.1 classes (wv z ad E M) H := hP
    have hD : va_D A (wv z ad E M) := hD
    refine W.eq (g2 := F0 m 20 ls [.int (oI r102)]) rfl ?_
    obtain ⟨ok103, h⟩ := ck_e h
    refine lv_if_eq (tgt := 74) hx hb d_11_23_20 (by decide) (fun c9 => ?_) (fun c9 => ?_)
    · have h := ite_t ((oI_eq0 ok103).mp c9) h
      refine lv_iinc (v := oI (x3 + 1)) (lv' := [(3, .int (oI (x3 + 1))), (0, .ref (ad 41)), (1, .int (oI x1)), (2, .int (oI x2))]) hx hb d_11_23_74 hl (k := 3) rfl (oI_add x3 1) (by decide) rfl (fun ls hl => ?_)
      refine lv_goto (tgt := 4) hx hb d_11_23_77 (by decide) ?_
      obtain ⟨rfl, rfl, rfl⟩ := in3 h
      exact k0 rfl H locs ls hP hD hS (lv_sub hl [1, 2, 3, 0] rfl)
    · have h := ite_f (fun q => c9 ((oI_eq0 ok103).mpr q)) h
      refine lv_iload_n hx hb d_11_23_23 rfl (lv_at hl 2 rfl) ?_
      refine lv_iconst (v := oI (-1)) hx hb d_11_23_24 (by decide +kernel) ?_
      obtain ⟨ok104, h⟩ := ck_e h
      refine lv_icmp_eq (tgt := 72) hx hb d_11_23_25 (by decide) (fun c9 => ?_) (fun c9 => ?_)
      · have h := ite_t ((oI_eq (a := x2) (b := (-1 : Int)) ok104 (by decide)).mp c9) h
        refine lv_iload_n hx hb d_11_23_72 rfl (lv_at hl 3 rfl) ?_
        refine lv_istore_n (lv' := [(2, .int (oI x3)), (0, .ref (ad 41)), (1, .int (oI x1)), (3, .int (oI x3))]) hx hb d_11_23_73 rfl hl (by decide) rfl (fun ls hl => ?_)
        refine lv_iinc (v := oI (x3 + 1)) (lv' := [(3, .int (oI (x3 + 1))), (2, .int (oI x3)), (0, .ref (ad 41)), (1, .int (oI x1))]) hx hb d_11_23_74 hl (k := 3) rfl (oI_add x3 1) (by decide) rfl (fun ls hl => ?_)
        refine lv_goto (tgt := 4) hx hb d_11_23_77 (by decide) ?_
        obtain ⟨rfl, rfl, rfl⟩ := in3 h
        exact k0 rfl H locs ls hP hD hS (lv_sub hl [2, 3, 1, 0] rfl)
      · have h := ite_f (fun q => c9 ((oI_eq (a := x2) (b := (-1 : Int)) ok104 (by decide)).mpr q)) h
        refine lv_aload_n hx hb d_11_23_28 rfl (lv_at hl 0 rfl) ?_
        refine m_gr (j := 48) (C := "Ballothall$Poll") (T := TX9) (N := 12) (ci := 9) (k := 9) hx hb hts iX9 hown hG hP (yi_41 hL) (yt_41 hL) rfl (by decide) w_116 (fun _ h9 => h9) rfl rfl (yr_41_9 hL) d_11_23_29 ?_
        refine lv_iload_n hx hb d_11_23_32 rfl (lv_at hl 3 rfl) ?_
        obtain ⟨ok105, h⟩ := ck_e h
        refine m_la hx hb hG hP (yi_48 hL) (yt_48 hL) ok105 d_11_23_33 ?_
        refine lv_aload_n hx hb d_11_23_34 rfl (lv_at hl 0 rfl) ?_
        refine m_gr (j := 48) (C := "Ballothall$Poll") (T := TX9) (N := 12) (ci := 9) (k := 9) hx hb hts iX9 hown hG hP (yi_41 hL) (yt_41 hL) rfl (by decide) w_116 (fun _ h9 => h9) rfl rfl (yr_41_9 hL) d_11_23_35 ?_
        refine lv_iload_n hx hb d_11_23_38 rfl (lv_at hl 2 rfl) ?_
        obtain ⟨ok106, h⟩ := ck_e h
        refine m_la hx hb hG hP (yi_48 hL) (yt_48 hL) ok106 d_11_23_39 ?_
        obtain ⟨ok107, h⟩ := ck_e h
        obtain ⟨ok108, h⟩ := ck_e h
        refine W.lcmp hx hb d_11_23_40 ?_
        refine nrm (cmp_val (a := (M 48 x3.toNat)) (b := (M 48 x2.toNat)) ok107 ok108) ?_
        refine lv_if_gt (tgt := 72) hx hb d_11_23_41 (by decide) (fun c9 => ?_) (fun c9 => ?_)
        · have h := ite_t ((cmp_gt (M 48 x3.toNat) (M 48 x2.toNat)).mp c9) h
          refine lv_iload_n hx hb d_11_23_72 rfl (lv_at hl 3 rfl) ?_
          refine lv_istore_n (lv' := [(2, .int (oI x3)), (0, .ref (ad 41)), (1, .int (oI x1)), (3, .int (oI x3))]) hx hb d_11_23_73 rfl hl (by decide) rfl (fun ls hl => ?_)
          refine lv_iinc (v := oI (x3 + 1)) (lv' := [(3, .int (oI (x3 + 1))), (2, .int (oI x3)), (0, .ref (ad 41)), (1, .int (oI x1))]) hx hb d_11_23_74 hl (k := 3) rfl (oI_add x3 1) (by decide) rfl (fun ls hl => ?_)
          refine lv_goto (tgt := 4) hx hb d_11_23_77 (by decide) ?_
          obtain ⟨rfl, rfl, rfl⟩ := in3 h
          exact k0 rfl H locs ls hP hD hS (lv_sub hl [2, 3, 1, 0] rfl)
        · have h := ite_f (fun q => c9 ((cmp_gt (M 48 x3.toNat) (M 48 x2.toNat)).mpr q)) h
          refine lv_aload_n hx hb d_11_23_44 rfl (lv_at hl 0 rfl) ?_
          refine m_gr (j := 48) (C := "Ballothall$Poll") (T := TX9) (N := 12) (ci := 9) (k := 9) hx hb hts iX9 hown hG hP (yi_41 hL) (yt_41 hL) rfl (by decide) w_116 (fun _ h9 => h9) rfl rfl (yr_41_9 hL) d_11_23_45 ?_
          refine lv_iload_n hx hb d_11_23_48 rfl (lv_at hl 3 rfl) ?_
          refine m_la hx hb hG hP (yi_48 hL) (yt_48 hL) ok105 d_11_23_49 ?_
          refine lv_aload_n hx hb d_11_23_50 rfl (lv_at hl 0 rfl) ?_
          refine m_gr (j := 48) (C := "Ballothall$Poll") (T := TX9) (N := 12) (ci := 9) (k := 9) hx hb hts iX9 hown hG hP (yi_41 hL) (yt_41 hL) rfl (by decide) w_116 (fun _ h9 => h9) rfl rfl (yr_41_9 hL) d_11_23_51 ?_
          refine lv_iload_n hx hb d_11_23_54 rfl (lv_at hl 2 rfl) ?_
          refine m_la hx hb hG hP (yi_48 hL) (yt_48 hL) ok106 d_11_23_55 ?_
          refine W.lcmp hx hb d_11_23_56 ?_
          refine nrm (cmp_val (a := (M 48 x3.toNat)) (b := (M 48 x2.toNat)) ok107 ok108) ?_
          refine lv_if_ne (tgt := 74) hx hb d_11_23_57 (by decide) (fun c9 => ?_) (fun c9 => ?_)
          · have h := ite_f (fun q => c9 ((cmp_eq (M 48 x3.toNat) (M 48 x2.toNat)).mpr q)) h
            refine lv_iinc (v := oI (x3 + 1)) (lv' := [(3, .int (oI (x3 + 1))), (0, .ref (ad 41)), (1, .int (oI x1)), (2, .int (oI x2))]) hx hb d_11_23_74 hl (k := 3) rfl (oI_add x3 1) (by decide) rfl (fun ls hl => ?_)
            refine lv_goto (tgt := 4) hx hb d_11_23_77 (by decide) ?_
            obtain ⟨rfl, rfl, rfl⟩ := in3 h
            exact k0 rfl H locs ls hP hD hS (lv_sub hl [1, 2, 3, 0] rfl)
          · have h := ite_t ((cmp_eq (M 48 x3.toNat) (M 48 x2.toNat)).mp c9) h
            refine lv_aload_n hx hb d_11_23_60 rfl (lv_at hl 0 rfl) ?_
            refine m_gr (j := 2) (C := "Ballothall$Poll") (T := TX9) (N := 12) (ci := 9) (k := 0) hx hb hts iX9 hown hG hP (yi_41 hL) (yt_41 hL) rfl (by decide) w_107 (fun _ h9 => h9) rfl rfl (yr_41_0 hL) d_11_23_61 ?_
            refine lv_iload_n hx hb d_11_23_64 rfl (lv_at hl 3 rfl) ?_
            refine lv_iload_n hx hb d_11_23_65 rfl (lv_at hl 2 rfl) ?_
            obtain ⟨r109, g109, h⟩ := bd_e h
            refine kVN (As := [.int (oI x3), .int (oI x2)]) (rest := []) (s_Bx_winsLot l z ad E M x3 x2 r109 hL g109) hx hb hml hown hts w_1163 n_1390 w_1162 w_s_85fec9 w_2 md_aa27a3 ⟨Nat.le_of_ble_eq_true rfl, Nat.le_of_ble_eq_true rfl⟩ hG hZ hP hD hS hA 2 (wv_o (ci := 0) (yi_2 hL) (yt_2 hL)) rfl rfl rfl hl.1 rfl (Nat.le_of_ble_eq_true rfl) d_11_23_66 ⟨Nat.le_of_ble_eq_true rfl, Nat.le_of_ble_eq_true rfl⟩ (fun _ H locs hP hD hS => ?_)
            have hP : va_P z.1 classes (wv z ad E M) H := hP
            have hD : va_D A (wv z ad E M) := hD
            refine W.eq (g2 := F0 m 69 ls [.int (oI r109)]) rfl ?_
            obtain ⟨ok110, h⟩ := ck_e h
            refine lv_if_eq (tgt := 74) hx hb d_11_23_69 (by decide) (fun c9 => ?_) (fun c9 => ?_)
            · have h := ite_t ((oI_eq0 ok110).mp c9) h
              refine lv_iinc (v := oI (x3 + 1)) (lv' := [(3, .int (oI (x3 + 1))), (0, .ref (ad 41)), (1, .int (oI x1)), (2, .int (oI x2))]) hx hb d_11_23_74 hl (k := 3) rfl (oI_add x3 1) (by decide) rfl (fun ls hl => ?_)
              refine lv_goto (tgt := 4) hx hb d_11_23_77 (by decide) ?_
              obtain ⟨rfl, rfl, rfl⟩ := in3 h
              exact k0 rfl H locs ls hP hD hS (lv_sub hl [1, 2, 3, 0] rfl)
            · have h := ite_f (fun q => c9 ((oI_eq0 ok110).mpr q)) h
              refine lv_iload_n hx hb d_11_23_72 rfl (lv_at hl 3 rfl) ?_
              refine lv_istore_n (lv' := [(2, .int (oI x3)), (0, .ref (ad 41)), (1, .int (oI x1)), (3, .int (oI x3))]) hx hb d_11_23_73 rfl hl (by decide) rfl (fun ls hl => ?_)
              refine lv_iinc (v := oI (x3 + 1)) (lv' := [(3, .int (oI (x3 + 1))), (2, .int (oI x3)), (0, .ref (ad 41)), (1, .int (oI x1))]) hx hb d_11_23_74 hl (k := 3) rfl (oI_add x3 1) (by decide) rfl (fun ls hl => ?_)
              refine lv_goto (tgt := 4) hx hb d_11_23_77 (by decide) ?_
              obtain ⟨rfl, rfl, rfl⟩ := in3 h
              exact k0 rfl H locs ls hP hD hS (lv_sub hl [2, 3, 1, 0] rfl)
set_option maxRecDepth 100000 in
set_option maxHeartbeats 4000000 in
theorem s_Po_greatestOf_4 (l : Launch) (z : Zz) (ad : Nat → Nat) (E : Ev) (x1 : Int) {Q : State → Prop} {p : Program} {e : Env} {s : State} {m : MethodId} {below : List Frame} {meth : Method} {c : Code} {A : Nat → Prop} {args : Array Value} (hx : p.tables.exec = Jvm.exec) (hb : c.code = prog_11_method_23_code) (hml : c.maxLocals = 4) (hts : ∀ w ∈ WG, w.before args s = true) (hown : s.vm.findClass "Ballothall$Poll" = some m.cls) (hlocks : meth.locks = false) (hA : ∀ q, s.heap.size ≤ q → A q) (hG : KG z s) (hZ : FZ z A s) (hL : Lay E) : ∀ (fu : Nat) (M : Mm) (x2 : Int) (x3 : Int) (t : Nat) (w2 : Int) (w3 : Int), l_Po_greatestOf_4 E x1 fu M x2 x3 = some (t, w2, w3) → (t = 1 → ∀ (H : Heap) (locs : List Loc) (ls : Array Slot), va_P z.1 classes (wv z ad E M) H → va_D A (wv z ad E M) → va_S A s.heap H locs → lv_has ls 4 [(2, .int (oI w2))] → W p l e (rmK 1 42 0 0) s m args below meth c H locs 0 0 Q (F0 m 80 ls [])) → ∀ (H : Heap) (locs : List Loc) (ls : Array Slot), va_P z.1 classes (wv z ad E M) H → va_D A (wv z ad E M) → va_S A s.heap H locs → lv_has ls 4 [(0, .ref (ad 41)), (1, .int (oI x1)), (2, .int (oI x2)), (3, .int (oI x3))] → W p l e (rmK 1 42 0 0) s m args below meth c H locs 0 0 Q (F0 m 4 ls []) := by
  intro fu
  induction fu with
  | zero =>
    intro M x2 x3 t w2 w3 h
    have h : (none : Option (Nat × Int × Int)) = some _ := h
    cases h
  | succ fu ih =>
    intro M x2 x3 t w2 w3 h k1 H locs ls hP hD hS hl
    obtain ⟨⟨t0, w20, w30⟩, g0, h⟩ := bd_e h
    refine b_Po_greatestOf_4b l z ad E M x1 x2 x3 t0 w20 w30 hx hb hml hts hown hlocks hA hG hZ hL g0 (fun e0 => ?_) (fun e0 => ?_) H locs ls hP hD hS hl
    · subst e0
      have h := ite_t rfl h
      exact ih M w20 w30 t w2 w3 h k1
    · subst e0
      have h := ite_f (by decide) h
      obtain ⟨rfl, rfl, rfl⟩ := in3 h
      exact k1 rfl
