set_option maxRecDepth 100000 in
set_option maxHeartbeats 4000000 in
theorem s_Po_beats (l : Launch) (z : Zz) (ad : Nat → Nat) (E : Ev) (M : Mm) (x1 : Int32) (x2 : Int32) (r : Int32) (N : Mm) (hL : Lay E) (h : f_Po_beats E M x1 x2 = some (r, N)) : CT l z ⟨"Ballothall$Poll", "beats", "(II)Z"⟩ prog_11_method_7_code 3 (some .boolean) [.ref (ad 41), .int x1, .int x2] (wv z ad E M) 1 42 0 0 (fun _ => some (.int r)) (fun _ => wv z ad E N) := by
  refine CT.of (own := "Ballothall$Poll") (by decide +kernel) (Nat.le_of_ble_eq_true rfl) rfl (fun p e s m below meth c A ls hx hb hml hr hts hown hlocks hin hA hG hZ hP hD hS hl => ?_)
  have hl : lv_has ls 3 [(0, .ref (ad 41)), (1, .int x1), (2, .int x2)] := hl
  have key : ∀ (H : Heap) (locs : List Loc) (args : Array Value), (∀ w ∈ WG, w.before args s = true) → va_P z.1 classes (wv z ad E M) H → va_S A s.heap H locs → W p l e (rmK 1 42 0 0) s m args below meth c H locs 0 0 (MQ below (QK z A (fun _ => some (.int r)) (fun _ => wv z ad E N)) args s 0 0 A) (F0 m 0 ls []) := by
    intro H locs args hts hP hS
    unfold f_Po_beats at h
    refine lv_aload_n hx hb d_11_7_0 rfl (lv_at hl 0 rfl) ?_
    refine lv_iload_n hx hb d_11_7_1 rfl (lv_at hl 1 rfl) ?_
    refine lv_iload_n hx hb d_11_7_2 rfl (lv_at hl 2 rfl) ?_
    obtain ⟨⟨r0, M0⟩, g0, h⟩ := bd_e h
    refine kV (As := [.int x1, .int x2]) (rest := []) (s_Po_pair l z ad E M x1 x2 r0 M0 hL g0) hx hb hml hown hts w_709 w_706 w_708 w_s_776300 w_3 md_5a94c2 ⟨Nat.le_of_ble_eq_true rfl, Nat.le_of_ble_eq_true rfl⟩ hG hZ hP hD hS hA 41 (wv_o (ci := 9) (yi_41 hL) (yt_41 hL)) rfl rfl rfl hl.1 rfl (Nat.le_of_ble_eq_true rfl) d_11_7_3 ⟨Nat.le_of_ble_eq_true rfl, Nat.le_of_ble_eq_true rfl⟩ (fun _ H locs hP hD hS => ?_)
    have hP : va_P z.1 classes (wv z ad E M0) H := hP
    have hD : va_D A (wv z ad E M0) := hD
    refine W.eq (g2 := F0 m 6 ls [.int r0]) rfl ?_
    refine lv_aload_n hx hb d_11_7_6 rfl (lv_at hl 0 rfl) ?_
    refine lv_iload_n hx hb d_11_7_7 rfl (lv_at hl 2 rfl) ?_
    refine lv_iload_n hx hb d_11_7_8 rfl (lv_at hl 1 rfl) ?_
    obtain ⟨⟨r1, M1⟩, g1, h⟩ := bd_e h
    refine kV (As := [.int x2, .int x1]) (rest := [.int r0]) (s_Po_pair l z ad E M0 x2 x1 r1 M1 hL g1) hx hb hml hown hts w_709 w_706 w_708 w_s_776300 w_3 md_5a94c2 ⟨Nat.le_of_ble_eq_true rfl, Nat.le_of_ble_eq_true rfl⟩ hG hZ hP hD hS hA 41 (wv_o (ci := 9) (yi_41 hL) (yt_41 hL)) rfl rfl rfl hl.1 rfl (Nat.le_of_ble_eq_true rfl) d_11_7_9 ⟨Nat.le_of_ble_eq_true rfl, Nat.le_of_ble_eq_true rfl⟩ (fun _ H locs hP hD hS => ?_)
    have hP : va_P z.1 classes (wv z ad E M1) H := hP
    have hD : va_D A (wv z ad E M1) := hD
    refine W.eq (g2 := F0 m 12 ls [.int r1, .int r0]) rfl ?_
    refine lv_icmp_le (tgt := 19) hx hb d_11_7_12 (by decide) (fun c9 => ?_) (fun c9 => ?_)
    · have h := ite_t c9 h
      refine lv_iconst (v := 0) hx hb d_11_7_19 (by decide +kernel) ?_
      obtain ⟨rfl, rfl⟩ := in2 h
      exact W.zret hx hb hr rfl (fun t ht hW => qkA hP hD hS (fun k => k) rfl rfl ht) hS.2.2 d_11_7_20
    · have h := ite_f c9 h
      refine lv_iconst (v := 1) hx hb d_11_7_15 (by decide +kernel) ?_
      refine lv_goto (tgt := 20) hx hb d_11_7_16 (by decide) ?_
      obtain ⟨rfl, rfl⟩ := in2 h
      exact W.zret hx hb hr rfl (fun t ht hW => qkA hP hD hS (fun k => k) rfl rfl ht) hS.2.2 d_11_7_20
  exact key _ _ _ hts hP hS
set_option maxRecDepth 100000 in
set_option maxHeartbeats 4000000 in
theorem b_Po_findBeaten_23b (l : Launch) (z : Zz) (ad : Nat → Nat) (E : Ev) (M : Mm) (x1 : Int32) (x2 : Int32) (t : Nat) (w2 : Int32) (N : Mm) {Q : State → Prop} {p : Program} {e : Env} {s : State} {m : MethodId} {below : List Frame} {meth : Method} {c : Code} {A : Nat → Prop} {args : Array Value} (hx : p.tables.exec = Jvm.exec) (hb : c.code = prog_11_method_8_code) (hml : c.maxLocals = 3) (hts : ∀ w ∈ WG, w.before args s = true) (hown : s.vm.findClass "Ballothall$Poll" = some m.cls) (hlocks : meth.locks = false) (hA : ∀ q, s.heap.size ≤ q → A q) (hG : KG z s) (hZ : FZ z A s) (hL : Lay E) (h : Po_findBeaten_23b E M x1 x2 = some (t, w2, N)) (k0 : t = 0 → ∀ (H : Heap) (locs : List Loc) (ls : Array Slot), va_P z.1 classes (wv z ad E N) H → va_D A (wv z ad E N) → va_S A s.heap H locs → lv_has ls 3 [(0, .ref (ad 41)), (1, .int x1), (2, .int w2)] → W p l e (rmK 2 64 0 0) s m args below meth c H locs 0 0 Q (F0 m 23 ls [])) (k1 : t = 1 → ∀ (H : Heap) (locs : List Loc) (ls : Array Slot), va_P z.1 classes (wv z ad E N) H → va_D A (wv z ad E N) → va_S A s.heap H locs → lv_has ls 3 [(0, .ref (ad 41)), (1, .int x1)] → W p l e (rmK 2 64 0 0) s m args below meth c H locs 0 0 Q (F0 m 61 ls [])) : ∀ (H : Heap) (locs : List Loc) (ls : Array Slot), va_P z.1 classes (wv z ad E M) H → va_D A (wv z ad E M) → va_S A s.heap H locs → lv_has ls 3 [(0, .ref (ad 41)), (1, .int x1), (2, .int x2)] → W p l e (rmK 2 64 0 0) s m args below meth c H locs 0 0 Q (F0 m 23 ls []) := by
  intro H locs ls hP hD hS hl
  unfold Po_findBeaten_23b at h
  refine lv_iload_n hx hb d_11_8_23 rfl (lv_at hl 2 rfl) ?_
  refine lv_aload_n hx hb d_11_8_24 rfl (lv_at hl 0 rfl) ?_
  refine m_gr (j := 2) (C := "Ballothall$Poll") (T := TX9) (N := 12) (ci := 9) (k := 0) hx hb hts iX9 hown hG hP (yi_41 hL) (yt_41 hL) rfl (by decide) w_107 (fun _ h9 => h9) rfl rfl (yr_41_0 hL) d_11_8_25 ?_
  refine m_giN (C := "Ballothall$BallotBox") (T := TX0) (N := 10) (ci := 0) (k := 2) hx hb hts iX0 hown hG hP (yi_2 hL) (yt_2 hL) rfl (by decide) n_53 rfl (fun _ h9 => h9) rfl rfl d_11_8_28 ?_
  refine lv_icmp_ge (tgt := 61) hx hb d_11_8_31 (by decide) (fun c9 => ?_) (fun c9 => ?_)
  · have h := ite_t c9 h
    obtain ⟨rfl, rfl, rfl⟩ := in3 h
    exact k1 rfl H locs ls hP hD hS (lv_sub hl [0, 1] rfl)
  · have h := ite_f c9 h
    refine lv_aload_n hx hb d_11_8_34 rfl (lv_at hl 0 rfl) ?_
    refine lv_iload_n hx hb d_11_8_35 rfl (lv_at hl 1 rfl) ?_
    refine lv_iload_n hx hb d_11_8_36 rfl (lv_at hl 2 rfl) ?_
    obtain ⟨⟨r1, M1⟩, g1, h⟩ := bd_e h
    refine kV (As := [.int x1, .int x2]) (rest := []) (s_Po_beats l z ad E M x1 x2 r1 M1 hL g1) hx hb hml hown hts w_705 w_702 w_704 w_s_3a49be w_3 md_755902 ⟨Nat.le_of_ble_eq_true rfl, Nat.le_of_ble_eq_true rfl⟩ hG hZ hP hD hS hA 41 (wv_o (ci := 9) (yi_41 hL) (yt_41 hL)) rfl rfl rfl hl.1 rfl (Nat.le_of_ble_eq_true rfl) d_11_8_37 ⟨Nat.le_of_ble_eq_true rfl, Nat.le_of_ble_eq_true rfl⟩ (fun _ H locs hP hD hS => ?_)
    have hP : va_P z.1 classes (wv z ad E M1) H := hP
    have hD : va_D A (wv z ad E M1) := hD
    refine W.eq (g2 := F0 m 40 ls [.int r1]) rfl ?_
    refine lv_if_eq (tgt := 55) hx hb d_11_8_40 (by decide) (fun c9 => ?_) (fun c9 => ?_)
    · have h := ite_t c9 h
      refine lv_iinc (v := (x2 + 1)) (lv' := [(2, .int (x2 + 1)), (0, .ref (ad 41)), (1, .int x1)]) hx hb d_11_8_55 hl (k := 2) rfl (congrArg (fun q => x2 + q) (show Int32.ofInt 1 = 1 by decide +kernel)) (by decide) rfl (fun ls hl => ?_)
      refine lv_goto (tgt := 23) hx hb d_11_8_58 (by decide) ?_
      obtain ⟨rfl, rfl, rfl⟩ := in3 h
      exact k0 rfl H locs ls hP hD hS (lv_sub hl [1, 2, 0] rfl)
    · have h := ite_f c9 h
      refine lv_aload_n hx hb d_11_8_43 rfl (lv_at hl 0 rfl) ?_
      refine m_gr (j := 46) (C := "Ballothall$Poll") (T := TX9) (N := 12) (ci := 9) (k := 7) hx hb hts iX9 hown hG hP (yi_41 hL) (yt_41 hL) rfl (by decide) w_114 (fun _ h9 => h9) rfl rfl (yr_41_7 hL) d_11_8_44 ?_
      refine lv_iload_n hx hb d_11_8_47 rfl (lv_at hl 1 rfl) ?_
      refine lv_dup2_11 hx hb d_11_8_48 rfl rfl ?_
      obtain ⟨ok2, h⟩ := ck_e h
      refine m_ia hx hb hG hP (yi_46 hL) (yt_46 hL) ok2 d_11_8_49 ?_
      refine lv_iconst (v := 1) hx hb d_11_8_50 (by decide +kernel) ?_
      refine lv_iload_n hx hb d_11_8_51 rfl (lv_at hl 2 rfl) ?_
      refine lv_ishl hx hb d_11_8_52 ?_
      refine lv_ior hx hb d_11_8_53 ?_
      obtain ⟨v3, e3, h⟩ := nb_e h
      refine nrm e3.symm ?_
      obtain ⟨ok4, h⟩ := ck_e h
      refine m_is hx hb hG hP hD hS (yi_46 hL) (yt_46 hL) ok4 d_11_8_54 (fun H locs hP hD hS => ?_)
      have hP : va_P z.1 classes (wv z ad E (u2 M1 46 x1.toNatClampNeg v3)) H := hP
      have hD : va_D A (wv z ad E (u2 M1 46 x1.toNatClampNeg v3)) := hD
      refine lv_iinc (v := (x2 + 1)) (lv' := [(2, .int (x2 + 1)), (0, .ref (ad 41)), (1, .int x1)]) hx hb d_11_8_55 hl (k := 2) rfl (congrArg (fun q => x2 + q) (show Int32.ofInt 1 = 1 by decide +kernel)) (by decide) rfl (fun ls hl => ?_)
      refine lv_goto (tgt := 23) hx hb d_11_8_58 (by decide) ?_
      obtain ⟨rfl, rfl, rfl⟩ := in3 h
      exact k0 rfl H locs ls hP hD hS (lv_sub hl [1, 2, 0] rfl)
set_option maxRecDepth 100000 in
set_option maxHeartbeats 4000000 in
theorem s_Po_findBeaten_23 (l : Launch) (z : Zz) (ad : Nat → Nat) (E : Ev) (x1 : Int32) {Q : State → Prop} {p : Program} {e : Env} {s : State} {m : MethodId} {below : List Frame} {meth : Method} {c : Code} {A : Nat → Prop} {args : Array Value} (hx : p.tables.exec = Jvm.exec) (hb : c.code = prog_11_method_8_code) (hml : c.maxLocals = 3) (hts : ∀ w ∈ WG, w.before args s = true) (hown : s.vm.findClass "Ballothall$Poll" = some m.cls) (hlocks : meth.locks = false) (hA : ∀ q, s.heap.size ≤ q → A q) (hG : KG z s) (hZ : FZ z A s) (hL : Lay E) : ∀ (fu : Nat) (M : Mm) (x2 : Int32) (t : Nat) (w2 : Int32) (N : Mm), l_Po_findBeaten_23 E x1 fu M x2 = some (t, w2, N) → (t = 1 → ∀ (H : Heap) (locs : List Loc) (ls : Array Slot), va_P z.1 classes (wv z ad E N) H → va_D A (wv z ad E N) → va_S A s.heap H locs → lv_has ls 3 [(0, .ref (ad 41)), (1, .int x1)] → W p l e (rmK 2 64 0 0) s m args below meth c H locs 0 0 Q (F0 m 61 ls [])) → ∀ (H : Heap) (locs : List Loc) (ls : Array Slot), va_P z.1 classes (wv z ad E M) H → va_D A (wv z ad E M) → va_S A s.heap H locs → lv_has ls 3 [(0, .ref (ad 41)), (1, .int x1), (2, .int x2)] → W p l e (rmK 2 64 0 0) s m args below meth c H locs 0 0 Q (F0 m 23 ls []) := by
  intro fu
  induction fu with
  | zero =>
    intro M x2 t w2 N h
    have h : (none : Option (Nat × Int32 × Mm)) = some _ := h
    cases h
  | succ fu ih =>
    intro M x2 t w2 N h k1 H locs ls hP hD hS hl
    obtain ⟨⟨t0, w20, N0⟩, g0, h⟩ := bd_e h
    refine b_Po_findBeaten_23b l z ad E M x1 x2 t0 w20 N0 hx hb hml hts hown hlocks hA hG hZ hL g0 (fun e0 => ?_) (fun e0 => ?_) H locs ls hP hD hS hl
    · subst e0
      have h := ite_t rfl h
      exact ih N0 w20 t w2 N h k1
    · subst e0
      have h := ite_f (by decide) h
      obtain ⟨rfl, rfl, rfl⟩ := in3 h
      exact k1 rfl
set_option maxRecDepth 100000 in
set_option maxHeartbeats 4000000 in
theorem b_Po_findBeaten_10b (l : Launch) (z : Zz) (ad : Nat → Nat) (E : Ev) (M : Mm) (x1 : Int32) (t : Nat) (w1 : Int32) (N : Mm) {Q : State → Prop} {p : Program} {e : Env} {s : State} {m : MethodId} {below : List Frame} {meth : Method} {c : Code} {A : Nat → Prop} {args : Array Value} (hx : p.tables.exec = Jvm.exec) (hb : c.code = prog_11_method_8_code) (hml : c.maxLocals = 3) (hts : ∀ w ∈ WG, w.before args s = true) (hown : s.vm.findClass "Ballothall$Poll" = some m.cls) (hlocks : meth.locks = false) (hA : ∀ q, s.heap.size ≤ q → A q) (hG : KG z s) (hZ : FZ z A s) (hL : Lay E) (h : Po_findBeaten_10b E M x1 = some (t, w1, N)) (k0 : t = 0 → ∀ (H : Heap) (locs : List Loc) (ls : Array Slot), va_P z.1 classes (wv z ad E N) H → va_D A (wv z ad E N) → va_S A s.heap H locs → lv_has ls 3 [(0, .ref (ad 41)), (1, .int w1)] → W p l e (rmK 2 64 0 0) s m args below meth c H locs 0 0 Q (F0 m 10 ls [])) (k1 : t = 1 → ∀ (H : Heap) (locs : List Loc) (ls : Array Slot), va_P z.1 classes (wv z ad E N) H → va_D A (wv z ad E N) → va_S A s.heap H locs → lv_has ls 3 [] → W p l e (rmK 2 64 0 0) s m args below meth c H locs 0 0 Q (F0 m 67 ls [])) : ∀ (H : Heap) (locs : List Loc) (ls : Array Slot), va_P z.1 classes (wv z ad E M) H → va_D A (wv z ad E M) → va_S A s.heap H locs → lv_has ls 3 [(0, .ref (ad 41)), (1, .int x1)] → W p l e (rmK 2 64 0 0) s m args below meth c H locs 0 0 Q (F0 m 10 ls []) := by
  intro H locs ls hP hD hS hl
  unfold Po_findBeaten_10b at h
  refine lv_iload_n hx hb d_11_8_10 rfl (lv_at hl 1 rfl) ?_
  refine lv_aload_n hx hb d_11_8_11 rfl (lv_at hl 0 rfl) ?_
  refine m_gr (j := 2) (C := "Ballothall$Poll") (T := TX9) (N := 12) (ci := 9) (k := 0) hx hb hts iX9 hown hG hP (yi_41 hL) (yt_41 hL) rfl (by decide) w_107 (fun _ h9 => h9) rfl rfl (yr_41_0 hL) d_11_8_12 ?_
  refine m_giN (C := "Ballothall$BallotBox") (T := TX0) (N := 10) (ci := 0) (k := 2) hx hb hts iX0 hown hG hP (yi_2 hL) (yt_2 hL) rfl (by decide) n_53 rfl (fun _ h9 => h9) rfl rfl d_11_8_15 ?_
  refine lv_icmp_ge (tgt := 67) hx hb d_11_8_18 (by decide) (fun c9 => ?_) (fun c9 => ?_)
  · have h := ite_t c9 h
    obtain ⟨rfl, rfl, rfl⟩ := in3 h
    exact k1 rfl H locs ls hP hD hS (lv_sub hl [] rfl)
  · have h := ite_f c9 h
    refine lv_iconst (v := 0) hx hb d_11_8_21 (by decide +kernel) ?_
    refine lv_istore_n (lv' := [(2, .int 0), (0, .ref (ad 41)), (1, .int x1)]) hx hb d_11_8_22 rfl hl (by decide) rfl (fun ls hl => ?_)
    obtain ⟨⟨t5, v5_2, M5⟩, g5, h⟩ := bd_e h
    obtain ⟨ok5, h⟩ := ck_e h
    refine s_Po_findBeaten_23 l z ad E x1 hx hb hml hts hown hlocks hA hG hZ hL FU M 0 t5 v5_2 M5 g5 (fun e5 H locs ls hP hD hS hl => ?_) H locs ls hP hD hS (lv_sub hl [1, 2, 0] rfl)
    refine lv_iinc (v := (x1 + 1)) (lv' := [(1, .int (x1 + 1)), (0, .ref (ad 41))]) hx hb d_11_8_61 hl (k := 1) rfl (congrArg (fun q => x1 + q) (show Int32.ofInt 1 = 1 by decide +kernel)) (by decide) rfl (fun ls hl => ?_)
    refine lv_goto (tgt := 10) hx hb d_11_8_64 (by decide) ?_
    obtain ⟨rfl, rfl, rfl⟩ := in3 h
    exact k0 rfl H locs ls hP hD hS (lv_sub hl [1, 0] rfl)
set_option maxRecDepth 100000 in
set_option maxHeartbeats 4000000 in
theorem s_Po_findBeaten_10 (l : Launch) (z : Zz) (ad : Nat → Nat) (E : Ev) {Q : State → Prop} {p : Program} {e : Env} {s : State} {m : MethodId} {below : List Frame} {meth : Method} {c : Code} {A : Nat → Prop} {args : Array Value} (hx : p.tables.exec = Jvm.exec) (hb : c.code = prog_11_method_8_code) (hml : c.maxLocals = 3) (hts : ∀ w ∈ WG, w.before args s = true) (hown : s.vm.findClass "Ballothall$Poll" = some m.cls) (hlocks : meth.locks = false) (hA : ∀ q, s.heap.size ≤ q → A q) (hG : KG z s) (hZ : FZ z A s) (hL : Lay E) : ∀ (fu : Nat) (M : Mm) (x1 : Int32) (t : Nat) (w1 : Int32) (N : Mm), l_Po_findBeaten_10 E fu M x1 = some (t, w1, N) → (t = 1 → ∀ (H : Heap) (locs : List Loc) (ls : Array Slot), va_P z.1 classes (wv z ad E N) H → va_D A (wv z ad E N) → va_S A s.heap H locs → lv_has ls 3 [] → W p l e (rmK 2 64 0 0) s m args below meth c H locs 0 0 Q (F0 m 67 ls [])) → ∀ (H : Heap) (locs : List Loc) (ls : Array Slot), va_P z.1 classes (wv z ad E M) H → va_D A (wv z ad E M) → va_S A s.heap H locs → lv_has ls 3 [(0, .ref (ad 41)), (1, .int x1)] → W p l e (rmK 2 64 0 0) s m args below meth c H locs 0 0 Q (F0 m 10 ls []) := by
  intro fu
  induction fu with
  | zero =>
    intro M x1 t w1 N h
    have h : (none : Option (Nat × Int32 × Mm)) = some _ := h
    cases h
  | succ fu ih =>
    intro M x1 t w1 N h k1 H locs ls hP hD hS hl
    obtain ⟨⟨t0, w10, N0⟩, g0, h⟩ := bd_e h
    refine b_Po_findBeaten_10b l z ad E M x1 t0 w10 N0 hx hb hml hts hown hlocks hA hG hZ hL g0 (fun e0 => ?_) (fun e0 => ?_) H locs ls hP hD hS hl
    · subst e0
      have h := ite_t rfl h
      exact ih N0 w10 t w1 N h k1
    · subst e0
      have h := ite_f (by decide) h
      obtain ⟨rfl, rfl, rfl⟩ := in3 h
      exact k1 rfl
set_option maxRecDepth 100000 in
set_option maxHeartbeats 4000000 in
theorem s_Po_findBeaten (l : Launch) (z : Zz) (ad : Nat → Nat) (E : Ev) (M : Mm) (N : Mm) (hL : Lay E) (h : f_Po_findBeaten E M = some N) : CT l z ⟨"Ballothall$Poll", "findBeaten", "()V"⟩ prog_11_method_8_code 3 none [.ref (ad 41)] (wv z ad E M) 2 64 0 0 (fun _ => none) (fun _ => wv z ad E N) := by
  refine CT.of (own := "Ballothall$Poll") (by decide +kernel) (Nat.le_of_ble_eq_true rfl) rfl (fun p e s m below meth c A ls hx hb hml hr hts hown hlocks hin hA hG hZ hP hD hS hl => ?_)
  have hl : lv_has ls 3 [(0, .ref (ad 41))] := hl
  have key : ∀ (H : Heap) (locs : List Loc) (args : Array Value), (∀ w ∈ WG, w.before args s = true) → va_P z.1 classes (wv z ad E M) H → va_S A s.heap H locs → W p l e (rmK 2 64 0 0) s m args below meth c H locs 0 0 (MQ below (QK z A (fun _ => none) (fun _ => wv z ad E N)) args s 0 0 A) (F0 m 0 ls []) := by
    intro H locs args hts hP hS
    unfold f_Po_findBeaten at h
    refine lv_aload_n hx hb d_11_8_0 rfl (lv_at hl 0 rfl) ?_
    refine m_gr (j := 46) (C := "Ballothall$Poll") (T := TX9) (N := 12) (ci := 9) (k := 7) hx hb hts iX9 hown hG hP (yi_41 hL) (yt_41 hL) rfl (by decide) w_114 (fun _ h9 => h9) rfl rfl (yr_41_7 hL) d_11_8_1 ?_
    refine lv_iconst (v := 0) hx hb d_11_8_4 (by decide +kernel) ?_
    obtain ⟨M0, g0, h⟩ := bd_e h
    refine kS (As := [.ref (ad 46), .int 0]) (rest := []) (s_Ar_fillI l z ad E M 46 0 M0 hL g0) hx hb hml hown hts w_653 w_673 w_652 w_23 md_e8f65d ⟨Nat.le_of_ble_eq_true rfl, Nat.le_of_ble_eq_true rfl⟩ hG hZ hP hD hS hA rfl hl.1 rfl (Nat.le_of_ble_eq_true rfl) d_11_8_5 ⟨Nat.le_of_ble_eq_true rfl, Nat.le_of_ble_eq_true rfl⟩ (fun _ H locs hP hD hS => ?_)
    have hP : va_P z.1 classes (wv z ad E M0) H := hP
    have hD : va_D A (wv z ad E M0) := hD
    refine W.eq (g2 := F0 m 8 ls []) rfl ?_
    refine lv_iconst (v := 0) hx hb d_11_8_8 (by decide +kernel) ?_
    refine lv_istore_n (lv' := [(1, .int 0), (0, .ref (ad 41))]) hx hb d_11_8_9 rfl hl (by decide) rfl (fun ls hl => ?_)
    obtain ⟨⟨t6, v6_1, M6⟩, g6, h⟩ := bd_e h
    obtain ⟨ok6, h⟩ := ck_e h
    refine s_Po_findBeaten_10 l z ad E hx hb hml hts hown hlocks hA hG hZ hL FU M0 0 t6 v6_1 M6 g6 (fun e6 H locs ls hP hD hS hl => ?_) H locs ls hP hD hS (lv_sub hl [1, 0] rfl)
    obtain rfl := in1 h
    exact W.vret hx hb hr (fun t ht hW => qkA hP hD hS (fun k => k) rfl rfl ht) hS.2.2 d_11_8_67
  exact key _ _ _ hts hP hS
set_option maxRecDepth 100000 in
set_option maxHeartbeats 4000000 in
theorem b_Po_isBeatingSet_2b (l : Launch) (z : Zz) (ad : Nat → Nat) (E : Ev) (M : Mm) (x1 : Int32) (x2 : Int32) (t : Nat) (w2 : Int32) (N : Mm) {Q : State → Prop} {p : Program} {e : Env} {s : State} {m : MethodId} {below : List Frame} {meth : Method} {c : Code} {A : Nat → Prop} {args : Array Value} (hx : p.tables.exec = Jvm.exec) (hb : c.code = prog_11_method_11_code) (hml : c.maxLocals = 3) (hts : ∀ w ∈ WG, w.before args s = true) (hown : s.vm.findClass "Ballothall$Poll" = some m.cls) (hlocks : meth.locks = false) (hA : ∀ q, s.heap.size ≤ q → A q) (hG : KG z s) (hZ : FZ z A s) (hL : Lay E) (h : Po_isBeatingSet_2b E M x1 x2 = some (t, w2, N)) (k0 : t = 0 → ∀ (H : Heap) (locs : List Loc) (ls : Array Slot), va_P z.1 classes (wv z ad E N) H → va_D A (wv z ad E N) → va_S A s.heap H locs → lv_has ls 3 [(0, .ref (ad 41)), (1, .int x1), (2, .int w2)] → W p l e (rmK 1 41 0 0) s m args below meth c H locs 0 0 Q (F0 m 2 ls [])) (k1 : t = 1 → ∀ (H : Heap) (locs : List Loc) (ls : Array Slot), va_P z.1 classes (wv z ad E N) H → va_D A (wv z ad E N) → va_S A s.heap H locs → lv_has ls 3 [] → W p l e (rmK 1 41 0 0) s m args below meth c H locs 0 0 Q (F0 m 36 ls [])) (k2 : t = 2 → ∀ (H : Heap) (locs : List Loc) (ls : Array Slot), va_P z.1 classes (wv z ad E N) H → va_D A (wv z ad E N) → va_S A s.heap H locs → lv_has ls 3 [] → W p l e (rmK 1 41 0 0) s m args below meth c H locs 0 0 Q (F0 m 44 ls [])) : ∀ (H : Heap) (locs : List Loc) (ls : Array Slot), va_P z.1 classes (wv z ad E M) H → va_D A (wv z ad E M) → va_S A s.heap H locs → lv_has ls 3 [(0, .ref (ad 41)), (1, .int x1), (2, .int x2)] → W p l e (rmK 1 41 0 0) s m args below meth c H locs 0 0 Q (F0 m 2 ls []) := by
  intro H locs ls hP hD hS hl
  unfold Po_isBeatingSet_2b at h
  refine lv_iload_n hx hb d_11_11_2 rfl (lv_at hl 2 rfl) ?_
  refine lv_aload_n hx hb d_11_11_3 rfl (lv_at hl 0 rfl) ?_
  refine m_gr (j := 2) (C := "Ballothall$Poll") (T := TX9) (N := 12) (ci := 9) (k := 0) hx hb hts iX9 hown hG hP (yi_41 hL) (yt_41 hL) rfl (by decide) w_107 (fun _ h9 => h9) rfl rfl (yr_41_0 hL) d_11_11_4 ?_
  refine m_giN (C := "Ballothall$BallotBox") (T := TX0) (N := 10) (ci := 0) (k := 2) hx hb hts iX0 hown hG hP (yi_2 hL) (yt_2 hL) rfl (by decide) n_53 rfl (fun _ h9 => h9) rfl rfl d_11_11_7 ?_
  refine lv_icmp_ge (tgt := 44) hx hb d_11_11_10 (by decide) (fun c9 => ?_) (fun c9 => ?_)
  · have h := ite_t c9 h
    obtain ⟨rfl, rfl, rfl⟩ := in3 h
    exact k2 rfl H locs ls hP hD hS (lv_sub hl [] rfl)
  · have h := ite_f c9 h
    refine lv_iload_n hx hb d_11_11_13 rfl (lv_at hl 1 rfl) ?_
    refine lv_iload_n hx hb d_11_11_14 rfl (lv_at hl 2 rfl) ?_
    obtain ⟨⟨r0, M0⟩, g0, h⟩ := bd_e h
    refine kSN (As := [.int x1, .int x2]) (rest := []) (s_B_has l z ad E M x1 x2 r0 M0 hL g0) hx hb hml hown hts w_693 n_691 w_692 w_1 md_26545c ⟨Nat.le_of_ble_eq_true rfl, Nat.le_of_ble_eq_true rfl⟩ hG hZ hP hD hS hA rfl hl.1 rfl (Nat.le_of_ble_eq_true rfl) d_11_11_15 ⟨Nat.le_of_ble_eq_true rfl, Nat.le_of_ble_eq_true rfl⟩ (fun _ H locs hP hD hS => ?_)
    have hP : va_P z.1 classes (wv z ad E M0) H := hP
    have hD : va_D A (wv z ad E M0) := hD
    refine W.eq (g2 := F0 m 18 ls [.int r0]) rfl ?_
    refine lv_if_eq (tgt := 38) hx hb d_11_11_18 (by decide) (fun c9 => ?_) (fun c9 => ?_)
    · have h := ite_t c9 h
      refine lv_iinc (v := (x2 + 1)) (lv' := [(2, .int (x2 + 1)), (0, .ref (ad 41)), (1, .int x1)]) hx hb d_11_11_38 hl (k := 2) rfl (congrArg (fun q => x2 + q) (show Int32.ofInt 1 = 1 by decide +kernel)) (by decide) rfl (fun ls hl => ?_)
      refine lv_goto (tgt := 2) hx hb d_11_11_41 (by decide) ?_
      obtain ⟨rfl, rfl, rfl⟩ := in3 h
      exact k0 rfl H locs ls hP hD hS (lv_sub hl [1, 2, 0] rfl)
    · have h := ite_f c9 h
      refine lv_aload_n hx hb d_11_11_21 rfl (lv_at hl 0 rfl) ?_
      refine m_gr (j := 46) (C := "Ballothall$Poll") (T := TX9) (N := 12) (ci := 9) (k := 7) hx hb hts iX9 hown hG hP (yi_41 hL) (yt_41 hL) rfl (by decide) w_114 (fun _ h9 => h9) rfl rfl (yr_41_7 hL) d_11_11_22 ?_
      refine lv_iload_n hx hb d_11_11_25 rfl (lv_at hl 2 rfl) ?_
      obtain ⟨ok1, h⟩ := ck_e h
      refine m_ia hx hb hG hP (yi_46 hL) (yt_46 hL) ok1 d_11_11_26 ?_
      refine lv_iload_n hx hb d_11_11_27 rfl (lv_at hl 1 rfl) ?_
      refine lv_ior hx hb d_11_11_28 ?_
      refine lv_aload_n hx hb d_11_11_29 rfl (lv_at hl 0 rfl) ?_
      refine m_gi (C := "Ballothall$Poll") (T := TX9) (N := 12) (ci := 9) (k := 1) hx hb hts iX9 hown hG hP (yi_41 hL) (yt_41 hL) rfl (by decide) w_108 (fun _ h9 => h9) rfl rfl d_11_11_30 ?_
      refine lv_icmp_eq (tgt := 38) hx hb d_11_11_33 (by decide) (fun c9 => ?_) (fun c9 => ?_)
      · have h := ite_t c9 h
        refine lv_iinc (v := (x2 + 1)) (lv' := [(2, .int (x2 + 1)), (0, .ref (ad 41)), (1, .int x1)]) hx hb d_11_11_38 hl (k := 2) rfl (congrArg (fun q => x2 + q) (show Int32.ofInt 1 = 1 by decide +kernel)) (by decide) rfl (fun ls hl => ?_)
        refine lv_goto (tgt := 2) hx hb d_11_11_41 (by decide) ?_
        obtain ⟨rfl, rfl, rfl⟩ := in3 h
        exact k0 rfl H locs ls hP hD hS (lv_sub hl [1, 2, 0] rfl)
      · have h := ite_f c9 h
        obtain ⟨rfl, rfl, rfl⟩ := in3 h
        exact k1 rfl H locs ls hP hD hS (lv_sub hl [] rfl)
set_option maxRecDepth 100000 in
set_option maxHeartbeats 4000000 in
theorem s_Po_isBeatingSet_2 (l : Launch) (z : Zz) (ad : Nat → Nat) (E : Ev) (x1 : Int32) {Q : State → Prop} {p : Program} {e : Env} {s : State} {m : MethodId} {below : List Frame} {meth : Method} {c : Code} {A : Nat → Prop} {args : Array Value} (hx : p.tables.exec = Jvm.exec) (hb : c.code = prog_11_method_11_code) (hml : c.maxLocals = 3) (hts : ∀ w ∈ WG, w.before args s = true) (hown : s.vm.findClass "Ballothall$Poll" = some m.cls) (hlocks : meth.locks = false) (hA : ∀ q, s.heap.size ≤ q → A q) (hG : KG z s) (hZ : FZ z A s) (hL : Lay E) : ∀ (fu : Nat) (M : Mm) (x2 : Int32) (t : Nat) (w2 : Int32) (N : Mm), l_Po_isBeatingSet_2 E x1 fu M x2 = some (t, w2, N) → (t = 1 → ∀ (H : Heap) (locs : List Loc) (ls : Array Slot), va_P z.1 classes (wv z ad E N) H → va_D A (wv z ad E N) → va_S A s.heap H locs → lv_has ls 3 [] → W p l e (rmK 1 41 0 0) s m args below meth c H locs 0 0 Q (F0 m 36 ls [])) → (t = 2 → ∀ (H : Heap) (locs : List Loc) (ls : Array Slot), va_P z.1 classes (wv z ad E N) H → va_D A (wv z ad E N) → va_S A s.heap H locs → lv_has ls 3 [] → W p l e (rmK 1 41 0 0) s m args below meth c H locs 0 0 Q (F0 m 44 ls [])) → ∀ (H : Heap) (locs : List Loc) (ls : Array Slot), va_P z.1 classes (wv z ad E M) H → va_D A (wv z ad E M) → va_S A s.heap H locs → lv_has ls 3 [(0, .ref (ad 41)), (1, .int x1), (2, .int x2)] → W p l e (rmK 1 41 0 0) s m args below meth c H locs 0 0 Q (F0 m 2 ls []) := by
  intro fu
  induction fu with
  | zero =>
    intro M x2 t w2 N h
    have h : (none : Option (Nat × Int32 × Mm)) = some _ := h
    cases h
  | succ fu ih =>
    intro M x2 t w2 N h k1 k2 H locs ls hP hD hS hl
    obtain ⟨⟨t0, w20, N0⟩, g0, h⟩ := bd_e h
    refine b_Po_isBeatingSet_2b l z ad E M x1 x2 t0 w20 N0 hx hb hml hts hown hlocks hA hG hZ hL g0 (fun e0 => ?_) (fun e0 => ?_) (fun e0 => ?_) H locs ls hP hD hS hl
    · subst e0
      have h := ite_t rfl h
      exact ih N0 w20 t w2 N h k1 k2
    · subst e0
      have h := ite_f (by decide) h
      obtain ⟨rfl, rfl, rfl⟩ := in3 h
      exact k1 rfl
    · subst e0
      have h := ite_f (by decide) h
      obtain ⟨rfl, rfl, rfl⟩ := in3 h
      exact k2 rfl
set_option maxRecDepth 100000 in
set_option maxHeartbeats 4000000 in
theorem s_Po_isBeatingSet (l : Launch) (z : Zz) (ad : Nat → Nat) (E : Ev) (M : Mm) (x1 : Int32) (r : Int32) (N : Mm) (hL : Lay E) (h : f_Po_isBeatingSet E M x1 = some (r, N)) : CT l z ⟨"Ballothall$Poll", "isBeatingSet", "(I)Z"⟩ prog_11_method_11_code 3 (some .boolean) [.ref (ad 41), .int x1] (wv z ad E M) 1 41 0 0 (fun _ => some (.int r)) (fun _ => wv z ad E N) := by
  refine CT.of (own := "Ballothall$Poll") (by decide +kernel) (Nat.le_of_ble_eq_true rfl) rfl (fun p e s m below meth c A ls hx hb hml hr hts hown hlocks hin hA hG hZ hP hD hS hl => ?_)
  have hl : lv_has ls 3 [(0, .ref (ad 41)), (1, .int x1)] := hl
  have key : ∀ (H : Heap) (locs : List Loc) (args : Array Value), (∀ w ∈ WG, w.before args s = true) → va_P z.1 classes (wv z ad E M) H → va_S A s.heap H locs → W p l e (rmK 1 41 0 0) s m args below meth c H locs 0 0 (MQ below (QK z A (fun _ => some (.int r)) (fun _ => wv z ad E N)) args s 0 0 A) (F0 m 0 ls []) := by
    intro H locs args hts hP hS
    unfold f_Po_isBeatingSet at h
    refine lv_iconst (v := 0) hx hb d_11_11_0 (by decide +kernel) ?_
    refine lv_istore_n (lv' := [(2, .int 0), (0, .ref (ad 41)), (1, .int x1)]) hx hb d_11_11_1 rfl hl (by decide) rfl (fun ls hl => ?_)
    obtain ⟨⟨t2, v2_2, M2⟩, g2, h⟩ := bd_e h
    refine s_Po_isBeatingSet_2 l z ad E x1 hx hb hml hts hown hlocks hA hG hZ hL FU M 0 t2 v2_2 M2 g2 (fun e2 H locs ls hP hD hS hl => ?_) (fun e2 H locs ls hP hD hS hl => ?_) H locs ls hP hD hS (lv_sub hl [1, 2, 0] rfl)
    · subst e2
      have h := ite_t rfl h
      refine lv_iconst (v := 0) hx hb d_11_11_36 (by decide +kernel) ?_
      obtain ⟨rfl, rfl⟩ := in2 h
      exact W.zret hx hb hr rfl (fun t ht hW => qkA hP hD hS (fun k => k) rfl rfl ht) hS.2.2 d_11_11_37
    · subst e2
      have h := ite_f (by decide) h
      have h := ite_t rfl h
      refine lv_iconst (v := 1) hx hb d_11_11_44 (by decide +kernel) ?_
      obtain ⟨rfl, rfl⟩ := in2 h
      exact W.zret hx hb hr rfl (fun t ht hW => qkA hP hD hS (fun k => k) rfl rfl ht) hS.2.2 d_11_11_45
  exact key _ _ _ hts hP hS
set_option maxRecDepth 100000 in
set_option maxHeartbeats 4000000 in
theorem b_Po_smallestBeatingSet_11b (l : Launch) (z : Zz) (ad : Nat → Nat) (E : Ev) (M : Mm) (x1 : Int32) (x2 : Int32) (t : Nat) (w1 : Int32) (w2 : Int32) (N : Mm) {Q : State → Prop} {p : Program} {e : Env} {s : State} {m : MethodId} {below : List Frame} {meth : Method} {c : Code} {A : Nat → Prop} {args : Array Value} (hx : p.tables.exec = Jvm.exec) (hb : c.code = prog_11_method_10_code) (hml : c.maxLocals = 3) (hts : ∀ w ∈ WG, w.before args s = true) (hown : s.vm.findClass "Ballothall$Poll" = some m.cls) (hlocks : meth.locks = false) (hA : ∀ q, s.heap.size ≤ q → A q) (hG : KG z s) (hZ : FZ z A s) (hL : Lay E) (h : Po_smallestBeatingSet_11b E M x1 x2 = some (t, w1, w2, N)) (k0 : t = 0 → ∀ (H : Heap) (locs : List Loc) (ls : Array Slot), va_P z.1 classes (wv z ad E N) H → va_D A (wv z ad E N) → va_S A s.heap H locs → lv_has ls 3 [(0, .ref (ad 41)), (1, .int w1), (2, .int w2)] → W p l e (rmK 3 86 0 0) s m args below meth c H locs 0 0 Q (F0 m 11 ls [])) (k1 : t = 1 → ∀ (H : Heap) (locs : List Loc) (ls : Array Slot), va_P z.1 classes (wv z ad E N) H → va_D A (wv z ad E N) → va_S A s.heap H locs → lv_has ls 3 [(1, .int w1)] → W p l e (rmK 3 86 0 0) s m args below meth c H locs 0 0 Q (F0 m 46 ls [])) : ∀ (H : Heap) (locs : List Loc) (ls : Array Slot), va_P z.1 classes (wv z ad E M) H → va_D A (wv z ad E M) → va_S A s.heap H locs → lv_has ls 3 [(0, .ref (ad 41)), (1, .int x1), (2, .int x2)] → W p l e (rmK 3 86 0 0) s m args below meth c H locs 0 0 Q (F0 m 11 ls []) := by
  intro H locs ls hP hD hS hl
  unfold Po_smallestBeatingSet_11b at h
  refine lv_iload_n hx hb d_11_10_11 rfl (lv_at hl 2 rfl) ?_
  refine lv_aload_n hx hb d_11_10_12 rfl (lv_at hl 0 rfl) ?_
  refine m_gi (C := "Ballothall$Poll") (T := TX9) (N := 12) (ci := 9) (k := 1) hx hb hts iX9 hown hG hP (yi_41 hL) (yt_41 hL) rfl (by decide) w_108 (fun _ h9 => h9) rfl rfl d_11_10_13 ?_
  refine lv_icmp_ge (tgt := 46) hx hb d_11_10_16 (by decide) (fun c9 => ?_) (fun c9 => ?_)
  · have h := ite_t c9 h
    obtain ⟨rfl, rfl, rfl, rfl⟩ := in4 h
    exact k1 rfl H locs ls hP hD hS (lv_sub hl [1] rfl)
  · have h := ite_f c9 h
    refine lv_iload_n hx hb d_11_10_19 rfl (lv_at hl 2 rfl) ?_
    obtain ⟨⟨r1, M1⟩, g1, h⟩ := bd_e h
    refine kS (As := [.int x2]) (rest := []) (s_In_bitCount l z ad E M x2 r1 M1 hL g1) hx hb hml hown hts w_657 w_1318 w_656 w_30 md_eafe8c ⟨Nat.le_of_ble_eq_true rfl, Nat.le_of_ble_eq_true rfl⟩ hG hZ hP hD hS hA rfl hl.1 rfl (Nat.le_of_ble_eq_true rfl) d_11_10_20 ⟨Nat.le_of_ble_eq_true rfl, Nat.le_of_ble_eq_true rfl⟩ (fun _ H locs hP hD hS => ?_)
    have hP : va_P z.1 classes (wv z ad E M1) H := hP
    have hD : va_D A (wv z ad E M1) := hD
    refine W.eq (g2 := F0 m 23 ls [.int r1]) rfl ?_
    refine lv_iload_n hx hb d_11_10_23 rfl (lv_at hl 1 rfl) ?_
    obtain ⟨⟨r2, M2⟩, g2, h⟩ := bd_e h
    refine kS (As := [.int x1]) (rest := [.int r1]) (s_In_bitCount l z ad E M1 x1 r2 M2 hL g2) hx hb hml hown hts w_657 w_1318 w_656 w_30 md_eafe8c ⟨Nat.le_of_ble_eq_true rfl, Nat.le_of_ble_eq_true rfl⟩ hG hZ hP hD hS hA rfl hl.1 rfl (Nat.le_of_ble_eq_true rfl) d_11_10_24 ⟨Nat.le_of_ble_eq_true rfl, Nat.le_of_ble_eq_true rfl⟩ (fun _ H locs hP hD hS => ?_)
    have hP : va_P z.1 classes (wv z ad E M2) H := hP
    have hD : va_D A (wv z ad E M2) := hD
    refine W.eq (g2 := F0 m 27 ls [.int r2, .int r1]) rfl ?_
    refine lv_icmp_ge (tgt := 40) hx hb d_11_10_27 (by decide) (fun c9 => ?_) (fun c9 => ?_)
    · have h := ite_t c9 h
      refine lv_iinc (v := (x2 + 1)) (lv' := [(2, .int (x2 + 1)), (0, .ref (ad 41)), (1, .int x1)]) hx hb d_11_10_40 hl (k := 2) rfl (congrArg (fun q => x2 + q) (show Int32.ofInt 1 = 1 by decide +kernel)) (by decide) rfl (fun ls hl => ?_)
      refine lv_goto (tgt := 11) hx hb d_11_10_43 (by decide) ?_
      obtain ⟨rfl, rfl, rfl, rfl⟩ := in4 h
      exact k0 rfl H locs ls hP hD hS (lv_sub hl [1, 2, 0] rfl)
    · have h := ite_f c9 h
      refine lv_aload_n hx hb d_11_10_30 rfl (lv_at hl 0 rfl) ?_
      refine lv_iload_n hx hb d_11_10_31 rfl (lv_at hl 2 rfl) ?_
      obtain ⟨⟨r3, M3⟩, g3, h⟩ := bd_e h
      refine kV (As := [.int x2]) (rest := []) (s_Po_isBeatingSet l z ad E M2 x2 r3 M3 hL g3) hx hb hml hown hts w_1322 w_1319 w_1321 w_s_b73280 w_3 md_432139 ⟨Nat.le_of_ble_eq_true rfl, Nat.le_of_ble_eq_true rfl⟩ hG hZ hP hD hS hA 41 (wv_o (ci := 9) (yi_41 hL) (yt_41 hL)) rfl rfl rfl hl.1 rfl (Nat.le_of_ble_eq_true rfl) d_11_10_32 ⟨Nat.le_of_ble_eq_true rfl, Nat.le_of_ble_eq_true rfl⟩ (fun _ H locs hP hD hS => ?_)
      have hP : va_P z.1 classes (wv z ad E M3) H := hP
      have hD : va_D A (wv z ad E M3) := hD
      refine W.eq (g2 := F0 m 35 ls [.int r3]) rfl ?_
      refine lv_if_eq (tgt := 40) hx hb d_11_10_35 (by decide) (fun c9 => ?_) (fun c9 => ?_)
      · have h := ite_t c9 h
        refine lv_iinc (v := (x2 + 1)) (lv' := [(2, .int (x2 + 1)), (0, .ref (ad 41)), (1, .int x1)]) hx hb d_11_10_40 hl (k := 2) rfl (congrArg (fun q => x2 + q) (show Int32.ofInt 1 = 1 by decide +kernel)) (by decide) rfl (fun ls hl => ?_)
        refine lv_goto (tgt := 11) hx hb d_11_10_43 (by decide) ?_
        obtain ⟨rfl, rfl, rfl, rfl⟩ := in4 h
        exact k0 rfl H locs ls hP hD hS (lv_sub hl [1, 2, 0] rfl)
      · have h := ite_f c9 h
        refine lv_iload_n hx hb d_11_10_38 rfl (lv_at hl 2 rfl) ?_
        refine lv_istore_n (lv' := [(1, .int x2), (0, .ref (ad 41)), (2, .int x2)]) hx hb d_11_10_39 rfl hl (by decide) rfl (fun ls hl => ?_)
        refine lv_iinc (v := (x2 + 1)) (lv' := [(2, .int (x2 + 1)), (1, .int x2), (0, .ref (ad 41))]) hx hb d_11_10_40 hl (k := 2) rfl (congrArg (fun q => x2 + q) (show Int32.ofInt 1 = 1 by decide +kernel)) (by decide) rfl (fun ls hl => ?_)
        refine lv_goto (tgt := 11) hx hb d_11_10_43 (by decide) ?_
        obtain ⟨rfl, rfl, rfl, rfl⟩ := in4 h
        exact k0 rfl H locs ls hP hD hS (lv_sub hl [2, 1, 0] rfl)
set_option maxRecDepth 100000 in
set_option maxHeartbeats 4000000 in
theorem s_Po_smallestBeatingSet_11 (l : Launch) (z : Zz) (ad : Nat → Nat) (E : Ev) {Q : State → Prop} {p : Program} {e : Env} {s : State} {m : MethodId} {below : List Frame} {meth : Method} {c : Code} {A : Nat → Prop} {args : Array Value} (hx : p.tables.exec = Jvm.exec) (hb : c.code = prog_11_method_10_code) (hml : c.maxLocals = 3) (hts : ∀ w ∈ WG, w.before args s = true) (hown : s.vm.findClass "Ballothall$Poll" = some m.cls) (hlocks : meth.locks = false) (hA : ∀ q, s.heap.size ≤ q → A q) (hG : KG z s) (hZ : FZ z A s) (hL : Lay E) : ∀ (fu : Nat) (M : Mm) (x1 : Int32) (x2 : Int32) (t : Nat) (w1 : Int32) (w2 : Int32) (N : Mm), l_Po_smallestBeatingSet_11 E fu M x1 x2 = some (t, w1, w2, N) → (t = 1 → ∀ (H : Heap) (locs : List Loc) (ls : Array Slot), va_P z.1 classes (wv z ad E N) H → va_D A (wv z ad E N) → va_S A s.heap H locs → lv_has ls 3 [(1, .int w1)] → W p l e (rmK 3 86 0 0) s m args below meth c H locs 0 0 Q (F0 m 46 ls [])) → ∀ (H : Heap) (locs : List Loc) (ls : Array Slot), va_P z.1 classes (wv z ad E M) H → va_D A (wv z ad E M) → va_S A s.heap H locs → lv_has ls 3 [(0, .ref (ad 41)), (1, .int x1), (2, .int x2)] → W p l e (rmK 3 86 0 0) s m args below meth c H locs 0 0 Q (F0 m 11 ls []) := by
  intro fu
  induction fu with
  | zero =>
    intro M x1 x2 t w1 w2 N h
    have h : (none : Option (Nat × Int32 × Int32 × Mm)) = some _ := h
    cases h
  | succ fu ih =>
    intro M x1 x2 t w1 w2 N h k1 H locs ls hP hD hS hl
    obtain ⟨⟨t0, w10, w20, N0⟩, g0, h⟩ := bd_e h
    refine b_Po_smallestBeatingSet_11b l z ad E M x1 x2 t0 w10 w20 N0 hx hb hml hts hown hlocks hA hG hZ hL g0 (fun e0 => ?_) (fun e0 => ?_) H locs ls hP hD hS hl
    · subst e0
      have h := ite_t rfl h
      exact ih N0 w10 w20 t w1 w2 N h k1
    · subst e0
      have h := ite_f (by decide) h
      obtain ⟨rfl, rfl, rfl, rfl⟩ := in4 h
      exact k1 rfl
set_option maxRecDepth 100000 in
set_option maxHeartbeats 4000000 in
theorem s_Po_smallestBeatingSet (l : Launch) (z : Zz) (ad : Nat → Nat) (E : Ev) (M : Mm) (r : Int32) (N : Mm) (hL : Lay E) (h : f_Po_smallestBeatingSet E M = some (r, N)) : CT l z ⟨"Ballothall$Poll", "smallestBeatingSet", "()I"⟩ prog_11_method_10_code 3 (some .int) [.ref (ad 41)] (wv z ad E M) 3 86 0 0 (fun _ => some (.int r)) (fun _ => wv z ad E N) := by
  refine CT.of (own := "Ballothall$Poll") (by decide +kernel) (Nat.le_of_ble_eq_true rfl) rfl (fun p e s m below meth c A ls hx hb hml hr hts hown hlocks hin hA hG hZ hP hD hS hl => ?_)
  have hl : lv_has ls 3 [(0, .ref (ad 41))] := hl
  have key : ∀ (H : Heap) (locs : List Loc) (args : Array Value), (∀ w ∈ WG, w.before args s = true) → va_P z.1 classes (wv z ad E M) H → va_S A s.heap H locs → W p l e (rmK 3 86 0 0) s m args below meth c H locs 0 0 (MQ below (QK z A (fun _ => some (.int r)) (fun _ => wv z ad E N)) args s 0 0 A) (F0 m 0 ls []) := by
    intro H locs args hts hP hS
    unfold f_Po_smallestBeatingSet at h
    refine lv_aload_n hx hb d_11_10_0 rfl (lv_at hl 0 rfl) ?_
    obtain ⟨M0, g0, h⟩ := bd_e h
    refine kV (As := []) (rest := []) (s_Po_findBeaten l z ad E M M0 hL g0) hx hb hml hown hts w_701 w_698 w_700 w_s_e198c6 w_3 md_a5c5f2 ⟨Nat.le_of_ble_eq_true rfl, Nat.le_of_ble_eq_true rfl⟩ hG hZ hP hD hS hA 41 (wv_o (ci := 9) (yi_41 hL) (yt_41 hL)) rfl rfl rfl hl.1 rfl (Nat.le_of_ble_eq_true rfl) d_11_10_1 ⟨Nat.le_of_ble_eq_true rfl, Nat.le_of_ble_eq_true rfl⟩ (fun _ H locs hP hD hS => ?_)
    have hP : va_P z.1 classes (wv z ad E M0) H := hP
    have hD : va_D A (wv z ad E M0) := hD
    refine W.eq (g2 := F0 m 4 ls []) rfl ?_
    refine lv_aload_n hx hb d_11_10_4 rfl (lv_at hl 0 rfl) ?_
    refine m_gi (C := "Ballothall$Poll") (T := TX9) (N := 12) (ci := 9) (k := 1) hx hb hts iX9 hown hG hP (yi_41 hL) (yt_41 hL) rfl (by decide) w_108 (fun _ h9 => h9) rfl rfl d_11_10_5 ?_
    refine lv_istore_n (lv' := [(1, .int (M0.1 41 1)), (0, .ref (ad 41))]) hx hb d_11_10_8 rfl hl (by decide) rfl (fun ls hl => ?_)
    refine lv_iconst (v := 1) hx hb d_11_10_9 (by decide +kernel) ?_
    refine lv_istore_n (lv' := [(2, .int 1), (1, .int (M0.1 41 1)), (0, .ref (ad 41))]) hx hb d_11_10_10 rfl hl (by decide) rfl (fun ls hl => ?_)
    obtain ⟨⟨t4, v4_1, v4_2, M4⟩, g4, h⟩ := bd_e h
    obtain ⟨ok4, h⟩ := ck_e h
    refine s_Po_smallestBeatingSet_11 l z ad E hx hb hml hts hown hlocks hA hG hZ hL FU M0 (M0.1 41 1) 1 t4 v4_1 v4_2 M4 g4 (fun e4 H locs ls hP hD hS hl => ?_) H locs ls hP hD hS (lv_sub hl [2, 1, 0] rfl)
    refine lv_iload_n hx hb d_11_10_46 rfl (lv_at hl 0 rfl) ?_
    obtain ⟨rfl, rfl⟩ := in2 h
    exact W.iret hx hb hr (fun t ht hW => qkA hP hD hS (fun k => k) rfl rfl ht) hS.2.2 d_11_10_47
  exact key _ _ _ hts hP hS
set_option maxRecDepth 100000 in
set_option maxHeartbeats 4000000 in
theorem s_B_beatingSet (l : Launch) (z : Zz) (ad : Nat → Nat) (E : Ev) (M : Mm) (r : Int32) (N : Mm) (hL : Lay E) (h : f_B_beatingSet E M = some (r, N)) : CT l z ⟨"Ballothall", "beatingSet", "()I"⟩ prog_1_method_29_code 1 (some .int) [.ref (ad 1)] (wv z ad E M) 4 115 0 0 (fun _ => some (.int r)) (fun _ => wv z ad E N) := by
  refine CT.of (own := "Ballothall") (by decide +kernel) (Nat.le_of_ble_eq_true rfl) rfl (fun p e s m below meth c A ls hx hb hml hr hts hown hlocks hin hA hG hZ hP hD hS hl => ?_)
  have hl : lv_has ls 1 [(0, .ref (ad 1))] := hl
  have key : ∀ (H : Heap) (locs : List Loc) (args : Array Value), (∀ w ∈ WG, w.before args s = true) → va_P z.1 classes (wv z ad E M) H → va_S A s.heap H locs → W p l e (rmK 4 115 0 0) s m args below meth c H locs 0 0 (MQ below (QK z A (fun _ => some (.int r)) (fun _ => wv z ad E N)) args s 0 0 A) (F0 m 0 ls []) := by
    intro H locs args hts hP hS
    unfold f_B_beatingSet at h
    refine lv_aload_n hx hb d_1_29_0 rfl (lv_at hl 0 rfl) ?_
    refine m_gr (j := 41) (C := "Ballothall") (T := TX11) (N := 14) (ci := 11) (k := 1) hx hb hts iX11 hown hG hP (yi_1 hL) (yt_1 hL) rfl (by decide) w_398 (fun _ h9 => h9) rfl rfl (yr_1_1 hL) d_1_29_1 ?_
    refine lv_aload_n hx hb d_1_29_4 rfl (lv_at hl 0 rfl) ?_
    refine m_gr (j := 2) (C := "Ballothall") (T := TX11) (N := 14) (ci := 11) (k := 0) hx hb hts iX11 hown hG hP (yi_1 hL) (yt_1 hL) rfl (by decide) w_397 (fun _ h9 => h9) rfl rfl (yr_1_0 hL) d_1_29_5 ?_
    obtain ⟨⟨r0, M0⟩, g0, h⟩ := bd_e h
    refine kVN (As := []) (rest := [.ref (ad 41)]) (s_Bx_everybody l z ad E M r0 M0 hL g0) hx hb hml hown hts w_668 n_665 w_667 w_s_8b8b67 w_2 md_b59579 ⟨Nat.le_of_ble_eq_true rfl, Nat.le_of_ble_eq_true rfl⟩ hG hZ hP hD hS hA 2 (wv_o (ci := 0) (yi_2 hL) (yt_2 hL)) rfl rfl rfl hl.1 rfl (Nat.le_of_ble_eq_true rfl) d_1_29_8 ⟨Nat.le_of_ble_eq_true rfl, Nat.le_of_ble_eq_true rfl⟩ (fun _ H locs hP hD hS => ?_)
    have hP : va_P z.1 classes (wv z ad E M0) H := hP
    have hD : va_D A (wv z ad E M0) := hD
    refine W.eq (g2 := F0 m 11 ls [.int r0, .ref (ad 41)]) rfl ?_
    obtain ⟨M1, g1, h⟩ := bd_e h
    refine kVN (As := [.int r0]) (rest := []) (s_Po_open l z ad E M0 r0 M1 hL g1) hx hb hml hown hts w_672 n_669 w_671 w_s_229dc4 w_3 md_60bc9b ⟨Nat.le_of_ble_eq_true rfl, Nat.le_of_ble_eq_true rfl⟩ hG hZ hP hD hS hA 41 (wv_o (ci := 9) (yi_41 hL) (yt_41 hL)) rfl rfl rfl hl.1 rfl (Nat.le_of_ble_eq_true rfl) d_1_29_11 ⟨Nat.le_of_ble_eq_true rfl, Nat.le_of_ble_eq_true rfl⟩ (fun _ H locs hP hD hS => ?_)
    have hP : va_P z.1 classes (wv z ad E M1) H := hP
    have hD : va_D A (wv z ad E M1) := hD
    refine W.eq (g2 := F0 m 14 ls []) rfl ?_
    refine lv_aload_n hx hb d_1_29_14 rfl (lv_at hl 0 rfl) ?_
    refine m_gr (j := 41) (C := "Ballothall") (T := TX11) (N := 14) (ci := 11) (k := 1) hx hb hts iX11 hown hG hP (yi_1 hL) (yt_1 hL) rfl (by decide) w_398 (fun _ h9 => h9) rfl rfl (yr_1_1 hL) d_1_29_15 ?_
    obtain ⟨⟨r2, M2⟩, g2, h⟩ := bd_e h
    refine kVN (As := []) (rest := []) (s_Po_smallestBeatingSet l z ad E M1 r2 M2 hL g2) hx hb hml hown hts w_1317 n_1314 w_1316 w_s_300997 w_3 md_be21d8 ⟨Nat.le_of_ble_eq_true rfl, Nat.le_of_ble_eq_true rfl⟩ hG hZ hP hD hS hA 41 (wv_o (ci := 9) (yi_41 hL) (yt_41 hL)) rfl rfl rfl hl.1 rfl (Nat.le_of_ble_eq_true rfl) d_1_29_18 ⟨Nat.le_of_ble_eq_true rfl, Nat.le_of_ble_eq_true rfl⟩ (fun _ H locs hP hD hS => ?_)
    have hP : va_P z.1 classes (wv z ad E M2) H := hP
    have hD : va_D A (wv z ad E M2) := hD
    refine W.eq (g2 := F0 m 21 ls [.int r2]) rfl ?_
    obtain ⟨rfl, rfl⟩ := in2 h
    exact W.iret hx hb hr (fun t ht hW => qkA hP hD hS (fun k => k) rfl rfl ht) hS.2.2 d_1_29_21
  exact key _ _ _ hts hP hS
set_option maxRecDepth 100000 in
set_option maxHeartbeats 4000000 in
theorem b_Po_beaterOfAll_6b (l : Launch) (z : Zz) (ad : Nat → Nat) (E : Ev) (M : Mm) (x1 : Int32) (t : Nat) (w1 : Int32) (N : Mm) {Q : State → Prop} {p : Program} {e : Env} {s : State} {m : MethodId} {below : List Frame} {meth : Method} {c : Code} {A : Nat → Prop} {args : Array Value} (hx : p.tables.exec = Jvm.exec) (hb : c.code = prog_11_method_9_code) (hml : c.maxLocals = 2) (hts : ∀ w ∈ WG, w.before args s = true) (hown : s.vm.findClass "Ballothall$Poll" = some m.cls) (hlocks : meth.locks = false) (hA : ∀ q, s.heap.size ≤ q → A q) (hG : KG z s) (hZ : FZ z A s) (hL : Lay E) (h : Po_beaterOfAll_6b E M x1 = some (t, w1, N)) (k0 : t = 0 → ∀ (H : Heap) (locs : List Loc) (ls : Array Slot), va_P z.1 classes (wv z ad E N) H → va_D A (wv z ad E N) → va_S A s.heap H locs → lv_has ls 2 [(0, .ref (ad 41)), (1, .int w1)] → W p l e (rmK 3 86 0 0) s m args below meth c H locs 0 0 Q (F0 m 6 ls [])) (k1 : t = 1 → ∀ (H : Heap) (locs : List Loc) (ls : Array Slot), va_P z.1 classes (wv z ad E N) H → va_D A (wv z ad E N) → va_S A s.heap H locs → lv_has ls 2 [(1, .int w1)] → W p l e (rmK 3 86 0 0) s m args below meth c H locs 0 0 Q (F0 m 36 ls [])) (k2 : t = 2 → ∀ (H : Heap) (locs : List Loc) (ls : Array Slot), va_P z.1 classes (wv z ad E N) H → va_D A (wv z ad E N) → va_S A s.heap H locs → lv_has ls 2 [] → W p l e (rmK 3 86 0 0) s m args below meth c H locs 0 0 Q (F0 m 44 ls [])) : ∀ (H : Heap) (locs : List Loc) (ls : Array Slot), va_P z.1 classes (wv z ad E M) H → va_D A (wv z ad E M) → va_S A s.heap H locs → lv_has ls 2 [(0, .ref (ad 41)), (1, .int x1)] → W p l e (rmK 3 86 0 0) s m args below meth c H locs 0 0 Q (F0 m 6 ls []) := by
  intro H locs ls hP hD hS hl
  unfold Po_beaterOfAll_6b at h
  refine lv_iload_n hx hb d_11_9_6 rfl (lv_at hl 1 rfl) ?_
  refine lv_aload_n hx hb d_11_9_7 rfl (lv_at hl 0 rfl) ?_
  refine m_gr (j := 2) (C := "Ballothall$Poll") (T := TX9) (N := 12) (ci := 9) (k := 0) hx hb hts iX9 hown hG hP (yi_41 hL) (yt_41 hL) rfl (by decide) w_107 (fun _ h9 => h9) rfl rfl (yr_41_0 hL) d_11_9_8 ?_
  refine m_giN (C := "Ballothall$BallotBox") (T := TX0) (N := 10) (ci := 0) (k := 2) hx hb hts iX0 hown hG hP (yi_2 hL) (yt_2 hL) rfl (by decide) n_53 rfl (fun _ h9 => h9) rfl rfl d_11_9_11 ?_
  refine lv_icmp_ge (tgt := 44) hx hb d_11_9_14 (by decide) (fun c9 => ?_) (fun c9 => ?_)
  · have h := ite_t c9 h
    obtain ⟨rfl, rfl, rfl⟩ := in3 h
    exact k2 rfl H locs ls hP hD hS (lv_sub hl [] rfl)
  · have h := ite_f c9 h
    refine lv_aload_n hx hb d_11_9_17 rfl (lv_at hl 0 rfl) ?_
    refine m_gr (j := 46) (C := "Ballothall$Poll") (T := TX9) (N := 12) (ci := 9) (k := 7) hx hb hts iX9 hown hG hP (yi_41 hL) (yt_41 hL) rfl (by decide) w_114 (fun _ h9 => h9) rfl rfl (yr_41_7 hL) d_11_9_18 ?_
    refine lv_iload_n hx hb d_11_9_21 rfl (lv_at hl 1 rfl) ?_
    obtain ⟨ok1, h⟩ := ck_e h
    refine m_ia hx hb hG hP (yi_46 hL) (yt_46 hL) ok1 d_11_9_22 ?_
    refine lv_aload_n hx hb d_11_9_23 rfl (lv_at hl 0 rfl) ?_
    refine m_gi (C := "Ballothall$Poll") (T := TX9) (N := 12) (ci := 9) (k := 1) hx hb hts iX9 hown hG hP (yi_41 hL) (yt_41 hL) rfl (by decide) w_108 (fun _ h9 => h9) rfl rfl d_11_9_24 ?_
    refine lv_iconst (v := 1) hx hb d_11_9_27 (by decide +kernel) ?_
    refine lv_iload_n hx hb d_11_9_28 rfl (lv_at hl 1 rfl) ?_
    refine lv_ishl hx hb d_11_9_29 ?_
    refine lv_iconst (v := (-1)) hx hb d_11_9_30 (by decide +kernel) ?_
    refine lv_ixor hx hb d_11_9_31 ?_
    refine lv_iand hx hb d_11_9_32 ?_
    refine lv_icmp_ne (tgt := 38) hx hb d_11_9_33 (by decide) (fun c9 => ?_) (fun c9 => ?_)
    · have h := ite_f c9 h
      refine lv_iinc (v := (x1 + 1)) (lv' := [(1, .int (x1 + 1)), (0, .ref (ad 41))]) hx hb d_11_9_38 hl (k := 1) rfl (congrArg (fun q => x1 + q) (show Int32.ofInt 1 = 1 by decide +kernel)) (by decide) rfl (fun ls hl => ?_)
      refine lv_goto (tgt := 6) hx hb d_11_9_41 (by decide) ?_
      obtain ⟨rfl, rfl, rfl⟩ := in3 h
      exact k0 rfl H locs ls hP hD hS (lv_sub hl [1, 0] rfl)
    · have h := ite_t c9 h
      obtain ⟨rfl, rfl, rfl⟩ := in3 h
      exact k1 rfl H locs ls hP hD hS (lv_sub hl [1] rfl)
set_option maxRecDepth 100000 in
set_option maxHeartbeats 4000000 in
theorem s_Po_beaterOfAll_6 (l : Launch) (z : Zz) (ad : Nat → Nat) (E : Ev) {Q : State → Prop} {p : Program} {e : Env} {s : State} {m : MethodId} {below : List Frame} {meth : Method} {c : Code} {A : Nat → Prop} {args : Array Value} (hx : p.tables.exec = Jvm.exec) (hb : c.code = prog_11_method_9_code) (hml : c.maxLocals = 2) (hts : ∀ w ∈ WG, w.before args s = true) (hown : s.vm.findClass "Ballothall$Poll" = some m.cls) (hlocks : meth.locks = false) (hA : ∀ q, s.heap.size ≤ q → A q) (hG : KG z s) (hZ : FZ z A s) (hL : Lay E) : ∀ (fu : Nat) (M : Mm) (x1 : Int32) (t : Nat) (w1 : Int32) (N : Mm), l_Po_beaterOfAll_6 E fu M x1 = some (t, w1, N) → (t = 1 → ∀ (H : Heap) (locs : List Loc) (ls : Array Slot), va_P z.1 classes (wv z ad E N) H → va_D A (wv z ad E N) → va_S A s.heap H locs → lv_has ls 2 [(1, .int w1)] → W p l e (rmK 3 86 0 0) s m args below meth c H locs 0 0 Q (F0 m 36 ls [])) → (t = 2 → ∀ (H : Heap) (locs : List Loc) (ls : Array Slot), va_P z.1 classes (wv z ad E N) H → va_D A (wv z ad E N) → va_S A s.heap H locs → lv_has ls 2 [] → W p l e (rmK 3 86 0 0) s m args below meth c H locs 0 0 Q (F0 m 44 ls [])) → ∀ (H : Heap) (locs : List Loc) (ls : Array Slot), va_P z.1 classes (wv z ad E M) H → va_D A (wv z ad E M) → va_S A s.heap H locs → lv_has ls 2 [(0, .ref (ad 41)), (1, .int x1)] → W p l e (rmK 3 86 0 0) s m args below meth c H locs 0 0 Q (F0 m 6 ls []) := by
  intro fu
  induction fu with
  | zero =>
    intro M x1 t w1 N h
    have h : (none : Option (Nat × Int32 × Mm)) = some _ := h
    cases h
  | succ fu ih =>
    intro M x1 t w1 N h k1 k2 H locs ls hP hD hS hl
    obtain ⟨⟨t0, w10, N0⟩, g0, h⟩ := bd_e h
    refine b_Po_beaterOfAll_6b l z ad E M x1 t0 w10 N0 hx hb hml hts hown hlocks hA hG hZ hL g0 (fun e0 => ?_) (fun e0 => ?_) (fun e0 => ?_) H locs ls hP hD hS hl
    · subst e0
      have h := ite_t rfl h
      exact ih N0 w10 t w1 N h k1 k2
    · subst e0
      have h := ite_f (by decide) h
      obtain ⟨rfl, rfl, rfl⟩ := in3 h
      exact k1 rfl
    · subst e0
      have h := ite_f (by decide) h
      obtain ⟨rfl, rfl, rfl⟩ := in3 h
      exact k2 rfl
set_option maxRecDepth 100000 in
set_option maxHeartbeats 4000000 in
theorem s_Po_beaterOfAll (l : Launch) (z : Zz) (ad : Nat → Nat) (E : Ev) (M : Mm) (r : Int32) (N : Mm) (hL : Lay E) (h : f_Po_beaterOfAll E M = some (r, N)) : CT l z ⟨"Ballothall$Poll", "beaterOfAll", "()I"⟩ prog_11_method_9_code 2 (some .int) [.ref (ad 41)] (wv z ad E M) 3 86 0 0 (fun _ => some (.int r)) (fun _ => wv z ad E N) := by
  refine CT.of (own := "Ballothall$Poll") (by decide +kernel) (Nat.le_of_ble_eq_true rfl) rfl (fun p e s m below meth c A ls hx hb hml hr hts hown hlocks hin hA hG hZ hP hD hS hl => ?_)
  have hl : lv_has ls 2 [(0, .ref (ad 41))] := hl
  have key : ∀ (H : Heap) (locs : List Loc) (args : Array Value), (∀ w ∈ WG, w.before args s = true) → va_P z.1 classes (wv z ad E M) H → va_S A s.heap H locs → W p l e (rmK 3 86 0 0) s m args below meth c H locs 0 0 (MQ below (QK z A (fun _ => some (.int r)) (fun _ => wv z ad E N)) args s 0 0 A) (F0 m 0 ls []) := by
    intro H locs args hts hP hS
    unfold f_Po_beaterOfAll at h
    refine lv_aload_n hx hb d_11_9_0 rfl (lv_at hl 0 rfl) ?_
    obtain ⟨M0, g0, h⟩ := bd_e h
    refine kV (As := []) (rest := []) (s_Po_findBeaten l z ad E M M0 hL g0) hx hb hml hown hts w_701 w_698 w_700 w_s_e198c6 w_3 md_a5c5f2 ⟨Nat.le_of_ble_eq_true rfl, Nat.le_of_ble_eq_true rfl⟩ hG hZ hP hD hS hA 41 (wv_o (ci := 9) (yi_41 hL) (yt_41 hL)) rfl rfl rfl hl.1 rfl (Nat.le_of_ble_eq_true rfl) d_11_9_1 ⟨Nat.le_of_ble_eq_true rfl, Nat.le_of_ble_eq_true rfl⟩ (fun _ H locs hP hD hS => ?_)
    have hP : va_P z.1 classes (wv z ad E M0) H := hP
    have hD : va_D A (wv z ad E M0) := hD
    refine W.eq (g2 := F0 m 4 ls []) rfl ?_
    refine lv_iconst (v := 0) hx hb d_11_9_4 (by decide +kernel) ?_
    refine lv_istore_n (lv' := [(1, .int 0), (0, .ref (ad 41))]) hx hb d_11_9_5 rfl hl (by decide) rfl (fun ls hl => ?_)
    obtain ⟨⟨t2, v2_1, M2⟩, g2, h⟩ := bd_e h
    refine s_Po_beaterOfAll_6 l z ad E hx hb hml hts hown hlocks hA hG hZ hL FU M0 0 t2 v2_1 M2 g2 (fun e2 H locs ls hP hD hS hl => ?_) (fun e2 H locs ls hP hD hS hl => ?_) H locs ls hP hD hS (lv_sub hl [1, 0] rfl)
    · subst e2
      have h := ite_t rfl h
      refine lv_iload_n hx hb d_11_9_36 rfl (lv_at hl 0 rfl) ?_
      obtain ⟨rfl, rfl⟩ := in2 h
      exact W.iret hx hb hr (fun t ht hW => qkA hP hD hS (fun k => k) rfl rfl ht) hS.2.2 d_11_9_37
    · subst e2
      have h := ite_f (by decide) h
      have h := ite_t rfl h
      refine lv_iconst (v := (-1)) hx hb d_11_9_44 (by decide +kernel) ?_
      obtain ⟨rfl, rfl⟩ := in2 h
      exact W.iret hx hb hr (fun t ht hW => qkA hP hD hS (fun k => k) rfl rfl ht) hS.2.2 d_11_9_45
  exact key _ _ _ hts hP hS
set_option maxRecDepth 100000 in
set_option maxHeartbeats 4000000 in
theorem s_B_beatsAll (l : Launch) (z : Zz) (ad : Nat → Nat) (E : Ev) (M : Mm) (r : Int32) (N : Mm) (hL : Lay E) (h : f_B_beatsAll E M = some (r, N)) : CT l z ⟨"Ballothall", "beatsAll", "()I"⟩ prog_1_method_26_code 1 (some .int) [.ref (ad 1)] (wv z ad E M) 4 115 0 0 (fun _ => some (.int r)) (fun _ => wv z ad E N) := by
  refine CT.of (own := "Ballothall") (by decide +kernel) (Nat.le_of_ble_eq_true rfl) rfl (fun p e s m below meth c A ls hx hb hml hr hts hown hlocks hin hA hG hZ hP hD hS hl => ?_)
  have hl : lv_has ls 1 [(0, .ref (ad 1))] := hl
  have key : ∀ (H : Heap) (locs : List Loc) (args : Array Value), (∀ w ∈ WG, w.before args s = true) → va_P z.1 classes (wv z ad E M) H → va_S A s.heap H locs → W p l e (rmK 4 115 0 0) s m args below meth c H locs 0 0 (MQ below (QK z A (fun _ => some (.int r)) (fun _ => wv z ad E N)) args s 0 0 A) (F0 m 0 ls []) := by
    intro H locs args hts hP hS
    unfold f_B_beatsAll at h
    refine lv_aload_n hx hb d_1_26_0 rfl (lv_at hl 0 rfl) ?_
    refine m_gr (j := 41) (C := "Ballothall") (T := TX11) (N := 14) (ci := 11) (k := 1) hx hb hts iX11 hown hG hP (yi_1 hL) (yt_1 hL) rfl (by decide) w_398 (fun _ h9 => h9) rfl rfl (yr_1_1 hL) d_1_26_1 ?_
    refine lv_aload_n hx hb d_1_26_4 rfl (lv_at hl 0 rfl) ?_
    refine m_gr (j := 2) (C := "Ballothall") (T := TX11) (N := 14) (ci := 11) (k := 0) hx hb hts iX11 hown hG hP (yi_1 hL) (yt_1 hL) rfl (by decide) w_397 (fun _ h9 => h9) rfl rfl (yr_1_0 hL) d_1_26_5 ?_
    obtain ⟨⟨r0, M0⟩, g0, h⟩ := bd_e h
    refine kVN (As := []) (rest := [.ref (ad 41)]) (s_Bx_everybody l z ad E M r0 M0 hL g0) hx hb hml hown hts w_668 n_665 w_667 w_s_8b8b67 w_2 md_b59579 ⟨Nat.le_of_ble_eq_true rfl, Nat.le_of_ble_eq_true rfl⟩ hG hZ hP hD hS hA 2 (wv_o (ci := 0) (yi_2 hL) (yt_2 hL)) rfl rfl rfl hl.1 rfl (Nat.le_of_ble_eq_true rfl) d_1_26_8 ⟨Nat.le_of_ble_eq_true rfl, Nat.le_of_ble_eq_true rfl⟩ (fun _ H locs hP hD hS => ?_)
    have hP : va_P z.1 classes (wv z ad E M0) H := hP
    have hD : va_D A (wv z ad E M0) := hD
    refine W.eq (g2 := F0 m 11 ls [.int r0, .ref (ad 41)]) rfl ?_
    obtain ⟨M1, g1, h⟩ := bd_e h
    refine kVN (As := [.int r0]) (rest := []) (s_Po_open l z ad E M0 r0 M1 hL g1) hx hb hml hown hts w_672 n_669 w_671 w_s_229dc4 w_3 md_60bc9b ⟨Nat.le_of_ble_eq_true rfl, Nat.le_of_ble_eq_true rfl⟩ hG hZ hP hD hS hA 41 (wv_o (ci := 9) (yi_41 hL) (yt_41 hL)) rfl rfl rfl hl.1 rfl (Nat.le_of_ble_eq_true rfl) d_1_26_11 ⟨Nat.le_of_ble_eq_true rfl, Nat.le_of_ble_eq_true rfl⟩ (fun _ H locs hP hD hS => ?_)
    have hP : va_P z.1 classes (wv z ad E M1) H := hP
    have hD : va_D A (wv z ad E M1) := hD
    refine W.eq (g2 := F0 m 14 ls []) rfl ?_
    refine lv_aload_n hx hb d_1_26_14 rfl (lv_at hl 0 rfl) ?_
    refine m_gr (j := 41) (C := "Ballothall") (T := TX11) (N := 14) (ci := 11) (k := 1) hx hb hts iX11 hown hG hP (yi_1 hL) (yt_1 hL) rfl (by decide) w_398 (fun _ h9 => h9) rfl rfl (yr_1_1 hL) d_1_26_15 ?_
    obtain ⟨⟨r2, M2⟩, g2, h⟩ := bd_e h
    refine kVN (As := []) (rest := []) (s_Po_beaterOfAll l z ad E M1 r2 M2 hL g2) hx hb hml hown hts w_697 n_694 w_696 w_s_516c18 w_3 md_056ea1 ⟨Nat.le_of_ble_eq_true rfl, Nat.le_of_ble_eq_true rfl⟩ hG hZ hP hD hS hA 41 (wv_o (ci := 9) (yi_41 hL) (yt_41 hL)) rfl rfl rfl hl.1 rfl (Nat.le_of_ble_eq_true rfl) d_1_26_18 ⟨Nat.le_of_ble_eq_true rfl, Nat.le_of_ble_eq_true rfl⟩ (fun _ H locs hP hD hS => ?_)
    have hP : va_P z.1 classes (wv z ad E M2) H := hP
    have hD : va_D A (wv z ad E M2) := hD
    refine W.eq (g2 := F0 m 21 ls [.int r2]) rfl ?_
    obtain ⟨rfl, rfl⟩ := in2 h
    exact W.iret hx hb hr (fun t ht hW => qkA hP hD hS (fun k => k) rfl rfl ht) hS.2.2 d_1_26_21
  exact key _ _ _ hts hP hS
set_option maxRecDepth 100000 in
set_option maxHeartbeats 4000000 in
theorem s_B_candidate (l : Launch) (z : Zz) (ad : Nat → Nat) (E : Ev) (M : Mm) (r : Int32) (N : Mm) (hL : Lay E) (h : f_B_candidate E M = some (r, N)) : CT l z ⟨"Ballothall", "candidate", "()I"⟩ prog_1_method_2_code 2 (some .int) [.ref (ad 1)] (wv z ad E M) 2 63 0 0 (fun _ => some (.int r)) (fun _ => wv z ad E N) := by
  refine CT.of (own := "Ballothall") (by decide +kernel) (Nat.le_of_ble_eq_true rfl) rfl (fun p e s m below meth c A ls hx hb hml hr hts hown hlocks hin hA hG hZ hP hD hS hl => ?_)
  have hl : lv_has ls 2 [(0, .ref (ad 1))] := hl
  have key : ∀ (H : Heap) (locs : List Loc) (args : Array Value), (∀ w ∈ WG, w.before args s = true) → va_P z.1 classes (wv z ad E M) H → va_S A s.heap H locs → W p l e (rmK 2 63 0 0) s m args below meth c H locs 0 0 (MQ below (QK z A (fun _ => some (.int r)) (fun _ => wv z ad E N)) args s 0 0 A) (F0 m 0 ls []) := by
    intro H locs args hts hP hS
    unfold f_B_candidate at h
    refine lv_aload_n hx hb d_1_2_0 rfl (lv_at hl 0 rfl) ?_
    refine m_gr (j := 2) (C := "Ballothall") (T := TX11) (N := 14) (ci := 11) (k := 0) hx hb hts iX11 hown hG hP (yi_1 hL) (yt_1 hL) rfl (by decide) w_397 (fun _ h9 => h9) rfl rfl (yr_1_0 hL) d_1_2_1 ?_
    refine m_giN (C := "Ballothall$BallotBox") (T := TX0) (N := 10) (ci := 0) (k := 2) hx hb hts iX0 hown hG hP (yi_2 hL) (yt_2 hL) rfl (by decide) n_52 rfl (fun _ h9 => h9) rfl rfl d_1_2_4 ?_
    refine lv_iconst (v := 1) hx hb d_1_2_7 (by decide +kernel) ?_
    refine lv_iadd hx hb d_1_2_8 ?_
    refine lv_bipush (v := 8) hx hb d_1_2_9 (by decide +kernel) ?_
    obtain ⟨M0, g0, h⟩ := bd_e h
    refine kS (As := [.int ((M.1 2 2) + (1 : Int32)), .int 8]) (rest := []) (s_B_needRoom l z ad E M ((M.1 2 2) + (1 : Int32)) 8 M0 hL g0) hx hb hml hown hts w_446 w_444 w_445 w_1 md_ec9fa9 ⟨Nat.le_of_ble_eq_true rfl, Nat.le_of_ble_eq_true rfl⟩ hG hZ hP hD hS hA rfl hl.1 rfl (Nat.le_of_ble_eq_true rfl) d_1_2_11 ⟨Nat.le_of_ble_eq_true rfl, Nat.le_of_ble_eq_true rfl⟩ (fun _ H locs hP hD hS => ?_)
    have hP : va_P z.1 classes (wv z ad E M0) H := hP
    have hD : va_D A (wv z ad E M0) := hD
    refine W.eq (g2 := F0 m 14 ls []) rfl ?_
    refine lv_aload_n hx hb d_1_2_14 rfl (lv_at hl 0 rfl) ?_
    refine m_gr (j := 2) (C := "Ballothall") (T := TX11) (N := 14) (ci := 11) (k := 0) hx hb hts iX11 hown hG hP (yi_1 hL) (yt_1 hL) rfl (by decide) w_397 (fun _ h9 => h9) rfl rfl (yr_1_0 hL) d_1_2_15 ?_
    refine m_giN (C := "Ballothall$BallotBox") (T := TX0) (N := 10) (ci := 0) (k := 2) hx hb hts iX0 hown hG hP (yi_2 hL) (yt_2 hL) rfl (by decide) n_52 rfl (fun _ h9 => h9) rfl rfl d_1_2_18 ?_
    refine lv_istore_n (lv' := [(1, .int (M0.1 2 2)), (0, .ref (ad 1))]) hx hb d_1_2_21 rfl hl (by decide) rfl (fun ls hl => ?_)
    refine lv_aload_n hx hb d_1_2_22 rfl (lv_at hl 1 rfl) ?_
    refine m_gr (j := 2) (C := "Ballothall") (T := TX11) (N := 14) (ci := 11) (k := 0) hx hb hts iX11 hown hG hP (yi_1 hL) (yt_1 hL) rfl (by decide) w_397 (fun _ h9 => h9) rfl rfl (yr_1_0 hL) d_1_2_23 ?_
    refine m_grN (j := 4) (C := "Ballothall$BallotBox") (T := TX0) (N := 10) (ci := 0) (k := 4) hx hb hts iX0 hown hG hP (yi_2 hL) (yt_2 hL) rfl (by decide) n_62 rfl (fun _ h9 => h9) rfl rfl (yr_2_4 hL) d_1_2_26 ?_
    refine lv_iload_n hx hb d_1_2_29 rfl (lv_at hl 0 rfl) ?_
    refine lv_iload_n hx hb d_1_2_30 rfl (lv_at hl 0 rfl) ?_
    obtain ⟨ok1, h⟩ := ck_e h
    refine m_is hx hb hG hP hD hS (yi_4 hL) (yt_4 hL) ok1 d_1_2_31 (fun H locs hP hD hS => ?_)
    have hP : va_P z.1 classes (wv z ad E (u2 M0 4 (M0.1 2 2).toNatClampNeg (M0.1 2 2))) H := hP
    have hD : va_D A (wv z ad E (u2 M0 4 (M0.1 2 2).toNatClampNeg (M0.1 2 2))) := hD
    refine lv_aload_n hx hb d_1_2_32 rfl (lv_at hl 1 rfl) ?_
    refine m_gr (j := 2) (C := "Ballothall") (T := TX11) (N := 14) (ci := 11) (k := 0) hx hb hts iX11 hown hG hP (yi_1 hL) (yt_1 hL) rfl (by decide) w_397 (fun _ h9 => h9) rfl rfl (yr_1_0 hL) d_1_2_33 ?_
    refine lv_dup hx hb d_1_2_36 rfl ?_
    refine m_giN (C := "Ballothall$BallotBox") (T := TX0) (N := 10) (ci := 0) (k := 2) hx hb hts iX0 hown hG hP (yi_2 hL) (yt_2 hL) rfl (by decide) n_52 rfl (fun _ h9 => h9) rfl rfl d_1_2_37 ?_
    refine lv_iconst (v := 1) hx hb d_1_2_40 (by decide +kernel) ?_
    refine lv_iadd hx hb d_1_2_41 ?_
    refine m_piN (C := "Ballothall$BallotBox") (T := TX0) (N := 10) (ci := 0) (k := 2) (ty := .int) hx hb hts iX0 hown hG hP hD hS (yi_2 hL) (yt_2 hL) rfl (by decide) n_52 rfl (fun _ h9 => h9) rfl rfl tyX0_ok nmX0 rfl (by decide +kernel) rfl rfl d_1_2_42 (fun H locs hP hD hS => ?_)
    have hP : va_P z.1 classes (wv z ad E (u2 (u2 M0 4 (M0.1 2 2).toNatClampNeg (M0.1 2 2)) 2 2 (((u2 M0 4 (M0.1 2 2).toNatClampNeg (M0.1 2 2)).1 2 2) + (1 : Int32)))) H := hP
    have hD : va_D A (wv z ad E (u2 (u2 M0 4 (M0.1 2 2).toNatClampNeg (M0.1 2 2)) 2 2 (((u2 M0 4 (M0.1 2 2).toNatClampNeg (M0.1 2 2)).1 2 2) + (1 : Int32)))) := hD
    obtain ⟨M2, e2, h⟩ := nb_e h
    rw [← e2] at hP hD
    refine lv_aload_n hx hb d_1_2_45 rfl (lv_at hl 1 rfl) ?_
    refine lv_iconst (v := 0) hx hb d_1_2_46 (by decide +kernel) ?_
    refine lv_iload_n hx hb d_1_2_47 rfl (lv_at hl 0 rfl) ?_
    refine lv_iconst (v := 0) hx hb d_1_2_48 (by decide +kernel) ?_
    obtain ⟨M3, g3, h⟩ := bd_e h
    refine kV (As := [.int 0, .int (M0.1 2 2), .int 0]) (rest := []) (s_B_remember l z ad E M2 0 (M0.1 2 2) 0 M3 hL g3) hx hb hml hown hts w_519 w_516 w_518 w_s_b872b3 w_1 md_7af0bb ⟨Nat.le_of_ble_eq_true rfl, Nat.le_of_ble_eq_true rfl⟩ hG hZ hP hD hS hA 1 (wv_o (ci := 11) (yi_1 hL) (yt_1 hL)) rfl rfl rfl hl.1 rfl (Nat.le_of_ble_eq_true rfl) d_1_2_49 ⟨Nat.le_of_ble_eq_true rfl, Nat.le_of_ble_eq_true rfl⟩ (fun _ H locs hP hD hS => ?_)
    have hP : va_P z.1 classes (wv z ad E M3) H := hP
    have hD : va_D A (wv z ad E M3) := hD
    refine W.eq (g2 := F0 m 52 ls []) rfl ?_
    refine lv_iload_n hx hb d_1_2_52 rfl (lv_at hl 0 rfl) ?_
    obtain ⟨rfl, rfl⟩ := in2 h
    exact W.iret hx hb hr (fun t ht hW => qkA hP hD hS (fun k => k) rfl rfl ht) hS.2.2 d_1_2_53
  exact key _ _ _ hts hP hS
set_option maxRecDepth 100000 in
set_option maxHeartbeats 4000000 in
theorem s_B_needPlace (l : Launch) (z : Zz) (ad : Nat → Nat) (E : Ev) (M : Mm) (x0 : Int32) (x1 : Int32) (N : Mm) (hL : Lay E) (h : f_B_needPlace E M x0 x1 = some N) : CT l z ⟨"Ballothall", "needPlace", "(II)V"⟩ prog_1_method_59_code 2 none [.int x0, .int x1] (wv z ad E M) 0 20 0 0 (fun _ => none) (fun _ => wv z ad E N) := by
  refine CT.of (own := "Ballothall") (by decide +kernel) (Nat.le_of_ble_eq_true rfl) rfl (fun p e s m below meth c A ls hx hb hml hr hts hown hlocks hin hA hG hZ hP hD hS hl => ?_)
  have hl : lv_has ls 2 [(0, .int x0), (1, .int x1)] := hl
  have key : ∀ (H : Heap) (locs : List Loc) (args : Array Value), (∀ w ∈ WG, w.before args s = true) → va_P z.1 classes (wv z ad E M) H → va_S A s.heap H locs → W p l e (rmK 0 20 0 0) s m args below meth c H locs 0 0 (MQ below (QK z A (fun _ => none) (fun _ => wv z ad E N)) args s 0 0 A) (F0 m 0 ls []) := by
    intro H locs args hts hP hS
    unfold f_B_needPlace at h
    refine lv_iload_n hx hb d_1_59_0 rfl (lv_at hl 0 rfl) ?_
    refine lv_if_lt (tgt := 9) hx hb d_1_59_1 (by decide) (fun c9 => ?_) (fun c9 => ?_)
    · have h := ite_t c9 h
      cases h
    · have h := ite_f c9 h
      refine lv_iload_n hx hb d_1_59_4 rfl (lv_at hl 0 rfl) ?_
      refine lv_iload_n hx hb d_1_59_5 rfl (lv_at hl 1 rfl) ?_
      refine lv_icmp_lt (tgt := 20) hx hb d_1_59_6 (by decide) (fun c9 => ?_) (fun c9 => ?_)
      · have h := ite_t c9 h
        obtain rfl := in1 h
        exact W.vret hx hb hr (fun t ht hW => qkA hP hD hS (fun k => k) rfl rfl ht) hS.2.2 d_1_59_20
      · have h := ite_f c9 h
        cases h
  exact key _ _ _ hts hP hS
set_option maxRecDepth 100000 in
set_option maxHeartbeats 4000000 in
theorem b_Po_distanceWithFirst_19b (l : Launch) (z : Zz) (ad : Nat → Nat) (E : Ev) (M : Mm) (x2 : Int32) (x3 : Int32) (x4 : Int64) (x6 : Int32) (t : Nat) (w4 : Int64) (w6 : Int32) (N : Mm) {Q : State → Prop} {p : Program} {e : Env} {s : State} {m : MethodId} {below : List Frame} {meth : Method} {c : Code} {A : Nat → Prop} {args : Array Value} (hx : p.tables.exec = Jvm.exec) (hb : c.code = prog_11_method_16_code) (hml : c.maxLocals = 7) (hts : ∀ w ∈ WG, w.before args s = true) (hown : s.vm.findClass "Ballothall$Poll" = some m.cls) (hlocks : meth.locks = false) (hA : ∀ q, s.heap.size ≤ q → A q) (hG : KG z s) (hZ : FZ z A s) (hL : Lay E) (h : Po_distanceWithFirst_19b E M x2 x3 x4 x6 = some (t, w4, w6, N)) (k0 : t = 0 → ∀ (H : Heap) (locs : List Loc) (ls : Array Slot), va_P z.1 classes (wv z ad E N) H → va_D A (wv z ad E N) → va_S A s.heap H locs → lv_has ls 7 [(0, .ref (ad 41)), (2, .int x2), (3, .int x3), (4, .long w4), (6, .int w6)] → W p l e (rmK 1 42 0 0) s m args below meth c H locs 0 0 Q (F0 m 19 ls [])) (k1 : t = 1 → ∀ (H : Heap) (locs : List Loc) (ls : Array Slot), va_P z.1 classes (wv z ad E N) H → va_D A (wv z ad E N) → va_S A s.heap H locs → lv_has ls 7 [(4, .long w4)] → W p l e (rmK 1 42 0 0) s m args below meth c H locs 0 0 Q (F0 m 59 ls [])) : ∀ (H : Heap) (locs : List Loc) (ls : Array Slot), va_P z.1 classes (wv z ad E M) H → va_D A (wv z ad E M) → va_S A s.heap H locs → lv_has ls 7 [(0, .ref (ad 41)), (2, .int x2), (3, .int x3), (4, .long x4), (6, .int x6)] → W p l e (rmK 1 42 0 0) s m args below meth c H locs 0 0 Q (F0 m 19 ls []) := by
  intro H locs ls hP hD hS hl
  unfold Po_distanceWithFirst_19b at h
  refine lv_iload hx hb d_11_16_19 (lv_at hl 4 rfl) ?_
  refine lv_aload_n hx hb d_11_16_21 rfl (lv_at hl 0 rfl) ?_
  refine m_gr (j := 2) (C := "Ballothall$Poll") (T := TX9) (N := 12) (ci := 9) (k := 0) hx hb hts iX9 hown hG hP (yi_41 hL) (yt_41 hL) rfl (by decide) w_107 (fun _ h9 => h9) rfl rfl (yr_41_0 hL) d_11_16_22 ?_
  refine m_giN (C := "Ballothall$BallotBox") (T := TX0) (N := 10) (ci := 0) (k := 2) hx hb hts iX0 hown hG hP (yi_2 hL) (yt_2 hL) rfl (by decide) n_53 rfl (fun _ h9 => h9) rfl rfl d_11_16_25 ?_
  refine lv_icmp_ge (tgt := 59) hx hb d_11_16_28 (by decide) (fun c9 => ?_) (fun c9 => ?_)
  · have h := ite_t c9 h
    obtain ⟨rfl, rfl, rfl, rfl⟩ := in4 h
    exact k1 rfl H locs ls hP hD hS (lv_sub hl [3] rfl)
  · have h := ite_f c9 h
    refine lv_iload_n hx hb d_11_16_31 rfl (lv_at hl 2 rfl) ?_
    refine lv_iload hx hb d_11_16_32 (lv_at hl 4 rfl) ?_
    obtain ⟨⟨r2, M2⟩, g2, h⟩ := bd_e h
    refine kSN (As := [.int x3, .int x6]) (rest := []) (s_B_has l z ad E M x3 x6 r2 M2 hL g2) hx hb hml hown hts w_693 n_691 w_692 w_1 md_26545c ⟨Nat.le_of_ble_eq_true rfl, Nat.le_of_ble_eq_true rfl⟩ hG hZ hP hD hS hA rfl hl.1 rfl (Nat.le_of_ble_eq_true rfl) d_11_16_34 ⟨Nat.le_of_ble_eq_true rfl, Nat.le_of_ble_eq_true rfl⟩ (fun _ H locs hP hD hS => ?_)
    have hP : va_P z.1 classes (wv z ad E M2) H := hP
    have hD : va_D A (wv z ad E M2) := hD
    refine W.eq (g2 := F0 m 37 ls [.int r2]) rfl ?_
    refine lv_if_eq (tgt := 53) hx hb d_11_16_37 (by decide) (fun c9 => ?_) (fun c9 => ?_)
    · have h := ite_t c9 h
      refine lv_iinc (v := (x6 + 1)) (lv' := [(6, .int (x6 + 1)), (0, .ref (ad 41)), (2, .int x2), (3, .int x3), (4, .long x4)]) hx hb d_11_16_53 hl (k := 4) rfl (congrArg (fun q => x6 + q) (show Int32.ofInt 1 = 1 by decide +kernel)) (by decide) rfl (fun ls hl => ?_)
      refine lv_goto (tgt := 19) hx hb d_11_16_56 (by decide) ?_
      obtain ⟨rfl, rfl, rfl, rfl⟩ := in4 h
      exact k0 rfl H locs ls hP hD hS (lv_sub hl [1, 2, 3, 4, 0] rfl)
    · have h := ite_f c9 h
      refine lv_lload hx hb d_11_16_40 (lv_at hl 3 rfl) ?_
      refine lv_aload_n hx hb d_11_16_42 rfl (lv_at hl 0 rfl) ?_
      refine lv_iload hx hb d_11_16_43 (lv_at hl 4 rfl) ?_
      refine lv_iload_n hx hb d_11_16_45 rfl (lv_at hl 1 rfl) ?_
      obtain ⟨⟨r3, M3⟩, g3, h⟩ := bd_e h
      refine kV (As := [.int x6, .int x2]) (rest := [.long x4]) (s_Po_pair l z ad E M2 x6 x2 r3 M3 hL g3) hx hb hml hown hts w_709 w_706 w_708 w_s_776300 w_3 md_5a94c2 ⟨Nat.le_of_ble_eq_true rfl, Nat.le_of_ble_eq_true rfl⟩ hG hZ hP hD hS hA 41 (wv_o (ci := 9) (yi_41 hL) (yt_41 hL)) rfl rfl rfl hl.1 rfl (Nat.le_of_ble_eq_true rfl) d_11_16_46 ⟨Nat.le_of_ble_eq_true rfl, Nat.le_of_ble_eq_true rfl⟩ (fun _ H locs hP hD hS => ?_)
      have hP : va_P z.1 classes (wv z ad E M3) H := hP
      have hD : va_D A (wv z ad E M3) := hD
      refine W.eq (g2 := F0 m 49 ls [.int r3, .long x4]) rfl ?_
      refine lv_i2l (v := r3.toInt64) hx hb d_11_16_49 rfl ?_
      refine lv_ladd hx hb d_11_16_50 ?_
      refine lv_lstore (lv' := [(4, .long (x4 + r3.toInt64)), (0, .ref (ad 41)), (2, .int x2), (3, .int x3), (6, .int x6)]) hx hb d_11_16_51 hl (by decide) rfl (fun ls hl => ?_)
      refine lv_iinc (v := (x6 + 1)) (lv' := [(6, .int (x6 + 1)), (4, .long (x4 + r3.toInt64)), (0, .ref (ad 41)), (2, .int x2), (3, .int x3)]) hx hb d_11_16_53 hl (k := 4) rfl (congrArg (fun q => x6 + q) (show Int32.ofInt 1 = 1 by decide +kernel)) (by decide) rfl (fun ls hl => ?_)
      refine lv_goto (tgt := 19) hx hb d_11_16_56 (by decide) ?_
      obtain ⟨rfl, rfl, rfl, rfl⟩ := in4 h
      exact k0 rfl H locs ls hP hD hS (lv_sub hl [2, 3, 4, 1, 0] rfl)
set_option maxRecDepth 100000 in
set_option maxHeartbeats 4000000 in
theorem s_Po_distanceWithFirst_19 (l : Launch) (z : Zz) (ad : Nat → Nat) (E : Ev) (x2 : Int32) (x3 : Int32) {Q : State → Prop} {p : Program} {e : Env} {s : State} {m : MethodId} {below : List Frame} {meth : Method} {c : Code} {A : Nat → Prop} {args : Array Value} (hx : p.tables.exec = Jvm.exec) (hb : c.code = prog_11_method_16_code) (hml : c.maxLocals = 7) (hts : ∀ w ∈ WG, w.before args s = true) (hown : s.vm.findClass "Ballothall$Poll" = some m.cls) (hlocks : meth.locks = false) (hA : ∀ q, s.heap.size ≤ q → A q) (hG : KG z s) (hZ : FZ z A s) (hL : Lay E) : ∀ (fu : Nat) (M : Mm) (x4 : Int64) (x6 : Int32) (t : Nat) (w4 : Int64) (w6 : Int32) (N : Mm), l_Po_distanceWithFirst_19 E x2 x3 fu M x4 x6 = some (t, w4, w6, N) → (t = 1 → ∀ (H : Heap) (locs : List Loc) (ls : Array Slot), va_P z.1 classes (wv z ad E N) H → va_D A (wv z ad E N) → va_S A s.heap H locs → lv_has ls 7 [(4, .long w4)] → W p l e (rmK 1 42 0 0) s m args below meth c H locs 0 0 Q (F0 m 59 ls [])) → ∀ (H : Heap) (locs : List Loc) (ls : Array Slot), va_P z.1 classes (wv z ad E M) H → va_D A (wv z ad E M) → va_S A s.heap H locs → lv_has ls 7 [(0, .ref (ad 41)), (2, .int x2), (3, .int x3), (4, .long x4), (6, .int x6)] → W p l e (rmK 1 42 0 0) s m args below meth c H locs 0 0 Q (F0 m 19 ls []) := by
  intro fu
  induction fu with
  | zero =>
    intro M x4 x6 t w4 w6 N h
    have h : (none : Option (Nat × Int64 × Int32 × Mm)) = some _ := h
    cases h
  | succ fu ih =>
    intro M x4 x6 t w4 w6 N h k1 H locs ls hP hD hS hl
    obtain ⟨⟨t0, w40, w60, N0⟩, g0, h⟩ := bd_e h
    refine b_Po_distanceWithFirst_19b l z ad E M x2 x3 x4 x6 t0 w40 w60 N0 hx hb hml hts hown hlocks hA hG hZ hL g0 (fun e0 => ?_) (fun e0 => ?_) H locs ls hP hD hS hl
    · subst e0
      have h := ite_t rfl h
      exact ih N0 w40 w60 t w4 w6 N h k1
    · subst e0
      have h := ite_f (by decide) h
      obtain ⟨rfl, rfl, rfl, rfl⟩ := in4 h
      exact k1 rfl
set_option maxRecDepth 100000 in
set_option maxHeartbeats 4000000 in
theorem s_Po_distanceWithFirst (l : Launch) (z : Zz) (ad : Nat → Nat) (E : Ev) (M : Mm) (x1 : Int32) (x2 : Int32) (r : Int64) (N : Mm) (hL : Lay E) (h : f_Po_distanceWithFirst E M x1 x2 = some (r, N)) : CT l z ⟨"Ballothall$Poll", "distanceWithFirst", "(II)J"⟩ prog_11_method_16_code 7 (some .long) [.ref (ad 41), .int x1, .int x2] (wv z ad E M) 1 42 0 0 (fun _ => some (.long r)) (fun _ => wv z ad E N) := by
  refine CT.of (own := "Ballothall$Poll") (by decide +kernel) (Nat.le_of_ble_eq_true rfl) rfl (fun p e s m below meth c A ls hx hb hml hr hts hown hlocks hin hA hG hZ hP hD hS hl => ?_)
  have hl : lv_has ls 7 [(0, .ref (ad 41)), (1, .int x1), (2, .int x2)] := hl
  have key : ∀ (H : Heap) (locs : List Loc) (args : Array Value), (∀ w ∈ WG, w.before args s = true) → va_P z.1 classes (wv z ad E M) H → va_S A s.heap H locs → W p l e (rmK 1 42 0 0) s m args below meth c H locs 0 0 (MQ below (QK z A (fun _ => some (.long r)) (fun _ => wv z ad E N)) args s 0 0 A) (F0 m 0 ls []) := by
    intro H locs args hts hP hS
    unfold f_Po_distanceWithFirst at h
    refine lv_iload_n hx hb d_11_16_0 rfl (lv_at hl 1 rfl) ?_
    refine lv_iconst (v := 1) hx hb d_11_16_1 (by decide +kernel) ?_
    refine lv_iload_n hx hb d_11_16_2 rfl (lv_at hl 2 rfl) ?_
    refine lv_ishl hx hb d_11_16_3 ?_
    refine lv_iconst (v := (-1)) hx hb d_11_16_4 (by decide +kernel) ?_
    refine lv_ixor hx hb d_11_16_5 ?_
    refine lv_iand hx hb d_11_16_6 ?_
    obtain ⟨v0, e0, h⟩ := nb_e h
    refine nrm e0.symm ?_
    refine lv_istore_n (lv' := [(3, .int v0), (0, .ref (ad 41)), (1, .int x1), (2, .int x2)]) hx hb d_11_16_7 rfl hl (by decide) rfl (fun ls hl => ?_)
    refine lv_aload_n hx hb d_11_16_8 rfl (lv_at hl 1 rfl) ?_
    refine m_gr (j := 50) (C := "Ballothall$Poll") (T := TX9) (N := 12) (ci := 9) (k := 11) hx hb hts iX9 hown hG hP (yi_41 hL) (yt_41 hL) rfl (by decide) w_118 (fun _ h9 => h9) rfl rfl (yr_41_11 hL) d_11_16_9 ?_
    refine lv_iload_n hx hb d_11_16_12 rfl (lv_at hl 0 rfl) ?_
    obtain ⟨ok1, h⟩ := ck_e h
    refine m_la hx hb hG hP (yi_50 hL) (yt_50 hL) ok1 d_11_16_13 ?_
    refine lv_lstore (lv' := [(4, .long (M.2 50 v0.toNatClampNeg)), (3, .int v0), (0, .ref (ad 41)), (1, .int x1), (2, .int x2)]) hx hb d_11_16_14 hl (by decide) rfl (fun ls hl => ?_)
    refine lv_iconst (v := 0) hx hb d_11_16_16 (by decide +kernel) ?_
    refine lv_istore (lv' := [(6, .int 0), (4, .long (M.2 50 v0.toNatClampNeg)), (3, .int v0), (0, .ref (ad 41)), (1, .int x1), (2, .int x2)]) hx hb d_11_16_17 hl (by decide) rfl (fun ls hl => ?_)
    obtain ⟨⟨t4, v4_4, v4_6, M4⟩, g4, h⟩ := bd_e h
    obtain ⟨ok4, h⟩ := ck_e h
    refine s_Po_distanceWithFirst_19 l z ad E x2 v0 hx hb hml hts hown hlocks hA hG hZ hL FU M (M.2 50 v0.toNatClampNeg) 0 t4 v4_4 v4_6 M4 g4 (fun e4 H locs ls hP hD hS hl => ?_) H locs ls hP hD hS (lv_sub hl [3, 5, 2, 1, 0] rfl)
    refine lv_lload hx hb d_11_16_59 (lv_at hl 0 rfl) ?_
    obtain ⟨rfl, rfl⟩ := in2 h
    exact W.lret hx hb hr (fun t ht hW => qkA hP hD hS (fun k => k) rfl rfl ht) hS.2.2 d_11_16_61
  exact key _ _ _ hts hP hS
set_option maxRecDepth 100000 in
set_option maxHeartbeats 4000000 in
theorem b_Po_findDistances_24b (l : Launch) (z : Zz) (ad : Nat → Nat) (E : Ev) (M : Mm) (x1 : Int32) (x2 : Int64) (x4 : Int32) (t : Nat) (w2 : Int64) (w4 : Int32) (N : Mm) {Q : State → Prop} {p : Program} {e : Env} {s : State} {m : MethodId} {below : List Frame} {meth : Method} {c : Code} {A : Nat → Prop} {args : Array Value} (hx : p.tables.exec = Jvm.exec) (hb : c.code = prog_11_method_15_code) (hml : c.maxLocals = 7) (hts : ∀ w ∈ WG, w.before args s = true) (hown : s.vm.findClass "Ballothall$Poll" = some m.cls) (hlocks : meth.locks = false) (hA : ∀ q, s.heap.size ≤ q → A q) (hG : KG z s) (hZ : FZ z A s) (hL : Lay E) (h : Po_findDistances_24b E M x1 x2 x4 = some (t, w2, w4, N)) (k0 : t = 0 → ∀ (H : Heap) (locs : List Loc) (ls : Array Slot), va_P z.1 classes (wv z ad E N) H → va_D A (wv z ad E N) → va_S A s.heap H locs → lv_has ls 7 [(0, .ref (ad 41)), (1, .int x1), (2, .long w2), (4, .int w4)] → W p l e (rmK 2 68 0 0) s m args below meth c H locs 0 0 Q (F0 m 24 ls [])) (k1 : t = 1 → ∀ (H : Heap) (locs : List Loc) (ls : Array Slot), va_P z.1 classes (wv z ad E N) H → va_D A (wv z ad E N) → va_S A s.heap H locs → lv_has ls 7 [(0, .ref (ad 41)), (1, .int x1), (2, .long w2)] → W p l e (rmK 2 68 0 0) s m args below meth c H locs 0 0 Q (F0 m 80 ls [])) : ∀ (H : Heap) (locs : List Loc) (ls : Array Slot), va_P z.1 classes (wv z ad E M) H → va_D A (wv z ad E M) → va_S A s.heap H locs → lv_has ls 7 [(0, .ref (ad 41)), (1, .int x1), (2, .long x2), (4, .int x4)] → W p l e (rmK 2 68 0 0) s m args below meth c H locs 0 0 Q (F0 m 24 ls []) := by
  intro H locs ls hP hD hS hl
  unfold Po_findDistances_24b at h
  refine lv_iload hx hb d_11_15_24 (lv_at hl 3 rfl) ?_
  refine lv_aload_n hx hb d_11_15_26 rfl (lv_at hl 0 rfl) ?_
  refine m_gr (j := 2) (C := "Ballothall$Poll") (T := TX9) (N := 12) (ci := 9) (k := 0) hx hb hts iX9 hown hG hP (yi_41 hL) (yt_41 hL) rfl (by decide) w_107 (fun _ h9 => h9) rfl rfl (yr_41_0 hL) d_11_15_27 ?_
  refine m_giN (C := "Ballothall$BallotBox") (T := TX0) (N := 10) (ci := 0) (k := 2) hx hb hts iX0 hown hG hP (yi_2 hL) (yt_2 hL) rfl (by decide) n_53 rfl (fun _ h9 => h9) rfl rfl d_11_15_30 ?_
  refine lv_icmp_ge (tgt := 80) hx hb d_11_15_33 (by decide) (fun c9 => ?_) (fun c9 => ?_)
  · have h := ite_t c9 h
    obtain ⟨rfl, rfl, rfl, rfl⟩ := in4 h
    exact k1 rfl H locs ls hP hD hS (lv_sub hl [0, 1, 2] rfl)
  · have h := ite_f c9 h
    refine lv_iload_n hx hb d_11_15_36 rfl (lv_at hl 1 rfl) ?_
    refine lv_iload hx hb d_11_15_37 (lv_at hl 3 rfl) ?_
    obtain ⟨⟨r0, M0⟩, g0, h⟩ := bd_e h
    refine kSN (As := [.int x1, .int x4]) (rest := []) (s_B_has l z ad E M x1 x4 r0 M0 hL g0) hx hb hml hown hts w_693 n_691 w_692 w_1 md_26545c ⟨Nat.le_of_ble_eq_true rfl, Nat.le_of_ble_eq_true rfl⟩ hG hZ hP hD hS hA rfl hl.1 rfl (Nat.le_of_ble_eq_true rfl) d_11_15_39 ⟨Nat.le_of_ble_eq_true rfl, Nat.le_of_ble_eq_true rfl⟩ (fun _ H locs hP hD hS => ?_)
    have hP : va_P z.1 classes (wv z ad E M0) H := hP
    have hD : va_D A (wv z ad E M0) := hD
    refine W.eq (g2 := F0 m 42 ls [.int r0]) rfl ?_
    refine lv_if_eq (tgt := 74) hx hb d_11_15_42 (by decide) (fun c9 => ?_) (fun c9 => ?_)
    · have h := ite_t c9 h
      refine lv_iinc (v := (x4 + 1)) (lv' := [(4, .int (x4 + 1)), (0, .ref (ad 41)), (1, .int x1), (2, .long x2)]) hx hb d_11_15_74 hl (k := 3) rfl (congrArg (fun q => x4 + q) (show Int32.ofInt 1 = 1 by decide +kernel)) (by decide) rfl (fun ls hl => ?_)
      refine lv_goto (tgt := 24) hx hb d_11_15_77 (by decide) ?_
      obtain ⟨rfl, rfl, rfl, rfl⟩ := in4 h
      exact k0 rfl H locs ls hP hD hS (lv_sub hl [1, 2, 3, 0] rfl)
    · have h := ite_f c9 h
      refine lv_aload_n hx hb d_11_15_45 rfl (lv_at hl 0 rfl) ?_
      refine lv_iload_n hx hb d_11_15_46 rfl (lv_at hl 1 rfl) ?_
      refine lv_iload hx hb d_11_15_47 (lv_at hl 3 rfl) ?_
      obtain ⟨⟨r1, M1⟩, g1, h⟩ := bd_e h
      refine kV (As := [.int x1, .int x4]) (rest := []) (s_Po_distanceWithFirst l z ad E M0 x1 x4 r1 M1 hL g1) hx hb hml hown hts w_718 w_715 w_717 w_s_a1b3b1 w_3 md_aaaef5 ⟨Nat.le_of_ble_eq_true rfl, Nat.le_of_ble_eq_true rfl⟩ hG hZ hP hD hS hA 41 (wv_o (ci := 9) (yi_41 hL) (yt_41 hL)) rfl rfl rfl hl.1 rfl (Nat.le_of_ble_eq_true rfl) d_11_15_49 ⟨Nat.le_of_ble_eq_true rfl, Nat.le_of_ble_eq_true rfl⟩ (fun _ H locs hP hD hS => ?_)
      have hP : va_P z.1 classes (wv z ad E M1) H := hP
      have hD : va_D A (wv z ad E M1) := hD
      refine W.eq (g2 := F0 m 52 ls [.long r1]) rfl ?_
      refine lv_lstore (lv' := [(5, .long r1), (0, .ref (ad 41)), (1, .int x1), (2, .long x2), (4, .int x4)]) hx hb d_11_15_52 hl (by decide) rfl (fun ls hl => ?_)
      refine lv_lload_n hx hb d_11_15_54 rfl (lv_at hl 3 rfl) ?_
      refine lv_ldc2 hx hb hown (hts _ w_714) d_11_15_55 ?_
      refine W.lcmp hx hb d_11_15_58 ?_
      refine lv_if_ne (tgt := 67) hx hb d_11_15_59 (by decide) (fun c9 => ?_) (fun c9 => ?_)
      · have h := ite_f c9 h
        refine lv_lload_n hx hb d_11_15_67 rfl (lv_at hl 3 rfl) ?_
        refine lv_lload hx hb d_11_15_68 (lv_at hl 0 rfl) ?_
        refine va_mmin_long hx hb (by rw [hml]; exact hl.1.symm) hown (hts _ w_719) (hts _ w_720) (hts _ w_17) (hts _ w_minL) (Nat.le_of_ble_eq_true rfl) (Nat.le_of_ble_eq_true rfl) (Nat.le_of_ble_eq_true rfl) (Nat.le_of_ble_eq_true rfl) d_11_15_70 ?_
        refine lv_lstore_n (lv' := [(2, .long (mnL x2 r1)), (5, .long r1), (0, .ref (ad 41)), (1, .int x1), (4, .int x4)]) hx hb d_11_15_73 rfl hl (by decide) rfl (fun ls hl => ?_)
        refine lv_iinc (v := (x4 + 1)) (lv' := [(4, .int (x4 + 1)), (2, .long (mnL x2 r1)), (5, .long r1), (0, .ref (ad 41)), (1, .int x1)]) hx hb d_11_15_74 hl (k := 4) rfl (congrArg (fun q => x4 + q) (show Int32.ofInt 1 = 1 by decide +kernel)) (by decide) rfl (fun ls hl => ?_)
        refine lv_goto (tgt := 24) hx hb d_11_15_77 (by decide) ?_
        obtain ⟨rfl, rfl, rfl, rfl⟩ := in4 h
        exact k0 rfl H locs ls hP hD hS (lv_sub hl [3, 4, 1, 0] rfl)
      · have h := ite_t c9 h
        refine lv_lload hx hb d_11_15_62 (lv_at hl 0 rfl) ?_
        refine lv_goto (tgt := 73) hx hb d_11_15_64 (by decide) ?_
        refine lv_lstore_n (lv' := [(2, .long r1), (5, .long r1), (0, .ref (ad 41)), (1, .int x1), (4, .int x4)]) hx hb d_11_15_73 rfl hl (by decide) rfl (fun ls hl => ?_)
        refine lv_iinc (v := (x4 + 1)) (lv' := [(4, .int (x4 + 1)), (2, .long r1), (5, .long r1), (0, .ref (ad 41)), (1, .int x1)]) hx hb d_11_15_74 hl (k := 4) rfl (congrArg (fun q => x4 + q) (show Int32.ofInt 1 = 1 by decide +kernel)) (by decide) rfl (fun ls hl => ?_)
        refine lv_goto (tgt := 24) hx hb d_11_15_77 (by decide) ?_
        obtain ⟨rfl, rfl, rfl, rfl⟩ := in4 h
        exact k0 rfl H locs ls hP hD hS (lv_sub hl [3, 4, 1, 0] rfl)
set_option maxRecDepth 100000 in
set_option maxHeartbeats 4000000 in
theorem s_Po_findDistances_24 (l : Launch) (z : Zz) (ad : Nat → Nat) (E : Ev) (x1 : Int32) {Q : State → Prop} {p : Program} {e : Env} {s : State} {m : MethodId} {below : List Frame} {meth : Method} {c : Code} {A : Nat → Prop} {args : Array Value} (hx : p.tables.exec = Jvm.exec) (hb : c.code = prog_11_method_15_code) (hml : c.maxLocals = 7) (hts : ∀ w ∈ WG, w.before args s = true) (hown : s.vm.findClass "Ballothall$Poll" = some m.cls) (hlocks : meth.locks = false) (hA : ∀ q, s.heap.size ≤ q → A q) (hG : KG z s) (hZ : FZ z A s) (hL : Lay E) : ∀ (fu : Nat) (M : Mm) (x2 : Int64) (x4 : Int32) (t : Nat) (w2 : Int64) (w4 : Int32) (N : Mm), l_Po_findDistances_24 E x1 fu M x2 x4 = some (t, w2, w4, N) → (t = 1 → ∀ (H : Heap) (locs : List Loc) (ls : Array Slot), va_P z.1 classes (wv z ad E N) H → va_D A (wv z ad E N) → va_S A s.heap H locs → lv_has ls 7 [(0, .ref (ad 41)), (1, .int x1), (2, .long w2)] → W p l e (rmK 2 68 0 0) s m args below meth c H locs 0 0 Q (F0 m 80 ls [])) → ∀ (H : Heap) (locs : List Loc) (ls : Array Slot), va_P z.1 classes (wv z ad E M) H → va_D A (wv z ad E M) → va_S A s.heap H locs → lv_has ls 7 [(0, .ref (ad 41)), (1, .int x1), (2, .long x2), (4, .int x4)] → W p l e (rmK 2 68 0 0) s m args below meth c H locs 0 0 Q (F0 m 24 ls []) := by
  intro fu
  induction fu with
  | zero =>
    intro M x2 x4 t w2 w4 N h
    have h : (none : Option (Nat × Int64 × Int32 × Mm)) = some _ := h
    cases h
  | succ fu ih =>
    intro M x2 x4 t w2 w4 N h k1 H locs ls hP hD hS hl
    obtain ⟨⟨t0, w20, w40, N0⟩, g0, h⟩ := bd_e h
    refine b_Po_findDistances_24b l z ad E M x1 x2 x4 t0 w20 w40 N0 hx hb hml hts hown hlocks hA hG hZ hL g0 (fun e0 => ?_) (fun e0 => ?_) H locs ls hP hD hS hl
    · subst e0
      have h := ite_t rfl h
      exact ih N0 w20 w40 t w2 w4 N h k1
    · subst e0
      have h := ite_f (by decide) h
      obtain ⟨rfl, rfl, rfl, rfl⟩ := in4 h
      exact k1 rfl
set_option maxRecDepth 100000 in
set_option maxHeartbeats 4000000 in
theorem b_Po_findDistances_9b (l : Launch) (z : Zz) (ad : Nat → Nat) (E : Ev) (M : Mm) (x1 : Int32) (t : Nat) (w1 : Int32) (N : Mm) {Q : State → Prop} {p : Program} {e : Env} {s : State} {m : MethodId} {below : List Frame} {meth : Method} {c : Code} {A : Nat → Prop} {args : Array Value} (hx : p.tables.exec = Jvm.exec) (hb : c.code = prog_11_method_15_code) (hml : c.maxLocals = 7) (hts : ∀ w ∈ WG, w.before args s = true) (hown : s.vm.findClass "Ballothall$Poll" = some m.cls) (hlocks : meth.locks = false) (hA : ∀ q, s.heap.size ≤ q → A q) (hG : KG z s) (hZ : FZ z A s) (hL : Lay E) (h : Po_findDistances_9b E M x1 = some (t, w1, N)) (k0 : t = 0 → ∀ (H : Heap) (locs : List Loc) (ls : Array Slot), va_P z.1 classes (wv z ad E N) H → va_D A (wv z ad E N) → va_S A s.heap H locs → lv_has ls 7 [(0, .ref (ad 41)), (1, .int w1)] → W p l e (rmK 2 68 0 0) s m args below meth c H locs 0 0 Q (F0 m 9 ls [])) (k1 : t = 1 → ∀ (H : Heap) (locs : List Loc) (ls : Array Slot), va_P z.1 classes (wv z ad E N) H → va_D A (wv z ad E N) → va_S A s.heap H locs → lv_has ls 7 [] → W p l e (rmK 2 68 0 0) s m args below meth c H locs 0 0 Q (F0 m 93 ls [])) : ∀ (H : Heap) (locs : List Loc) (ls : Array Slot), va_P z.1 classes (wv z ad E M) H → va_D A (wv z ad E M) → va_S A s.heap H locs → lv_has ls 7 [(0, .ref (ad 41)), (1, .int x1)] → W p l e (rmK 2 68 0 0) s m args below meth c H locs 0 0 Q (F0 m 9 ls []) := by
  intro H locs ls hP hD hS hl
  unfold Po_findDistances_9b at h
  refine lv_iload_n hx hb d_11_15_9 rfl (lv_at hl 1 rfl) ?_
  refine lv_aload_n hx hb d_11_15_10 rfl (lv_at hl 0 rfl) ?_
  refine m_gi (C := "Ballothall$Poll") (T := TX9) (N := 12) (ci := 9) (k := 1) hx hb hts iX9 hown hG hP (yi_41 hL) (yt_41 hL) rfl (by decide) w_108 (fun _ h9 => h9) rfl rfl d_11_15_11 ?_
  refine lv_icmp_gt (tgt := 93) hx hb d_11_15_14 (by decide) (fun c9 => ?_) (fun c9 => ?_)
  · have h := ite_t c9 h
    obtain ⟨rfl, rfl, rfl⟩ := in3 h
    exact k1 rfl H locs ls hP hD hS (lv_sub hl [] rfl)
  · have h := ite_f c9 h
    refine lv_ldc2 hx hb hown (hts _ w_714) d_11_15_17 ?_
    refine lv_lstore_n (lv' := [(2, .long (-1)), (0, .ref (ad 41)), (1, .int x1)]) hx hb d_11_15_20 rfl hl (by decide) rfl (fun ls hl => ?_)
    refine lv_iconst (v := 0) hx hb d_11_15_21 (by decide +kernel) ?_
    refine lv_istore (lv' := [(4, .int 0), (2, .long (-1)), (0, .ref (ad 41)), (1, .int x1)]) hx hb d_11_15_22 hl (by decide) rfl (fun ls hl => ?_)
    obtain ⟨⟨t2, v2_2, v2_4, M2⟩, g2, h⟩ := bd_e h
    obtain ⟨ok2, h⟩ := ck_e h
    refine s_Po_findDistances_24 l z ad E x1 hx hb hml hts hown hlocks hA hG hZ hL FU M (-1) 0 t2 v2_2 v2_4 M2 g2 (fun e2 H locs ls hP hD hS hl => ?_) H locs ls hP hD hS (lv_sub hl [2, 3, 1, 0] rfl)
    refine lv_aload_n hx hb d_11_15_80 rfl (lv_at hl 0 rfl) ?_
    refine m_gr (j := 50) (C := "Ballothall$Poll") (T := TX9) (N := 12) (ci := 9) (k := 11) hx hb hts iX9 hown hG hP (yi_41 hL) (yt_41 hL) rfl (by decide) w_118 (fun _ h9 => h9) rfl rfl (yr_41_11 hL) d_11_15_81 ?_
    refine lv_iload_n hx hb d_11_15_84 rfl (lv_at hl 1 rfl) ?_
    refine lv_lload_n hx hb d_11_15_85 rfl (lv_at hl 2 rfl) ?_
    obtain ⟨ok3, h⟩ := ck_e h
    refine m_ls hx hb hG hP hD hS (yi_50 hL) (yt_50 hL) ok3 d_11_15_86 (fun H locs hP hD hS => ?_)
    have hP : va_P z.1 classes (wv z ad E (uL M2 50 x1.toNatClampNeg v2_2)) H := hP
    have hD : va_D A (wv z ad E (uL M2 50 x1.toNatClampNeg v2_2)) := hD
    refine lv_iinc (v := (x1 + 1)) (lv' := [(1, .int (x1 + 1)), (0, .ref (ad 41)), (2, .long v2_2)]) hx hb d_11_15_87 hl (k := 1) rfl (congrArg (fun q => x1 + q) (show Int32.ofInt 1 = 1 by decide +kernel)) (by decide) rfl (fun ls hl => ?_)
    refine lv_goto (tgt := 9) hx hb d_11_15_90 (by decide) ?_
    obtain ⟨rfl, rfl, rfl⟩ := in3 h
    exact k0 rfl H locs ls hP hD hS (lv_sub hl [1, 0] rfl)
set_option maxRecDepth 100000 in
set_option maxHeartbeats 4000000 in
theorem s_Po_findDistances_9 (l : Launch) (z : Zz) (ad : Nat → Nat) (E : Ev) {Q : State → Prop} {p : Program} {e : Env} {s : State} {m : MethodId} {below : List Frame} {meth : Method} {c : Code} {A : Nat → Prop} {args : Array Value} (hx : p.tables.exec = Jvm.exec) (hb : c.code = prog_11_method_15_code) (hml : c.maxLocals = 7) (hts : ∀ w ∈ WG, w.before args s = true) (hown : s.vm.findClass "Ballothall$Poll" = some m.cls) (hlocks : meth.locks = false) (hA : ∀ q, s.heap.size ≤ q → A q) (hG : KG z s) (hZ : FZ z A s) (hL : Lay E) : ∀ (fu : Nat) (M : Mm) (x1 : Int32) (t : Nat) (w1 : Int32) (N : Mm), l_Po_findDistances_9 E fu M x1 = some (t, w1, N) → (t = 1 → ∀ (H : Heap) (locs : List Loc) (ls : Array Slot), va_P z.1 classes (wv z ad E N) H → va_D A (wv z ad E N) → va_S A s.heap H locs → lv_has ls 7 [] → W p l e (rmK 2 68 0 0) s m args below meth c H locs 0 0 Q (F0 m 93 ls [])) → ∀ (H : Heap) (locs : List Loc) (ls : Array Slot), va_P z.1 classes (wv z ad E M) H → va_D A (wv z ad E M) → va_S A s.heap H locs → lv_has ls 7 [(0, .ref (ad 41)), (1, .int x1)] → W p l e (rmK 2 68 0 0) s m args below meth c H locs 0 0 Q (F0 m 9 ls []) := by
  intro fu
  induction fu with
  | zero =>
    intro M x1 t w1 N h
    have h : (none : Option (Nat × Int32 × Mm)) = some _ := h
    cases h
  | succ fu ih =>
    intro M x1 t w1 N h k1 H locs ls hP hD hS hl
    obtain ⟨⟨t0, w10, N0⟩, g0, h⟩ := bd_e h
    refine b_Po_findDistances_9b l z ad E M x1 t0 w10 N0 hx hb hml hts hown hlocks hA hG hZ hL g0 (fun e0 => ?_) (fun e0 => ?_) H locs ls hP hD hS hl
    · subst e0
      have h := ite_t rfl h
      exact ih N0 w10 t w1 N h k1
    · subst e0
      have h := ite_f (by decide) h
      obtain ⟨rfl, rfl, rfl⟩ := in3 h
      exact k1 rfl
set_option maxRecDepth 100000 in
set_option maxHeartbeats 4000000 in
theorem s_Po_findDistances (l : Launch) (z : Zz) (ad : Nat → Nat) (E : Ev) (M : Mm) (N : Mm) (hL : Lay E) (h : f_Po_findDistances E M = some N) : CT l z ⟨"Ballothall$Poll", "findDistances", "()V"⟩ prog_11_method_15_code 7 none [.ref (ad 41)] (wv z ad E M) 2 68 0 0 (fun _ => none) (fun _ => wv z ad E N) := by
  refine CT.of (own := "Ballothall$Poll") (by decide +kernel) (Nat.le_of_ble_eq_true rfl) rfl (fun p e s m below meth c A ls hx hb hml hr hts hown hlocks hin hA hG hZ hP hD hS hl => ?_)
  have hl : lv_has ls 7 [(0, .ref (ad 41))] := hl
  have key : ∀ (H : Heap) (locs : List Loc) (args : Array Value), (∀ w ∈ WG, w.before args s = true) → va_P z.1 classes (wv z ad E M) H → va_S A s.heap H locs → W p l e (rmK 2 68 0 0) s m args below meth c H locs 0 0 (MQ below (QK z A (fun _ => none) (fun _ => wv z ad E N)) args s 0 0 A) (F0 m 0 ls []) := by
    intro H locs args hts hP hS
    unfold f_Po_findDistances at h
    refine lv_aload_n hx hb d_11_15_0 rfl (lv_at hl 0 rfl) ?_
    refine m_gr (j := 50) (C := "Ballothall$Poll") (T := TX9) (N := 12) (ci := 9) (k := 11) hx hb hts iX9 hown hG hP (yi_41 hL) (yt_41 hL) rfl (by decide) w_118 (fun _ h9 => h9) rfl rfl (yr_41_11 hL) d_11_15_1 ?_
    refine lv_iconst (v := 0) hx hb d_11_15_4 (by decide +kernel) ?_
    refine lv_lconst (v := 0) hx hb d_11_15_5 (by decide +kernel) ?_
    refine m_ls hx hb hG hP hD hS (yi_50 hL) (yt_50 hL) (by decide +kernel) d_11_15_6 (fun H locs hP hD hS => ?_)
    have hP : va_P z.1 classes (wv z ad E (uL M 50 0 0)) H := hP
    have hD : va_D A (wv z ad E (uL M 50 0 0)) := hD
    refine lv_iconst (v := 1) hx hb d_11_15_7 (by decide +kernel) ?_
    refine lv_istore_n (lv' := [(1, .int 1), (0, .ref (ad 41))]) hx hb d_11_15_8 rfl hl (by decide) rfl (fun ls hl => ?_)
    obtain ⟨⟨t4, v4_1, M4⟩, g4, h⟩ := bd_e h
    obtain ⟨ok4, h⟩ := ck_e h
    refine s_Po_findDistances_9 l z ad E hx hb hml hts hown hlocks hA hG hZ hL FU (uL M 50 0 0) 1 t4 v4_1 M4 g4 (fun e4 H locs ls hP hD hS hl => ?_) H locs ls hP hD hS (lv_sub hl [1, 0] rfl)
    obtain rfl := in1 h
    exact W.vret hx hb hr (fun t ht hW => qkA hP hD hS (fun k => k) rfl rfl ht) hS.2.2 d_11_15_93
  exact key _ _ _ hts hP hS
set_option maxRecDepth 100000 in
set_option maxHeartbeats 4000000 in
theorem b_Po_firstOfConsensus_2b (l : Launch) (z : Zz) (ad : Nat → Nat) (E : Ev) (M : Mm) (x1 : Int32) (x2 : Int32) (t : Nat) (w2 : Int32) (N : Mm) {Q : State → Prop} {p : Program} {e : Env} {s : State} {m : MethodId} {below : List Frame} {meth : Method} {c : Code} {A : Nat → Prop} {args : Array Value} (hx : p.tables.exec = Jvm.exec) (hb : c.code = prog_11_method_18_code) (hml : c.maxLocals = 3) (hts : ∀ w ∈ WG, w.before args s = true) (hown : s.vm.findClass "Ballothall$Poll" = some m.cls) (hlocks : meth.locks = false) (hA : ∀ q, s.heap.size ≤ q → A q) (hG : KG z s) (hZ : FZ z A s) (hL : Lay E) (h : Po_firstOfConsensus_2b E M x1 x2 = some (t, w2, N)) (k0 : t = 0 → ∀ (H : Heap) (locs : List Loc) (ls : Array Slot), va_P z.1 classes (wv z ad E N) H → va_D A (wv z ad E N) → va_S A s.heap H locs → lv_has ls 3 [(0, .ref (ad 41)), (1, .int x1), (2, .int w2)] → W p l e (rmK 2 68 0 0) s m args below meth c H locs 0 0 Q (F0 m 2 ls [])) (k1 : t = 1 → ∀ (H : Heap) (locs : List Loc) (ls : Array Slot), va_P z.1 classes (wv z ad E N) H → va_D A (wv z ad E N) → va_S A s.heap H locs → lv_has ls 3 [(2, .int w2)] → W p l e (rmK 2 68 0 0) s m args below meth c H locs 0 0 Q (F0 m 37 ls [])) (k2 : t = 2 → ∀ (H : Heap) (locs : List Loc) (ls : Array Slot), va_P z.1 classes (wv z ad E N) H → va_D A (wv z ad E N) → va_S A s.heap H locs → lv_has ls 3 [] → W p l e (rmK 2 68 0 0) s m args below meth c H locs 0 0 Q (F0 m 45 ls [])) : ∀ (H : Heap) (locs : List Loc) (ls : Array Slot), va_P z.1 classes (wv z ad E M) H → va_D A (wv z ad E M) → va_S A s.heap H locs → lv_has ls 3 [(0, .ref (ad 41)), (1, .int x1), (2, .int x2)] → W p l e (rmK 2 68 0 0) s m args below meth c H locs 0 0 Q (F0 m 2 ls []) := by
  intro H locs ls hP hD hS hl
  unfold Po_firstOfConsensus_2b at h
  refine lv_iload_n hx hb d_11_18_2 rfl (lv_at hl 2 rfl) ?_
  refine lv_aload_n hx hb d_11_18_3 rfl (lv_at hl 0 rfl) ?_
  refine m_gr (j := 2) (C := "Ballothall$Poll") (T := TX9) (N := 12) (ci := 9) (k := 0) hx hb hts iX9 hown hG hP (yi_41 hL) (yt_41 hL) rfl (by decide) w_107 (fun _ h9 => h9) rfl rfl (yr_41_0 hL) d_11_18_4 ?_
  refine m_giN (C := "Ballothall$BallotBox") (T := TX0) (N := 10) (ci := 0) (k := 2) hx hb hts iX0 hown hG hP (yi_2 hL) (yt_2 hL) rfl (by decide) n_53 rfl (fun _ h9 => h9) rfl rfl d_11_18_7 ?_
  refine lv_icmp_ge (tgt := 45) hx hb d_11_18_10 (by decide) (fun c9 => ?_) (fun c9 => ?_)
  · have h := ite_t c9 h
    obtain ⟨rfl, rfl, rfl⟩ := in3 h
    exact k2 rfl H locs ls hP hD hS (lv_sub hl [] rfl)
  · have h := ite_f c9 h
    refine lv_iload_n hx hb d_11_18_13 rfl (lv_at hl 1 rfl) ?_
    refine lv_iload_n hx hb d_11_18_14 rfl (lv_at hl 2 rfl) ?_
    obtain ⟨⟨r0, M0⟩, g0, h⟩ := bd_e h
    refine kSN (As := [.int x1, .int x2]) (rest := []) (s_B_has l z ad E M x1 x2 r0 M0 hL g0) hx hb hml hown hts w_693 n_691 w_692 w_1 md_26545c ⟨Nat.le_of_ble_eq_true rfl, Nat.le_of_ble_eq_true rfl⟩ hG hZ hP hD hS hA rfl hl.1 rfl (Nat.le_of_ble_eq_true rfl) d_11_18_15 ⟨Nat.le_of_ble_eq_true rfl, Nat.le_of_ble_eq_true rfl⟩ (fun _ H locs hP hD hS => ?_)
    have hP : va_P z.1 classes (wv z ad E M0) H := hP
    have hD : va_D A (wv z ad E M0) := hD
    refine W.eq (g2 := F0 m 18 ls [.int r0]) rfl ?_
    refine lv_if_eq (tgt := 39) hx hb d_11_18_18 (by decide) (fun c9 => ?_) (fun c9 => ?_)
    · have h := ite_t c9 h
      refine lv_iinc (v := (x2 + 1)) (lv' := [(2, .int (x2 + 1)), (0, .ref (ad 41)), (1, .int x1)]) hx hb d_11_18_39 hl (k := 2) rfl (congrArg (fun q => x2 + q) (show Int32.ofInt 1 = 1 by decide +kernel)) (by decide) rfl (fun ls hl => ?_)
      refine lv_goto (tgt := 2) hx hb d_11_18_42 (by decide) ?_
      obtain ⟨rfl, rfl, rfl⟩ := in3 h
      exact k0 rfl H locs ls hP hD hS (lv_sub hl [1, 2, 0] rfl)
    · have h := ite_f c9 h
      refine lv_aload_n hx hb d_11_18_21 rfl (lv_at hl 0 rfl) ?_
      refine lv_iload_n hx hb d_11_18_22 rfl (lv_at hl 1 rfl) ?_
      refine lv_iload_n hx hb d_11_18_23 rfl (lv_at hl 2 rfl) ?_
      obtain ⟨⟨r1, M1⟩, g1, h⟩ := bd_e h
      refine kV (As := [.int x1, .int x2]) (rest := []) (s_Po_distanceWithFirst l z ad E M0 x1 x2 r1 M1 hL g1) hx hb hml hown hts w_718 w_715 w_717 w_s_a1b3b1 w_3 md_aaaef5 ⟨Nat.le_of_ble_eq_true rfl, Nat.le_of_ble_eq_true rfl⟩ hG hZ hP hD hS hA 41 (wv_o (ci := 9) (yi_41 hL) (yt_41 hL)) rfl rfl rfl hl.1 rfl (Nat.le_of_ble_eq_true rfl) d_11_18_24 ⟨Nat.le_of_ble_eq_true rfl, Nat.le_of_ble_eq_true rfl⟩ (fun _ H locs hP hD hS => ?_)
      have hP : va_P z.1 classes (wv z ad E M1) H := hP
      have hD : va_D A (wv z ad E M1) := hD
      refine W.eq (g2 := F0 m 27 ls [.long r1]) rfl ?_
      refine lv_aload_n hx hb d_11_18_27 rfl (lv_at hl 0 rfl) ?_
      refine m_gr (j := 50) (C := "Ballothall$Poll") (T := TX9) (N := 12) (ci := 9) (k := 11) hx hb hts iX9 hown hG hP (yi_41 hL) (yt_41 hL) rfl (by decide) w_118 (fun _ h9 => h9) rfl rfl (yr_41_11 hL) d_11_18_28 ?_
      refine lv_iload_n hx hb d_11_18_31 rfl (lv_at hl 1 rfl) ?_
      obtain ⟨ok2, h⟩ := ck_e h
      refine m_la hx hb hG hP (yi_50 hL) (yt_50 hL) ok2 d_11_18_32 ?_
      refine W.lcmp hx hb d_11_18_33 ?_
      refine lv_if_ne (tgt := 39) hx hb d_11_18_34 (by decide) (fun c9 => ?_) (fun c9 => ?_)
      · have h := ite_f c9 h
        refine lv_iinc (v := (x2 + 1)) (lv' := [(2, .int (x2 + 1)), (0, .ref (ad 41)), (1, .int x1)]) hx hb d_11_18_39 hl (k := 2) rfl (congrArg (fun q => x2 + q) (show Int32.ofInt 1 = 1 by decide +kernel)) (by decide) rfl (fun ls hl => ?_)
        refine lv_goto (tgt := 2) hx hb d_11_18_42 (by decide) ?_
        obtain ⟨rfl, rfl, rfl⟩ := in3 h
        exact k0 rfl H locs ls hP hD hS (lv_sub hl [1, 2, 0] rfl)
      · have h := ite_t c9 h
        obtain ⟨rfl, rfl, rfl⟩ := in3 h
        exact k1 rfl H locs ls hP hD hS (lv_sub hl [2] rfl)
set_option maxRecDepth 100000 in
set_option maxHeartbeats 4000000 in
theorem s_Po_firstOfConsensus_2 (l : Launch) (z : Zz) (ad : Nat → Nat) (E : Ev) (x1 : Int32) {Q : State → Prop} {p : Program} {e : Env} {s : State} {m : MethodId} {below : List Frame} {meth : Method} {c : Code} {A : Nat → Prop} {args : Array Value} (hx : p.tables.exec = Jvm.exec) (hb : c.code = prog_11_method_18_code) (hml : c.maxLocals = 3) (hts : ∀ w ∈ WG, w.before args s = true) (hown : s.vm.findClass "Ballothall$Poll" = some m.cls) (hlocks : meth.locks = false) (hA : ∀ q, s.heap.size ≤ q → A q) (hG : KG z s) (hZ : FZ z A s) (hL : Lay E) : ∀ (fu : Nat) (M : Mm) (x2 : Int32) (t : Nat) (w2 : Int32) (N : Mm), l_Po_firstOfConsensus_2 E x1 fu M x2 = some (t, w2, N) → (t = 1 → ∀ (H : Heap) (locs : List Loc) (ls : Array Slot), va_P z.1 classes (wv z ad E N) H → va_D A (wv z ad E N) → va_S A s.heap H locs → lv_has ls 3 [(2, .int w2)] → W p l e (rmK 2 68 0 0) s m args below meth c H locs 0 0 Q (F0 m 37 ls [])) → (t = 2 → ∀ (H : Heap) (locs : List Loc) (ls : Array Slot), va_P z.1 classes (wv z ad E N) H → va_D A (wv z ad E N) → va_S A s.heap H locs → lv_has ls 3 [] → W p l e (rmK 2 68 0 0) s m args below meth c H locs 0 0 Q (F0 m 45 ls [])) → ∀ (H : Heap) (locs : List Loc) (ls : Array Slot), va_P z.1 classes (wv z ad E M) H → va_D A (wv z ad E M) → va_S A s.heap H locs → lv_has ls 3 [(0, .ref (ad 41)), (1, .int x1), (2, .int x2)] → W p l e (rmK 2 68 0 0) s m args below meth c H locs 0 0 Q (F0 m 2 ls []) := by
  intro fu
  induction fu with
  | zero =>
    intro M x2 t w2 N h
    have h : (none : Option (Nat × Int32 × Mm)) = some _ := h
    cases h
  | succ fu ih =>
    intro M x2 t w2 N h k1 k2 H locs ls hP hD hS hl
    obtain ⟨⟨t0, w20, N0⟩, g0, h⟩ := bd_e h
    refine b_Po_firstOfConsensus_2b l z ad E M x1 x2 t0 w20 N0 hx hb hml hts hown hlocks hA hG hZ hL g0 (fun e0 => ?_) (fun e0 => ?_) (fun e0 => ?_) H locs ls hP hD hS hl
    · subst e0
      have h := ite_t rfl h
      exact ih N0 w20 t w2 N h k1 k2
    · subst e0
      have h := ite_f (by decide) h
      obtain ⟨rfl, rfl, rfl⟩ := in3 h
      exact k1 rfl
    · subst e0
      have h := ite_f (by decide) h
      obtain ⟨rfl, rfl, rfl⟩ := in3 h
      exact k2 rfl
set_option maxRecDepth 100000 in
set_option maxHeartbeats 4000000 in
theorem s_Po_firstOfConsensus (l : Launch) (z : Zz) (ad : Nat → Nat) (E : Ev) (M : Mm) (x1 : Int32) (r : Int32) (N : Mm) (hL : Lay E) (h : f_Po_firstOfConsensus E M x1 = some (r, N)) : CT l z ⟨"Ballothall$Poll", "firstOfConsensus", "(I)I"⟩ prog_11_method_18_code 3 (some .int) [.ref (ad 41), .int x1] (wv z ad E M) 2 68 0 0 (fun _ => some (.int r)) (fun _ => wv z ad E N) := by
  refine CT.of (own := "Ballothall$Poll") (by decide +kernel) (Nat.le_of_ble_eq_true rfl) rfl (fun p e s m below meth c A ls hx hb hml hr hts hown hlocks hin hA hG hZ hP hD hS hl => ?_)
  have hl : lv_has ls 3 [(0, .ref (ad 41)), (1, .int x1)] := hl
  have key : ∀ (H : Heap) (locs : List Loc) (args : Array Value), (∀ w ∈ WG, w.before args s = true) → va_P z.1 classes (wv z ad E M) H → va_S A s.heap H locs → W p l e (rmK 2 68 0 0) s m args below meth c H locs 0 0 (MQ below (QK z A (fun _ => some (.int r)) (fun _ => wv z ad E N)) args s 0 0 A) (F0 m 0 ls []) := by
    intro H locs args hts hP hS
    unfold f_Po_firstOfConsensus at h
    refine lv_iconst (v := 0) hx hb d_11_18_0 (by decide +kernel) ?_
    refine lv_istore_n (lv' := [(2, .int 0), (0, .ref (ad 41)), (1, .int x1)]) hx hb d_11_18_1 rfl hl (by decide) rfl (fun ls hl => ?_)
    obtain ⟨⟨t3, v3_2, M3⟩, g3, h⟩ := bd_e h
    refine s_Po_firstOfConsensus_2 l z ad E x1 hx hb hml hts hown hlocks hA hG hZ hL FU M 0 t3 v3_2 M3 g3 (fun e3 H locs ls hP hD hS hl => ?_) (fun e3 H locs ls hP hD hS hl => ?_) H locs ls hP hD hS (lv_sub hl [1, 2, 0] rfl)
    · subst e3
      have h := ite_t rfl h
      refine lv_iload_n hx hb d_11_18_37 rfl (lv_at hl 0 rfl) ?_
      obtain ⟨rfl, rfl⟩ := in2 h
      exact W.iret hx hb hr (fun t ht hW => qkA hP hD hS (fun k => k) rfl rfl ht) hS.2.2 d_11_18_38
    · subst e3
      have h := ite_f (by decide) h
      have h := ite_t rfl h
      refine lv_iconst (v := 0) hx hb d_11_18_45 (by decide +kernel) ?_
      obtain ⟨rfl, rfl⟩ := in2 h
      exact W.iret hx hb hr (fun t ht hW => qkA hP hD hS (fun k => k) rfl rfl ht) hS.2.2 d_11_18_46
  exact key _ _ _ hts hP hS
set_option maxRecDepth 100000 in
set_option maxHeartbeats 4000000 in
theorem b_Po_consensusPlace_10b (l : Launch) (z : Zz) (ad : Nat → Nat) (E : Ev) (M : Mm) (x1 : Int32) (x2 : Int32) (x3 : Int32) (x4 : Int32) (t : Nat) (w2 : Int32) (w3 : Int32) (w4 : Int32) (N : Mm) {Q : State → Prop} {p : Program} {e : Env} {s : State} {m : MethodId} {below : List Frame} {meth : Method} {c : Code} {A : Nat → Prop} {args : Array Value} (hx : p.tables.exec = Jvm.exec) (hb : c.code = prog_11_method_17_code) (hml : c.maxLocals = 5) (hts : ∀ w ∈ WG, w.before args s = true) (hown : s.vm.findClass "Ballothall$Poll" = some m.cls) (hlocks : meth.locks = false) (hA : ∀ q, s.heap.size ≤ q → A q) (hG : KG z s) (hZ : FZ z A s) (hL : Lay E) (h : Po_consensusPlace_10b E M x1 x2 x3 x4 = some (t, w2, w3, w4, N)) (k0 : t = 0 → ∀ (H : Heap) (locs : List Loc) (ls : Array Slot), va_P z.1 classes (wv z ad E N) H → va_D A (wv z ad E N) → va_S A s.heap H locs → lv_has ls 5 [(0, .ref (ad 41)), (1, .int x1), (2, .int w2), (3, .int w3), (4, .int w4)] → W p l e (rmK 3 90 0 0) s m args below meth c H locs 0 0 Q (F0 m 10 ls [])) (k1 : t = 1 → ∀ (H : Heap) (locs : List Loc) (ls : Array Slot), va_P z.1 classes (wv z ad E N) H → va_D A (wv z ad E N) → va_S A s.heap H locs → lv_has ls 5 [(3, .int w3)] → W p l e (rmK 3 90 0 0) s m args below meth c H locs 0 0 Q (F0 m 40 ls [])) : ∀ (H : Heap) (locs : List Loc) (ls : Array Slot), va_P z.1 classes (wv z ad E M) H → va_D A (wv z ad E M) → va_S A s.heap H locs → lv_has ls 5 [(0, .ref (ad 41)), (1, .int x1), (2, .int x2), (3, .int x3), (4, .int x4)] → W p l e (rmK 3 90 0 0) s m args below meth c H locs 0 0 Q (F0 m 10 ls []) := by
  intro H locs ls hP hD hS hl
  unfold Po_consensusPlace_10b at h
  refine lv_iload hx hb d_11_17_10 (lv_at hl 4 rfl) ?_
  refine lv_iload_n hx hb d_11_17_12 rfl (lv_at hl 1 rfl) ?_
  refine lv_icmp_gt (tgt := 40) hx hb d_11_17_13 (by decide) (fun c9 => ?_) (fun c9 => ?_)
  · have h := ite_t c9 h
    obtain ⟨rfl, rfl, rfl, rfl, rfl⟩ := in5 h
    exact k1 rfl H locs ls hP hD hS (lv_sub hl [3] rfl)
  · have h := ite_f c9 h
    refine lv_iload_n hx hb d_11_17_16 rfl (lv_at hl 2 rfl) ?_
    refine lv_if_eq (tgt := 40) hx hb d_11_17_17 (by decide) (fun c9 => ?_) (fun c9 => ?_)
    · have h := ite_t c9 h
      obtain ⟨rfl, rfl, rfl, rfl, rfl⟩ := in5 h
      exact k1 rfl H locs ls hP hD hS (lv_sub hl [3] rfl)
    · have h := ite_f c9 h
      refine lv_aload_n hx hb d_11_17_20 rfl (lv_at hl 0 rfl) ?_
      refine lv_iload_n hx hb d_11_17_21 rfl (lv_at hl 2 rfl) ?_
      obtain ⟨⟨r0, M0⟩, g0, h⟩ := bd_e h
      refine kV (As := [.int x2]) (rest := []) (s_Po_firstOfConsensus l z ad E M x2 r0 M0 hL g0) hx hb hml hown hts w_746 w_743 w_745 w_s_4d3fdf w_3 md_2e2af1 ⟨Nat.le_of_ble_eq_true rfl, Nat.le_of_ble_eq_true rfl⟩ hG hZ hP hD hS hA 41 (wv_o (ci := 9) (yi_41 hL) (yt_41 hL)) rfl rfl rfl hl.1 rfl (Nat.le_of_ble_eq_true rfl) d_11_17_22 ⟨Nat.le_of_ble_eq_true rfl, Nat.le_of_ble_eq_true rfl⟩ (fun _ H locs hP hD hS => ?_)
      have hP : va_P z.1 classes (wv z ad E M0) H := hP
      have hD : va_D A (wv z ad E M0) := hD
      refine W.eq (g2 := F0 m 25 ls [.int r0]) rfl ?_
      refine lv_istore_n (lv' := [(3, .int r0), (0, .ref (ad 41)), (1, .int x1), (2, .int x2), (4, .int x4)]) hx hb d_11_17_25 rfl hl (by decide) rfl (fun ls hl => ?_)
      refine lv_iload_n hx hb d_11_17_26 rfl (lv_at hl 3 rfl) ?_
      refine lv_iconst (v := 1) hx hb d_11_17_27 (by decide +kernel) ?_
      refine lv_iload_n hx hb d_11_17_28 rfl (lv_at hl 0 rfl) ?_
      refine lv_ishl hx hb d_11_17_29 ?_
      refine lv_iconst (v := (-1)) hx hb d_11_17_30 (by decide +kernel) ?_
      refine lv_ixor hx hb d_11_17_31 ?_
      refine lv_iand hx hb d_11_17_32 ?_
      obtain ⟨v1, e1, h⟩ := nb_e h
      refine nrm e1.symm ?_
      refine lv_istore_n (lv' := [(2, .int v1), (3, .int r0), (0, .ref (ad 41)), (1, .int x1), (4, .int x4)]) hx hb d_11_17_33 rfl hl (by decide) rfl (fun ls hl => ?_)
      refine lv_iinc (v := (x4 + 1)) (lv' := [(4, .int (x4 + 1)), (2, .int v1), (3, .int r0), (0, .ref (ad 41)), (1, .int x1)]) hx hb d_11_17_34 hl (k := 4) rfl (congrArg (fun q => x4 + q) (show Int32.ofInt 1 = 1 by decide +kernel)) (by decide) rfl (fun ls hl => ?_)
      refine lv_goto (tgt := 10) hx hb d_11_17_37 (by decide) ?_
      obtain ⟨rfl, rfl, rfl, rfl, rfl⟩ := in5 h
      exact k0 rfl H locs ls hP hD hS (lv_sub hl [3, 4, 1, 2, 0] rfl)
set_option maxRecDepth 100000 in
set_option maxHeartbeats 4000000 in
theorem s_Po_consensusPlace_10 (l : Launch) (z : Zz) (ad : Nat → Nat) (E : Ev) (x1 : Int32) {Q : State → Prop} {p : Program} {e : Env} {s : State} {m : MethodId} {below : List Frame} {meth : Method} {c : Code} {A : Nat → Prop} {args : Array Value} (hx : p.tables.exec = Jvm.exec) (hb : c.code = prog_11_method_17_code) (hml : c.maxLocals = 5) (hts : ∀ w ∈ WG, w.before args s = true) (hown : s.vm.findClass "Ballothall$Poll" = some m.cls) (hlocks : meth.locks = false) (hA : ∀ q, s.heap.size ≤ q → A q) (hG : KG z s) (hZ : FZ z A s) (hL : Lay E) : ∀ (fu : Nat) (M : Mm) (x2 : Int32) (x3 : Int32) (x4 : Int32) (t : Nat) (w2 : Int32) (w3 : Int32) (w4 : Int32) (N : Mm), l_Po_consensusPlace_10 E x1 fu M x2 x3 x4 = some (t, w2, w3, w4, N) → (t = 1 → ∀ (H : Heap) (locs : List Loc) (ls : Array Slot), va_P z.1 classes (wv z ad E N) H → va_D A (wv z ad E N) → va_S A s.heap H locs → lv_has ls 5 [(3, .int w3)] → W p l e (rmK 3 90 0 0) s m args below meth c H locs 0 0 Q (F0 m 40 ls [])) → ∀ (H : Heap) (locs : List Loc) (ls : Array Slot), va_P z.1 classes (wv z ad E M) H → va_D A (wv z ad E M) → va_S A s.heap H locs → lv_has ls 5 [(0, .ref (ad 41)), (1, .int x1), (2, .int x2), (3, .int x3), (4, .int x4)] → W p l e (rmK 3 90 0 0) s m args below meth c H locs 0 0 Q (F0 m 10 ls []) := by
  intro fu
  induction fu with
  | zero =>
    intro M x2 x3 x4 t w2 w3 w4 N h
    have h : (none : Option (Nat × Int32 × Int32 × Int32 × Mm)) = some _ := h
    cases h
  | succ fu ih =>
    intro M x2 x3 x4 t w2 w3 w4 N h k1 H locs ls hP hD hS hl
    obtain ⟨⟨t0, w20, w30, w40, N0⟩, g0, h⟩ := bd_e h
    refine b_Po_consensusPlace_10b l z ad E M x1 x2 x3 x4 t0 w20 w30 w40 N0 hx hb hml hts hown hlocks hA hG hZ hL g0 (fun e0 => ?_) (fun e0 => ?_) H locs ls hP hD hS hl
    · subst e0
      have h := ite_t rfl h
      exact ih N0 w20 w30 w40 t w2 w3 w4 N h k1
    · subst e0
      have h := ite_f (by decide) h
      obtain ⟨rfl, rfl, rfl, rfl, rfl⟩ := in5 h
      exact k1 rfl
set_option maxRecDepth 100000 in
set_option maxHeartbeats 4000000 in
theorem s_Po_consensusPlace (l : Launch) (z : Zz) (ad : Nat → Nat) (E : Ev) (M : Mm) (x1 : Int32) (r : Int32) (N : Mm) (hL : Lay E) (h : f_Po_consensusPlace E M x1 = some (r, N)) : CT l z ⟨"Ballothall$Poll", "consensusPlace", "(I)I"⟩ prog_11_method_17_code 5 (some .int) [.ref (ad 41), .int x1] (wv z ad E M) 3 90 0 0 (fun _ => some (.int r)) (fun _ => wv z ad E N) := by
  refine CT.of (own := "Ballothall$Poll") (by decide +kernel) (Nat.le_of_ble_eq_true rfl) rfl (fun p e s m below meth c A ls hx hb hml hr hts hown hlocks hin hA hG hZ hP hD hS hl => ?_)
  have hl : lv_has ls 5 [(0, .ref (ad 41)), (1, .int x1)] := hl
  have key : ∀ (H : Heap) (locs : List Loc) (args : Array Value), (∀ w ∈ WG, w.before args s = true) → va_P z.1 classes (wv z ad E M) H → va_S A s.heap H locs → W p l e (rmK 3 90 0 0) s m args below meth c H locs 0 0 (MQ below (QK z A (fun _ => some (.int r)) (fun _ => wv z ad E N)) args s 0 0 A) (F0 m 0 ls []) := by
    intro H locs args hts hP hS
    unfold f_Po_consensusPlace at h
    refine lv_aload_n hx hb d_11_17_0 rfl (lv_at hl 0 rfl) ?_
    refine m_gi (C := "Ballothall$Poll") (T := TX9) (N := 12) (ci := 9) (k := 1) hx hb hts iX9 hown hG hP (yi_41 hL) (yt_41 hL) rfl (by decide) w_108 (fun _ h9 => h9) rfl rfl d_11_17_1 ?_
    refine lv_istore_n (lv' := [(2, .int (M.1 41 1)), (0, .ref (ad 41)), (1, .int x1)]) hx hb d_11_17_4 rfl hl (by decide) rfl (fun ls hl => ?_)
    refine lv_iconst (v := (-1)) hx hb d_11_17_5 (by decide +kernel) ?_
    refine lv_istore_n (lv' := [(3, .int (-1)), (2, .int (M.1 41 1)), (0, .ref (ad 41)), (1, .int x1)]) hx hb d_11_17_6 rfl hl (by decide) rfl (fun ls hl => ?_)
    refine lv_iconst (v := 0) hx hb d_11_17_7 (by decide +kernel) ?_
    refine lv_istore (lv' := [(4, .int 0), (3, .int (-1)), (2, .int (M.1 41 1)), (0, .ref (ad 41)), (1, .int x1)]) hx hb d_11_17_8 hl (by decide) rfl (fun ls hl => ?_)
    obtain ⟨⟨t2, v2_2, v2_3, v2_4, M2⟩, g2, h⟩ := bd_e h
    obtain ⟨ok2, h⟩ := ck_e h
    refine s_Po_consensusPlace_10 l z ad E x1 hx hb hml hts hown hlocks hA hG hZ hL FU M (M.1 41 1) (-1) 0 t2 v2_2 v2_3 v2_4 M2 g2 (fun e2 H locs ls hP hD hS hl => ?_) H locs ls hP hD hS (lv_sub hl [3, 4, 2, 1, 0] rfl)
    refine lv_iload_n hx hb d_11_17_40 rfl (lv_at hl 0 rfl) ?_
    obtain ⟨rfl, rfl⟩ := in2 h
    exact W.iret hx hb hr (fun t ht hW => qkA hP hD hS (fun k => k) rfl rfl ht) hS.2.2 d_11_17_41
  exact key _ _ _ hts hP hS
set_option maxRecDepth 100000 in
set_option maxHeartbeats 4000000 in
theorem s_B_consensusAt (l : Launch) (z : Zz) (ad : Nat → Nat) (E : Ev) (M : Mm) (x1 : Int32) (r : Int32) (N : Mm) (hL : Lay E) (h : f_B_consensusAt E M x1 = some (r, N)) : CT l z ⟨"Ballothall", "consensusAt", "(I)I"⟩ prog_1_method_30_code 2 (some .int) [.ref (ad 1), .int x1] (wv z ad E M) 4 115 0 0 (fun _ => some (.int r)) (fun _ => wv z ad E N) := by
  refine CT.of (own := "Ballothall") (by decide +kernel) (Nat.le_of_ble_eq_true rfl) rfl (fun p e s m below meth c A ls hx hb hml hr hts hown hlocks hin hA hG hZ hP hD hS hl => ?_)
  have hl : lv_has ls 2 [(0, .ref (ad 1)), (1, .int x1)] := hl
  have key : ∀ (H : Heap) (locs : List Loc) (args : Array Value), (∀ w ∈ WG, w.before args s = true) → va_P z.1 classes (wv z ad E M) H → va_S A s.heap H locs → W p l e (rmK 4 115 0 0) s m args below meth c H locs 0 0 (MQ below (QK z A (fun _ => some (.int r)) (fun _ => wv z ad E N)) args s 0 0 A) (F0 m 0 ls []) := by
    intro H locs args hts hP hS
    unfold f_B_consensusAt at h
    refine lv_iload_n hx hb d_1_30_0 rfl (lv_at hl 1 rfl) ?_
    refine lv_aload_n hx hb d_1_30_1 rfl (lv_at hl 0 rfl) ?_
    refine m_gr (j := 2) (C := "Ballothall") (T := TX11) (N := 14) (ci := 11) (k := 0) hx hb hts iX11 hown hG hP (yi_1 hL) (yt_1 hL) rfl (by decide) w_397 (fun _ h9 => h9) rfl rfl (yr_1_0 hL) d_1_30_2 ?_
    refine m_giN (C := "Ballothall$BallotBox") (T := TX0) (N := 10) (ci := 0) (k := 2) hx hb hts iX0 hown hG hP (yi_2 hL) (yt_2 hL) rfl (by decide) n_52 rfl (fun _ h9 => h9) rfl rfl d_1_30_5 ?_
    obtain ⟨M0, g0, h⟩ := bd_e h
    refine kS (As := [.int x1, .int (M.1 2 2)]) (rest := []) (s_B_needPlace l z ad E M x1 (M.1 2 2) M0 hL g0) hx hb hml hown hts w_1343 w_1341 w_1342 w_1 md_541664 ⟨Nat.le_of_ble_eq_true rfl, Nat.le_of_ble_eq_true rfl⟩ hG hZ hP hD hS hA rfl hl.1 rfl (Nat.le_of_ble_eq_true rfl) d_1_30_8 ⟨Nat.le_of_ble_eq_true rfl, Nat.le_of_ble_eq_true rfl⟩ (fun _ H locs hP hD hS => ?_)
    have hP : va_P z.1 classes (wv z ad E M0) H := hP
    have hD : va_D A (wv z ad E M0) := hD
    refine W.eq (g2 := F0 m 11 ls []) rfl ?_
    refine lv_aload_n hx hb d_1_30_11 rfl (lv_at hl 0 rfl) ?_
    refine m_gr (j := 41) (C := "Ballothall") (T := TX11) (N := 14) (ci := 11) (k := 1) hx hb hts iX11 hown hG hP (yi_1 hL) (yt_1 hL) rfl (by decide) w_398 (fun _ h9 => h9) rfl rfl (yr_1_1 hL) d_1_30_12 ?_
    refine lv_aload_n hx hb d_1_30_15 rfl (lv_at hl 0 rfl) ?_
    refine m_gr (j := 2) (C := "Ballothall") (T := TX11) (N := 14) (ci := 11) (k := 0) hx hb hts iX11 hown hG hP (yi_1 hL) (yt_1 hL) rfl (by decide) w_397 (fun _ h9 => h9) rfl rfl (yr_1_0 hL) d_1_30_16 ?_
    obtain ⟨⟨r1, M1⟩, g1, h⟩ := bd_e h
    refine kVN (As := []) (rest := [.ref (ad 41)]) (s_Bx_everybody l z ad E M0 r1 M1 hL g1) hx hb hml hown hts w_668 n_665 w_667 w_s_8b8b67 w_2 md_b59579 ⟨Nat.le_of_ble_eq_true rfl, Nat.le_of_ble_eq_true rfl⟩ hG hZ hP hD hS hA 2 (wv_o (ci := 0) (yi_2 hL) (yt_2 hL)) rfl rfl rfl hl.1 rfl (Nat.le_of_ble_eq_true rfl) d_1_30_19 ⟨Nat.le_of_ble_eq_true rfl, Nat.le_of_ble_eq_true rfl⟩ (fun _ H locs hP hD hS => ?_)
    have hP : va_P z.1 classes (wv z ad E M1) H := hP
    have hD : va_D A (wv z ad E M1) := hD
    refine W.eq (g2 := F0 m 22 ls [.int r1, .ref (ad 41)]) rfl ?_
    obtain ⟨M2, g2, h⟩ := bd_e h
    refine kVN (As := [.int r1]) (rest := []) (s_Po_open l z ad E M1 r1 M2 hL g2) hx hb hml hown hts w_672 n_669 w_671 w_s_229dc4 w_3 md_60bc9b ⟨Nat.le_of_ble_eq_true rfl, Nat.le_of_ble_eq_true rfl⟩ hG hZ hP hD hS hA 41 (wv_o (ci := 9) (yi_41 hL) (yt_41 hL)) rfl rfl rfl hl.1 rfl (Nat.le_of_ble_eq_true rfl) d_1_30_22 ⟨Nat.le_of_ble_eq_true rfl, Nat.le_of_ble_eq_true rfl⟩ (fun _ H locs hP hD hS => ?_)
    have hP : va_P z.1 classes (wv z ad E M2) H := hP
    have hD : va_D A (wv z ad E M2) := hD
    refine W.eq (g2 := F0 m 25 ls []) rfl ?_
    refine lv_aload_n hx hb d_1_30_25 rfl (lv_at hl 0 rfl) ?_
    refine m_gr (j := 41) (C := "Ballothall") (T := TX11) (N := 14) (ci := 11) (k := 1) hx hb hts iX11 hown hG hP (yi_1 hL) (yt_1 hL) rfl (by decide) w_398 (fun _ h9 => h9) rfl rfl (yr_1_1 hL) d_1_30_26 ?_
    obtain ⟨M3, g3, h⟩ := bd_e h
    refine kVN (As := []) (rest := []) (s_Po_findDistances l z ad E M2 M3 hL g3) hx hb hml hown hts w_713 n_710 w_712 w_s_d32e6f w_3 md_4b14b3 ⟨Nat.le_of_ble_eq_true rfl, Nat.le_of_ble_eq_true rfl⟩ hG hZ hP hD hS hA 41 (wv_o (ci := 9) (yi_41 hL) (yt_41 hL)) rfl rfl rfl hl.1 rfl (Nat.le_of_ble_eq_true rfl) d_1_30_29 ⟨Nat.le_of_ble_eq_true rfl, Nat.le_of_ble_eq_true rfl⟩ (fun _ H locs hP hD hS => ?_)
    have hP : va_P z.1 classes (wv z ad E M3) H := hP
    have hD : va_D A (wv z ad E M3) := hD
    refine W.eq (g2 := F0 m 32 ls []) rfl ?_
    refine lv_aload_n hx hb d_1_30_32 rfl (lv_at hl 0 rfl) ?_
    refine m_gr (j := 41) (C := "Ballothall") (T := TX11) (N := 14) (ci := 11) (k := 1) hx hb hts iX11 hown hG hP (yi_1 hL) (yt_1 hL) rfl (by decide) w_398 (fun _ h9 => h9) rfl rfl (yr_1_1 hL) d_1_30_33 ?_
    refine lv_iload_n hx hb d_1_30_36 rfl (lv_at hl 1 rfl) ?_
    obtain ⟨⟨r4, M4⟩, g4, h⟩ := bd_e h
    refine kVN (As := [.int x1]) (rest := []) (s_Po_consensusPlace l z ad E M3 x1 r4 M4 hL g4) hx hb hml hown hts w_742 n_739 w_741 w_s_cb37ef w_3 md_2413b1 ⟨Nat.le_of_ble_eq_true rfl, Nat.le_of_ble_eq_true rfl⟩ hG hZ hP hD hS hA 41 (wv_o (ci := 9) (yi_41 hL) (yt_41 hL)) rfl rfl rfl hl.1 rfl (Nat.le_of_ble_eq_true rfl) d_1_30_37 ⟨Nat.le_of_ble_eq_true rfl, Nat.le_of_ble_eq_true rfl⟩ (fun _ H locs hP hD hS => ?_)
    have hP : va_P z.1 classes (wv z ad E M4) H := hP
    have hD : va_D A (wv z ad E M4) := hD
    refine W.eq (g2 := F0 m 40 ls [.int r4]) rfl ?_
    obtain ⟨rfl, rfl⟩ := in2 h
    exact W.iret hx hb hr (fun t ht hW => qkA hP hD hS (fun k => k) rfl rfl ht) hS.2.2 d_1_30_40
  exact key _ _ _ hts hP hS
set_option maxRecDepth 100000 in
set_option maxHeartbeats 4000000 in
theorem s_B_consensusDistance (l : Launch) (z : Zz) (ad : Nat → Nat) (E : Ev) (M : Mm) (r : Int64) (N : Mm) (hL : Lay E) (h : f_B_consensusDistance E M = some (r, N)) : CT l z ⟨"Ballothall", "consensusDistance", "()J"⟩ prog_1_method_31_code 1 (some .long) [.ref (ad 1)] (wv z ad E M) 4 115 0 0 (fun _ => some (.long r)) (fun _ => wv z ad E N) := by
  refine CT.of (own := "Ballothall") (by decide +kernel) (Nat.le_of_ble_eq_true rfl) rfl (fun p e s m below meth c A ls hx hb hml hr hts hown hlocks hin hA hG hZ hP hD hS hl => ?_)
  have hl : lv_has ls 1 [(0, .ref (ad 1))] := hl
  have key : ∀ (H : Heap) (locs : List Loc) (args : Array Value), (∀ w ∈ WG, w.before args s = true) → va_P z.1 classes (wv z ad E M) H → va_S A s.heap H locs → W p l e (rmK 4 115 0 0) s m args below meth c H locs 0 0 (MQ below (QK z A (fun _ => some (.long r)) (fun _ => wv z ad E N)) args s 0 0 A) (F0 m 0 ls []) := by
    intro H locs args hts hP hS
    unfold f_B_consensusDistance at h
    refine lv_aload_n hx hb d_1_31_0 rfl (lv_at hl 0 rfl) ?_
    refine m_gr (j := 41) (C := "Ballothall") (T := TX11) (N := 14) (ci := 11) (k := 1) hx hb hts iX11 hown hG hP (yi_1 hL) (yt_1 hL) rfl (by decide) w_398 (fun _ h9 => h9) rfl rfl (yr_1_1 hL) d_1_31_1 ?_
    refine lv_aload_n hx hb d_1_31_4 rfl (lv_at hl 0 rfl) ?_
    refine m_gr (j := 2) (C := "Ballothall") (T := TX11) (N := 14) (ci := 11) (k := 0) hx hb hts iX11 hown hG hP (yi_1 hL) (yt_1 hL) rfl (by decide) w_397 (fun _ h9 => h9) rfl rfl (yr_1_0 hL) d_1_31_5 ?_
    obtain ⟨⟨r0, M0⟩, g0, h⟩ := bd_e h
    refine kVN (As := []) (rest := [.ref (ad 41)]) (s_Bx_everybody l z ad E M r0 M0 hL g0) hx hb hml hown hts w_668 n_665 w_667 w_s_8b8b67 w_2 md_b59579 ⟨Nat.le_of_ble_eq_true rfl, Nat.le_of_ble_eq_true rfl⟩ hG hZ hP hD hS hA 2 (wv_o (ci := 0) (yi_2 hL) (yt_2 hL)) rfl rfl rfl hl.1 rfl (Nat.le_of_ble_eq_true rfl) d_1_31_8 ⟨Nat.le_of_ble_eq_true rfl, Nat.le_of_ble_eq_true rfl⟩ (fun _ H locs hP hD hS => ?_)
    have hP : va_P z.1 classes (wv z ad E M0) H := hP
    have hD : va_D A (wv z ad E M0) := hD
    refine W.eq (g2 := F0 m 11 ls [.int r0, .ref (ad 41)]) rfl ?_
    obtain ⟨M1, g1, h⟩ := bd_e h
    refine kVN (As := [.int r0]) (rest := []) (s_Po_open l z ad E M0 r0 M1 hL g1) hx hb hml hown hts w_672 n_669 w_671 w_s_229dc4 w_3 md_60bc9b ⟨Nat.le_of_ble_eq_true rfl, Nat.le_of_ble_eq_true rfl⟩ hG hZ hP hD hS hA 41 (wv_o (ci := 9) (yi_41 hL) (yt_41 hL)) rfl rfl rfl hl.1 rfl (Nat.le_of_ble_eq_true rfl) d_1_31_11 ⟨Nat.le_of_ble_eq_true rfl, Nat.le_of_ble_eq_true rfl⟩ (fun _ H locs hP hD hS => ?_)
    have hP : va_P z.1 classes (wv z ad E M1) H := hP
    have hD : va_D A (wv z ad E M1) := hD
    refine W.eq (g2 := F0 m 14 ls []) rfl ?_
    refine lv_aload_n hx hb d_1_31_14 rfl (lv_at hl 0 rfl) ?_
    refine m_gr (j := 41) (C := "Ballothall") (T := TX11) (N := 14) (ci := 11) (k := 1) hx hb hts iX11 hown hG hP (yi_1 hL) (yt_1 hL) rfl (by decide) w_398 (fun _ h9 => h9) rfl rfl (yr_1_1 hL) d_1_31_15 ?_
    obtain ⟨M2, g2, h⟩ := bd_e h
    refine kVN (As := []) (rest := []) (s_Po_findDistances l z ad E M1 M2 hL g2) hx hb hml hown hts w_713 n_710 w_712 w_s_d32e6f w_3 md_4b14b3 ⟨Nat.le_of_ble_eq_true rfl, Nat.le_of_ble_eq_true rfl⟩ hG hZ hP hD hS hA 41 (wv_o (ci := 9) (yi_41 hL) (yt_41 hL)) rfl rfl rfl hl.1 rfl (Nat.le_of_ble_eq_true rfl) d_1_31_18 ⟨Nat.le_of_ble_eq_true rfl, Nat.le_of_ble_eq_true rfl⟩ (fun _ H locs hP hD hS => ?_)
    have hP : va_P z.1 classes (wv z ad E M2) H := hP
    have hD : va_D A (wv z ad E M2) := hD
    refine W.eq (g2 := F0 m 21 ls []) rfl ?_
    refine lv_aload_n hx hb d_1_31_21 rfl (lv_at hl 0 rfl) ?_
    refine m_gr (j := 41) (C := "Ballothall") (T := TX11) (N := 14) (ci := 11) (k := 1) hx hb hts iX11 hown hG hP (yi_1 hL) (yt_1 hL) rfl (by decide) w_398 (fun _ h9 => h9) rfl rfl (yr_1_1 hL) d_1_31_22 ?_
    refine m_grN (j := 50) (C := "Ballothall$Poll") (T := TX9) (N := 12) (ci := 9) (k := 11) hx hb hts iX9 hown hG hP (yi_41 hL) (yt_41 hL) rfl (by decide) n_119 rfl (fun _ h9 => h9) rfl rfl (yr_41_11 hL) d_1_31_25 ?_
    refine lv_aload_n hx hb d_1_31_28 rfl (lv_at hl 0 rfl) ?_
    refine m_gr (j := 2) (C := "Ballothall") (T := TX11) (N := 14) (ci := 11) (k := 0) hx hb hts iX11 hown hG hP (yi_1 hL) (yt_1 hL) rfl (by decide) w_397 (fun _ h9 => h9) rfl rfl (yr_1_0 hL) d_1_31_29 ?_
    obtain ⟨⟨r3, M3⟩, g3, h⟩ := bd_e h
    refine kVN (As := []) (rest := [.ref (ad 50)]) (s_Bx_everybody l z ad E M2 r3 M3 hL g3) hx hb hml hown hts w_668 n_665 w_667 w_s_8b8b67 w_2 md_b59579 ⟨Nat.le_of_ble_eq_true rfl, Nat.le_of_ble_eq_true rfl⟩ hG hZ hP hD hS hA 2 (wv_o (ci := 0) (yi_2 hL) (yt_2 hL)) rfl rfl rfl hl.1 rfl (Nat.le_of_ble_eq_true rfl) d_1_31_32 ⟨Nat.le_of_ble_eq_true rfl, Nat.le_of_ble_eq_true rfl⟩ (fun _ H locs hP hD hS => ?_)
    have hP : va_P z.1 classes (wv z ad E M3) H := hP
    have hD : va_D A (wv z ad E M3) := hD
    refine W.eq (g2 := F0 m 35 ls [.int r3, .ref (ad 50)]) rfl ?_
    obtain ⟨ok4, h⟩ := ck_e h
    refine m_la hx hb hG hP (yi_50 hL) (yt_50 hL) ok4 d_1_31_35 ?_
    obtain ⟨rfl, rfl⟩ := in2 h
    exact W.lret hx hb hr (fun t ht hW => qkA hP hD hS (fun k => k) rfl rfl ht) hS.2.2 d_1_31_36
  exact key _ _ _ hts hP hS
set_option maxRecDepth 100000 in
set_option maxHeartbeats 4000000 in
theorem s_Co_latest (l : Launch) (z : Zz) (ad : Nat → Nat) (E : Ev) (M : Mm) (r : Option Nat) (N : Mm) (hL : Lay E) (h : f_Co_latest E M = some (r, N)) : CT l z ⟨"Ballothall$Counting", "latest", "()LBallothall$Count;"⟩ prog_5_method_2_code 1 (some (.object "Ballothall$Count")) [.ref (ad 179)] (wv z ad E M) 0 20 0 0 (fun _ => some (orf ad r)) (fun _ => wv z ad E N) := by
  refine CT.of (own := "Ballothall$Counting") (by decide +kernel) (Nat.le_of_ble_eq_true rfl) rfl (fun p e s m below meth c A ls hx hb hml hr hts hown hlocks hin hA hG hZ hP hD hS hl => ?_)
  have hl : lv_has ls 1 [(0, .ref (ad 179))] := hl
  have key : ∀ (H : Heap) (locs : List Loc) (args : Array Value), (∀ w ∈ WG, w.before args s = true) → va_P z.1 classes (wv z ad E M) H → va_S A s.heap H locs → W p l e (rmK 0 20 0 0) s m args below meth c H locs 0 0 (MQ below (QK z A (fun _ => some (orf ad r)) (fun _ => wv z ad E N)) args s 0 0 A) (F0 m 0 ls []) := by
    intro H locs args hts hP hS
    unfold f_Co_latest at h
    refine lv_aload_n hx hb d_5_2_0 rfl (lv_at hl 0 rfl) ?_
    refine m_gr (j := 180) (C := "Ballothall$Counting") (T := TX3) (N := 15) (ci := 3) (k := 1) hx hb hts iX3 hown hG hP (yi_179 hL) (yt_179 hL) rfl (by decide) w_304 (fun _ h9 => h9) rfl rfl (yr_179_1 hL) d_5_2_1 ?_
    refine lv_aload_n hx hb d_5_2_4 rfl (lv_at hl 0 rfl) ?_
    refine m_gi (C := "Ballothall$Counting") (T := TX3) (N := 15) (ci := 3) (k := 2) hx hb hts iX3 hown hG hP (yi_179 hL) (yt_179 hL) rfl (by decide) w_305 (fun _ h9 => h9) rfl rfl d_5_2_5 ?_
    obtain ⟨ok0, h⟩ := ck_e h
    refine m_aO (t := 4) (C := "Ballothall$Count") hx hb hG hP (yi_180 hL) (yt_180 hL) rfl rfl ok0 d_5_2_8 ?_
    obtain ⟨rfl, rfl⟩ := in2 h
    exact W.aret hx hb hr (Or.inl ⟨_, rfl⟩) orf_or (fun t ht hW => qkA hP hD hS (fun k => k) rfl rfl ht) hS.2.2 d_5_2_9
  exact key _ _ _ hts hP hS
set_option maxRecDepth 100000 in
set_option maxHeartbeats 4000000 in
theorem b_Na_become_10b (l : Launch) (z : Zz) (ad : Nat → Nat) (E : Ev) (M : Mm) (q0 : Nat) (x3 : Int64) (x5 : Int32) (t : Nat) (w3 : Int64) (w5 : Int32) (N : Mm) {Q : State → Prop} {p : Program} {e : Env} {s : State} {m : MethodId} {below : List Frame} {meth : Method} {c : Code} {A : Nat → Prop} {args : Array Value} (hx : p.tables.exec = Jvm.exec) (hb : c.code = prog_10_method_2_code) (hml : c.maxLocals = 6) (hts : ∀ w ∈ WG, w.before args s = true) (hown : s.vm.findClass "Ballothall$Natural" = some m.cls) (hlocks : meth.locks = false) (hA : ∀ q, s.heap.size ≤ q → A q) (hG : KG z s) (hZ : FZ z A s) (hL : Lay E) (h : Na_become_10b E M q0 x3 x5 = some (t, w3, w5, N)) (k0 : t = 0 → ∀ (H : Heap) (locs : List Loc) (ls : Array Slot), va_P z.1 classes (wv z ad E N) H → va_D A (wv z ad E N) → va_S A s.heap H locs → lv_has ls 6 [(0, .ref (ad q0)), (3, .long w3), (5, .int w5)] → W p l e (rmK 0 20 0 0) s m args below meth c H locs 0 0 Q (F0 m 10 ls [])) (k1 : t = 1 → ∀ (H : Heap) (locs : List Loc) (ls : Array Slot), va_P z.1 classes (wv z ad E N) H → va_D A (wv z ad E N) → va_S A s.heap H locs → lv_has ls 6 [] → W p l e (rmK 0 20 0 0) s m args below meth c H locs 0 0 Q (F0 m 57 ls [])) : ∀ (H : Heap) (locs : List Loc) (ls : Array Slot), va_P z.1 classes (wv z ad E M) H → va_D A (wv z ad E M) → va_S A s.heap H locs → lv_has ls 6 [(0, .ref (ad q0)), (3, .long x3), (5, .int x5)] → W p l e (rmK 0 20 0 0) s m args below meth c H locs 0 0 Q (F0 m 10 ls []) := by
  intro H locs ls hP hD hS hl
  unfold Na_become_10b at h
  obtain ⟨h_q0, h⟩ := ck_e h
  refine lv_iload hx hb d_10_2_10 (lv_at hl 2 rfl) ?_
  refine lv_bipush (v := 13) hx hb d_10_2_12 (by decide +kernel) ?_
  refine lv_icmp_ge (tgt := 57) hx hb d_10_2_14 (by decide) (fun c9 => ?_) (fun c9 => ?_)
  · have h := ite_t c9 h
    obtain ⟨rfl, rfl, rfl, rfl⟩ := in4 h
    exact k1 rfl H locs ls hP hD hS (lv_sub hl [] rfl)
  · have h := ite_f c9 h
    refine lv_lload_n hx hb d_10_2_17 rfl (lv_at hl 1 rfl) ?_
    refine lv_lconst (v := 0) hx hb d_10_2_18 (by decide +kernel) ?_
    refine W.lcmp hx hb d_10_2_19 ?_
    refine lv_if_le (tgt := 57) hx hb d_10_2_20 (by decide) (fun c9 => ?_) (fun c9 => ?_)
    · have h := ite_t c9 h
      obtain ⟨rfl, rfl, rfl, rfl⟩ := in4 h
      exact k1 rfl H locs ls hP hD hS (lv_sub hl [] rfl)
    · have h := ite_f c9 h
      refine lv_aload_n hx hb d_10_2_23 rfl (lv_at hl 0 rfl) ?_
      refine m_gr (j := (q0 + 1)) (C := "Ballothall$Natural") (T := TX8) (N := 2) (ci := 8) (k := 0) hx hb hts iX8 hown hG hP (isNa_i h_q0) (isNa_T h_q0) rfl (by decide) w_294 (fun _ h9 => h9) rfl rfl (isNa_r0 h_q0) d_10_2_24 ?_
      refine lv_iload hx hb d_10_2_27 (lv_at hl 2 rfl) ?_
      refine lv_lload_n hx hb d_10_2_29 rfl (lv_at hl 1 rfl) ?_
      refine lv_ldc2 hx hb hown (hts _ w_605) d_10_2_30 ?_
      refine lv_land hx hb d_10_2_33 ?_
      refine lv_l2i (v := (x3 &&& (1073741823 : Int64)).toInt32) hx hb d_10_2_34 rfl ?_
      obtain ⟨v0, e0, h⟩ := nb_e h
      refine nrm e0.symm ?_
      obtain ⟨ok1, h⟩ := ck_e h
      refine m_is hx hb hG hP hD hS (isNa_i1 h_q0) (isNa_t1 h_q0) ok1 d_10_2_35 (fun H locs hP hD hS => ?_)
      have hP : va_P z.1 classes (wv z ad E (u2 M (q0 + 1) x5.toNatClampNeg v0)) H := hP
      have hD : va_D A (wv z ad E (u2 M (q0 + 1) x5.toNatClampNeg v0)) := hD
      refine lv_lload_n hx hb d_10_2_36 rfl (lv_at hl 1 rfl) ?_
      refine lv_bipush (v := 30) hx hb d_10_2_37 (by decide +kernel) ?_
      refine lv_lshr (v := (x3 >>> ((30 : Int32).toInt64 &&& 63))) hx hb d_10_2_39 rfl ?_
      obtain ⟨v2, e2, h⟩ := nb_e h
      refine nrmL e2.symm ?_
      refine lv_lstore_n (lv' := [(3, .long v2), (0, .ref (ad q0)), (5, .int x5)]) hx hb d_10_2_40 rfl hl (by decide) rfl (fun ls hl => ?_)
      refine lv_aload_n hx hb d_10_2_41 rfl (lv_at hl 1 rfl) ?_
      refine lv_dup hx hb d_10_2_42 rfl ?_
      refine m_gi (C := "Ballothall$Natural") (T := TX8) (N := 2) (ci := 8) (k := 1) hx hb hts iX8 hown hG hP (isNa_i h_q0) (isNa_T h_q0) rfl (by decide) w_295 (fun _ h9 => h9) rfl rfl d_10_2_43 ?_
      refine lv_iconst (v := 1) hx hb d_10_2_46 (by decide +kernel) ?_
      refine lv_iadd hx hb d_10_2_47 ?_
      refine m_pi (C := "Ballothall$Natural") (T := TX8) (N := 2) (ci := 8) (k := 1) (ty := .int) hx hb hts iX8 hown hG hP hD hS (isNa_i h_q0) (isNa_T h_q0) rfl (by decide) w_295 (fun _ h9 => h9) rfl rfl tyX8_ok nmX8 rfl (by decide +kernel) rfl rfl d_10_2_48 (fun H locs hP hD hS => ?_)
      have hP : va_P z.1 classes (wv z ad E (u2 (u2 M (q0 + 1) x5.toNatClampNeg v0) q0 1 (((u2 M (q0 + 1) x5.toNatClampNeg v0).1 q0 1) + (1 : Int32)))) H := hP
      have hD : va_D A (wv z ad E (u2 (u2 M (q0 + 1) x5.toNatClampNeg v0) q0 1 (((u2 M (q0 + 1) x5.toNatClampNeg v0).1 q0 1) + (1 : Int32)))) := hD
      obtain ⟨M3, e3, h⟩ := nb_e h
      rw [← e3] at hP hD
      refine lv_iinc (v := (x5 + 1)) (lv' := [(5, .int (x5 + 1)), (3, .long v2), (0, .ref (ad q0))]) hx hb d_10_2_51 hl (k := 2) rfl (congrArg (fun q => x5 + q) (show Int32.ofInt 1 = 1 by decide +kernel)) (by decide) rfl (fun ls hl => ?_)
      refine lv_goto (tgt := 10) hx hb d_10_2_54 (by decide) ?_
      obtain ⟨rfl, rfl, rfl, rfl⟩ := in4 h
      exact k0 rfl H locs ls hP hD hS (lv_sub hl [2, 1, 0] rfl)
