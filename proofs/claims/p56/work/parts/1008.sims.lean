set_option maxRecDepth 100000 in
set_option maxHeartbeats 4000000 in
theorem s_Li_appendUnit_9 (l : Launch) (z : Zz) (ad : Nat → Nat) (E : Ev) (x1 : Int32) (x2 : Int64) {Q : State → Prop} {p : Program} {e : Env} {s : State} {m : MethodId} {below : List Frame} {meth : Method} {c : Code} {A : Nat → Prop} {args : Array Value} (hx : p.tables.exec = Jvm.exec) (hb : c.code = prog_9_method_7_code) (hml : c.maxLocals = 8) (hts : ∀ w ∈ WG, w.before args s = true) (hown : s.vm.findClass "Ballothall$Lists" = some m.cls) (hlocks : meth.locks = false) (hA : ∀ q, s.heap.size ≤ q → A q) (hG : KG z s) (hZ : FZ z A s) (hL : Lay E) : ∀ (fu : Nat) (M : Mm) (x4 : Int64) (x6 : Int32) (x7 : Int32) (t : Nat) (w4 : Int64) (w6 : Int32) (w7 : Int32) (N : Mm), l_Li_appendUnit_9 E x1 x2 fu M x4 x6 x7 = some (t, w4, w6, w7, N) → (t = 1 → ∀ (H : Heap) (locs : List Loc) (ls : Array Slot), va_P z.1 classes (wv z ad E N) H → va_D A (wv z ad E N) → va_S A s.heap H locs → lv_has ls 8 [(0, .ref (ad 53)), (1, .int x1), (2, .long x2), (4, .long w4), (6, .int w6)] → W p l e (rmK 1 44 0 0) s m args below meth c H locs 0 0 Q (F0 m 50 ls [])) → ∀ (H : Heap) (locs : List Loc) (ls : Array Slot), va_P z.1 classes (wv z ad E M) H → va_D A (wv z ad E M) → va_S A s.heap H locs → lv_has ls 8 [(0, .ref (ad 53)), (1, .int x1), (2, .long x2), (4, .long x4), (6, .int x6), (7, .int x7)] → W p l e (rmK 1 44 0 0) s m args below meth c H locs 0 0 Q (F0 m 9 ls []) := by
  intro fu
  induction fu with
  | zero =>
    intro M x4 x6 x7 t w4 w6 w7 N h
    have h : (none : Option (Nat × Int64 × Int32 × Int32 × Mm)) = some _ := h
    cases h
  | succ fu ih =>
    intro M x4 x6 x7 t w4 w6 w7 N h k1 H locs ls hP hD hS hl
    obtain ⟨⟨t0, w40, w60, w70, N0⟩, g0, h⟩ := bd_e h
    refine b_Li_appendUnit_9b l z ad E M x1 x2 x4 x6 x7 t0 w40 w60 w70 N0 hx hb hml hts hown hlocks hA hG hZ hL g0 (fun e0 => ?_) (fun e0 => ?_) H locs ls hP hD hS hl
    · subst e0
      have h := ite_t rfl h
      exact ih N0 w40 w60 w70 t w4 w6 w7 N h k1
    · subst e0
      have h := ite_f (by decide) h
      obtain ⟨rfl, rfl, rfl, rfl, rfl⟩ := in5 h
      exact k1 rfl
set_option maxRecDepth 100000 in
set_option maxHeartbeats 4000000 in
theorem s_Li_appendUnit (l : Launch) (z : Zz) (ad : Nat → Nat) (E : Ev) (M : Mm) (x1 : Int32) (x2 : Int64) (N : Mm) (hL : Lay E) (h : f_Li_appendUnit E M x1 x2 = some N) : CT l z ⟨"Ballothall$Lists", "appendUnit", "(IJ)V"⟩ prog_9_method_7_code 8 none [.ref (ad 53), .int x1, .long x2] (wv z ad E M) 1 44 0 0 (fun _ => none) (fun _ => wv z ad E N) := by
  refine CT.of (own := "Ballothall$Lists") (by decide +kernel) (Nat.le_of_ble_eq_true rfl) rfl (fun p e s m below meth c A ls hx hb hml hr hts hown hlocks hin hA hG hZ hP hD hS hl => ?_)
  have hl : lv_has ls 8 [(0, .ref (ad 53)), (1, .int x1), (2, .long x2)] := hl
  have key : ∀ (H : Heap) (locs : List Loc) (args : Array Value), (∀ w ∈ WG, w.before args s = true) → va_P z.1 classes (wv z ad E M) H → va_S A s.heap H locs → W p l e (rmK 1 44 0 0) s m args below meth c H locs 0 0 (MQ below (QK z A (fun _ => none) (fun _ => wv z ad E N)) args s 0 0 A) (F0 m 0 ls []) := by
    intro H locs args hts hP hS
    unfold f_Li_appendUnit at h
    refine lv_lconst (v := 0) hx hb d_9_7_0 (by decide +kernel) ?_
    refine lv_lstore (lv' := [(4, .long 0), (0, .ref (ad 53)), (1, .int x1), (2, .long x2)]) hx hb d_9_7_1 hl (by decide) rfl (fun ls hl => ?_)
    refine lv_iconst (v := 0) hx hb d_9_7_3 (by decide +kernel) ?_
    refine lv_istore (lv' := [(6, .int 0), (4, .long 0), (0, .ref (ad 53)), (1, .int x1), (2, .long x2)]) hx hb d_9_7_4 hl (by decide) rfl (fun ls hl => ?_)
    refine lv_iload_n hx hb d_9_7_6 rfl (lv_at hl 3 rfl) ?_
    refine lv_istore (lv' := [(7, .int x1), (6, .int 0), (4, .long 0), (0, .ref (ad 53)), (1, .int x1), (2, .long x2)]) hx hb d_9_7_7 hl (by decide) rfl (fun ls hl => ?_)
    obtain ⟨⟨t3, v3_4, v3_6, v3_7, M3⟩, g3, h⟩ := bd_e h
    obtain ⟨ok3, h⟩ := ck_e h
    refine s_Li_appendUnit_9 l z ad E x1 x2 hx hb hml hts hown hlocks hA hG hZ hL FU M 0 0 x1 t3 v3_4 v3_6 v3_7 M3 g3 (fun e3 H locs ls hP hD hS hl => ?_) H locs ls hP hD hS (lv_sub hl [3, 4, 5, 2, 1, 0] rfl)
    refine lv_lload hx hb d_9_7_50 (lv_at hl 3 rfl) ?_
    refine lv_lconst (v := 0) hx hb d_9_7_52 (by decide +kernel) ?_
    refine W.lcmp hx hb d_9_7_53 ?_
    refine lv_if_le (tgt := 106) hx hb d_9_7_54 (by decide) (fun c9 => ?_) (fun c9 => ?_)
    · have h := ite_t c9 h
      obtain rfl := in1 h
      exact W.vret hx hb hr (fun t ht hW => qkA hP hD hS (fun k => k) rfl rfl ht) hS.2.2 d_9_7_106
    · have h := ite_f c9 h
      refine lv_lload hx hb d_9_7_57 (lv_at hl 3 rfl) ?_
      refine lv_ldc2 hx hb hown (hts _ w_1541) d_9_7_59 ?_
      refine lv_lmul hx hb d_9_7_62 ?_
      refine lv_lload_n hx hb d_9_7_63 rfl (lv_at hl 2 rfl) ?_
      refine W.lcmp hx hb d_9_7_64 ?_
      refine lv_if_lt (tgt := 106) hx hb d_9_7_65 (by decide) (fun c9 => ?_) (fun c9 => ?_)
      · have h := ite_t c9 h
        obtain rfl := in1 h
        exact W.vret hx hb hr (fun t ht hW => qkA hP hD hS (fun k => k) rfl rfl ht) hS.2.2 d_9_7_106
      · have h := ite_f c9 h
        refine lv_aload_n hx hb d_9_7_68 rfl (lv_at hl 0 rfl) ?_
        refine m_gr (j := 57) (C := "Ballothall$Lists") (T := TX7) (N := 11) (ci := 7) (k := 4) hx hb hts iX7 hown hG hP (yi_53 hL) (yt_53 hL) rfl (by decide) w_249 (fun _ h9 => h9) rfl rfl (yr_53_4 hL) d_9_7_69 ?_
        refine lv_iload_n hx hb d_9_7_72 rfl (lv_at hl 1 rfl) ?_
        refine lv_lload hx hb d_9_7_73 (lv_at hl 3 rfl) ?_
        refine lv_aload_n hx hb d_9_7_75 rfl (lv_at hl 0 rfl) ?_
        refine m_gr (j := 56) (C := "Ballothall$Lists") (T := TX7) (N := 11) (ci := 7) (k := 3) hx hb hts iX7 hown hG hP (yi_53 hL) (yt_53 hL) rfl (by decide) w_247 (fun _ h9 => h9) rfl rfl (yr_53_3 hL) d_9_7_76 ?_
        refine lv_iload_n hx hb d_9_7_79 rfl (lv_at hl 1 rfl) ?_
        obtain ⟨ok4, h⟩ := ck_e h
        refine m_ia hx hb hG hP (yi_56 hL) (yt_56 hL) ok4 d_9_7_80 ?_
        obtain ⟨M5, g5, h⟩ := bd_e h
        refine kVN (As := [.int x1, .long v3_4, .int (M3.1 56 x1.toNatClampNeg)]) (rest := []) (s_Di_append l z ad E M3 57 x1 v3_4 (M3.1 56 x1.toNatClampNeg) M5 hL g5) hx hb hml hown hts w_1545 n_1542 w_1544 w_s_198351 w_6 md_35cf58 ⟨Nat.le_of_ble_eq_true rfl, Nat.le_of_ble_eq_true rfl⟩ hG hZ hP hD hS hA 57 (wv_o (ci := 4) (yi_57 hL) (yt_57 hL)) rfl rfl rfl hl.1 rfl (Nat.le_of_ble_eq_true rfl) d_9_7_81 ⟨Nat.le_of_ble_eq_true rfl, Nat.le_of_ble_eq_true rfl⟩ (fun _ H locs hP hD hS => ?_)
        have hP : va_P z.1 classes (wv z ad E M5) H := hP
        have hD : va_D A (wv z ad E M5) := hD
        refine W.eq (g2 := F0 m 84 ls []) rfl ?_
        refine lv_aload_n hx hb d_9_7_84 rfl (lv_at hl 0 rfl) ?_
        refine lv_aload_n hx hb d_9_7_85 rfl (lv_at hl 0 rfl) ?_
        refine m_gi (C := "Ballothall$Lists") (T := TX7) (N := 11) (ci := 7) (k := 6) hx hb hts iX7 hown hG hP (yi_53 hL) (yt_53 hL) rfl (by decide) w_251 (fun _ h9 => h9) rfl rfl d_9_7_86 ?_
        refine lv_if_ne (tgt := 98) hx hb d_9_7_89 (by decide) (fun c9 => ?_) (fun c9 => ?_)
        · have h := ite_f c9 h
          refine lv_iconst (v := 1) hx hb d_9_7_98 (by decide +kernel) ?_
          refine lv_goto (tgt := 103) hx hb d_9_7_99 (by decide) ?_
          refine m_pi (C := "Ballothall$Lists") (T := TX7) (N := 11) (ci := 7) (k := 6) (ty := .boolean) hx hb hts iX7 hown hG hP hD hS (yi_53 hL) (yt_53 hL) rfl (by decide) w_251 (fun _ h9 => h9) rfl rfl tyX7_ok nmX7 rfl (by decide +kernel) rfl rfl d_9_7_103 (fun H locs hP hD hS => ?_)
          have hP : va_P z.1 classes (wv z ad E (u2 M5 53 6 1)) H := hP
          have hD : va_D A (wv z ad E (u2 M5 53 6 1)) := hD
          obtain rfl := in1 h
          exact W.vret hx hb hr (fun t ht hW => qkA hP hD hS (fun k => k) rfl rfl ht) hS.2.2 d_9_7_106
        · have h := ite_t c9 h
          refine lv_iload hx hb d_9_7_92 (lv_at hl 4 rfl) ?_
          refine lv_iconst (v := 1) hx hb d_9_7_94 (by decide +kernel) ?_
          refine lv_icmp_le (tgt := 102) hx hb d_9_7_95 (by decide) (fun c9 => ?_) (fun c9 => ?_)
          · have h := ite_t c9 h
            refine lv_iconst (v := 0) hx hb d_9_7_102 (by decide +kernel) ?_
            refine m_pi (C := "Ballothall$Lists") (T := TX7) (N := 11) (ci := 7) (k := 6) (ty := .boolean) hx hb hts iX7 hown hG hP hD hS (yi_53 hL) (yt_53 hL) rfl (by decide) w_251 (fun _ h9 => h9) rfl rfl tyX7_ok nmX7 rfl (by decide +kernel) rfl rfl d_9_7_103 (fun H locs hP hD hS => ?_)
            have hP : va_P z.1 classes (wv z ad E (u2 M5 53 6 0)) H := hP
            have hD : va_D A (wv z ad E (u2 M5 53 6 0)) := hD
            obtain rfl := in1 h
            exact W.vret hx hb hr (fun t ht hW => qkA hP hD hS (fun k => k) rfl rfl ht) hS.2.2 d_9_7_106
          · have h := ite_f c9 h
            refine lv_iconst (v := 1) hx hb d_9_7_98 (by decide +kernel) ?_
            refine lv_goto (tgt := 103) hx hb d_9_7_99 (by decide) ?_
            refine m_pi (C := "Ballothall$Lists") (T := TX7) (N := 11) (ci := 7) (k := 6) (ty := .boolean) hx hb hts iX7 hown hG hP hD hS (yi_53 hL) (yt_53 hL) rfl (by decide) w_251 (fun _ h9 => h9) rfl rfl tyX7_ok nmX7 rfl (by decide +kernel) rfl rfl d_9_7_103 (fun H locs hP hD hS => ?_)
            have hP : va_P z.1 classes (wv z ad E (u2 M5 53 6 1)) H := hP
            have hD : va_D A (wv z ad E (u2 M5 53 6 1)) := hD
            obtain rfl := in1 h
            exact W.vret hx hb hr (fun t ht hW => qkA hP hD hS (fun k => k) rfl rfl ht) hS.2.2 d_9_7_106
  exact key _ _ _ hts hP hS
set_option maxRecDepth 100000 in
set_option maxHeartbeats 4000000 in
theorem s_Di_give (l : Launch) (z : Zz) (ad : Nat → Nat) (E : Ev) (M : Mm) (p0 : Nat) (x1 : Int32) (N : Mm) (hL : Lay E) (h : f_Di_give E M p0 x1 = some N) : CT l z ⟨"Ballothall$Division", "give", "(I)V"⟩ prog_6_method_4_code 2 none [.ref (ad p0), .int x1] (wv z ad E M) 0 20 0 0 (fun _ => none) (fun _ => wv z ad E N) := by
  refine CT.of (own := "Ballothall$Division") (by decide +kernel) (Nat.le_of_ble_eq_true rfl) rfl (fun p e s m below meth c A ls hx hb hml hr hts hown hlocks hin hA hG hZ hP hD hS hl => ?_)
  have hl : lv_has ls 2 [(0, .ref (ad p0)), (1, .int x1)] := hl
  have key : ∀ (H : Heap) (locs : List Loc) (args : Array Value), (∀ w ∈ WG, w.before args s = true) → va_P z.1 classes (wv z ad E M) H → va_S A s.heap H locs → W p l e (rmK 0 20 0 0) s m args below meth c H locs 0 0 (MQ below (QK z A (fun _ => none) (fun _ => wv z ad E N)) args s 0 0 A) (F0 m 0 ls []) := by
    intro H locs args hts hP hS
    unfold f_Di_give at h
    obtain ⟨h_p0, h⟩ := ck_e h
    refine lv_aload_n hx hb d_6_4_0 rfl (lv_at hl 0 rfl) ?_
    refine m_gr (j := (p0 + 4)) (C := "Ballothall$Division") (T := TX4) (N := 8) (ci := 4) (k := 5) hx hb hts iX4 hown hG hP (isDi_i h_p0) (isDi_T h_p0) rfl (by decide) w_183 (fun _ h9 => h9) rfl rfl (isDi_r5 h_p0) d_6_4_1 ?_
    refine lv_iload_n hx hb d_6_4_4 rfl (lv_at hl 1 rfl) ?_
    refine lv_dup2_11 hx hb d_6_4_5 rfl rfl ?_
    obtain ⟨ok0, h⟩ := ck_e h
    refine m_ia hx hb hG hP (isDi_i4 h_p0) (isDi_t4 h_p0) ok0 d_6_4_6 ?_
    refine lv_iconst (v := 1) hx hb d_6_4_7 (by decide +kernel) ?_
    refine lv_iadd hx hb d_6_4_8 ?_
    obtain ⟨v1, e1, h⟩ := nb_e h
    refine nrm e1.symm ?_
    obtain ⟨ok2, h⟩ := ck_e h
    refine m_is hx hb hG hP hD hS (isDi_i4 h_p0) (isDi_t4 h_p0) ok2 d_6_4_9 (fun H locs hP hD hS => ?_)
    have hP : va_P z.1 classes (wv z ad E (u2 M (p0 + 4) x1.toNatClampNeg v1)) H := hP
    have hD : va_D A (wv z ad E (u2 M (p0 + 4) x1.toNatClampNeg v1)) := hD
    refine lv_aload_n hx hb d_6_4_10 rfl (lv_at hl 0 rfl) ?_
    refine m_gi (C := "Ballothall$Division") (T := TX4) (N := 8) (ci := 4) (k := 1) hx hb hts iX4 hown hG hP (isDi_i h_p0) (isDi_T h_p0) rfl (by decide) w_177 (fun _ h9 => h9) rfl rfl d_6_4_11 ?_
    refine lv_aload_n hx hb d_6_4_14 rfl (lv_at hl 0 rfl) ?_
    refine m_gr (j := (p0 + 6)) (C := "Ballothall$Division") (T := TX4) (N := 8) (ci := 4) (k := 7) hx hb hts iX4 hown hG hP (isDi_i h_p0) (isDi_T h_p0) rfl (by decide) w_186 (fun _ h9 => h9) rfl rfl (isDi_r7 h_p0) d_6_4_15 ?_
    refine m_len (v := 61) hx hb hG hP (isDi_i6 h_p0) (isDi_t6 h_p0) rfl d_6_4_18 ?_
    refine lv_icmp_ge (tgt := 47) hx hb d_6_4_19 (by decide) (fun c9 => ?_) (fun c9 => ?_)
    · have h := ite_t c9 h
      obtain rfl := in1 h
      exact W.vret hx hb hr (fun t ht hW => qkA hP hD hS (fun k => k) rfl rfl ht) hS.2.2 d_6_4_47
    · have h := ite_f c9 h
      refine lv_aload_n hx hb d_6_4_22 rfl (lv_at hl 0 rfl) ?_
      refine m_gr (j := (p0 + 6)) (C := "Ballothall$Division") (T := TX4) (N := 8) (ci := 4) (k := 7) hx hb hts iX4 hown hG hP (isDi_i h_p0) (isDi_T h_p0) rfl (by decide) w_186 (fun _ h9 => h9) rfl rfl (isDi_r7 h_p0) d_6_4_23 ?_
      refine lv_aload_n hx hb d_6_4_26 rfl (lv_at hl 0 rfl) ?_
      refine m_gi (C := "Ballothall$Division") (T := TX4) (N := 8) (ci := 4) (k := 1) hx hb hts iX4 hown hG hP (isDi_i h_p0) (isDi_T h_p0) rfl (by decide) w_177 (fun _ h9 => h9) rfl rfl d_6_4_27 ?_
      refine lv_aload_n hx hb d_6_4_30 rfl (lv_at hl 0 rfl) ?_
      refine m_gr (j := (p0 + 1)) (C := "Ballothall$Division") (T := TX4) (N := 8) (ci := 4) (k := 2) hx hb hts iX4 hown hG hP (isDi_i h_p0) (isDi_T h_p0) rfl (by decide) w_179 (fun _ h9 => h9) rfl rfl (isDi_r2 h_p0) d_6_4_31 ?_
      refine lv_iload_n hx hb d_6_4_34 rfl (lv_at hl 1 rfl) ?_
      obtain ⟨ok3, h⟩ := ck_e h
      refine m_ia hx hb hG hP (isDi_i1 h_p0) (isDi_t1 h_p0) ok3 d_6_4_35 ?_
      obtain ⟨v4, e4, h⟩ := nb_e h
      refine nrm e4.symm ?_
      obtain ⟨ok5, h⟩ := ck_e h
      refine m_is hx hb hG hP hD hS (isDi_i6 h_p0) (isDi_t6 h_p0) ok5 d_6_4_36 (fun H locs hP hD hS => ?_)
      have hP : va_P z.1 classes (wv z ad E (u2 (u2 M (p0 + 4) x1.toNatClampNeg v1) (p0 + 6) ((u2 M (p0 + 4) x1.toNatClampNeg v1).1 p0 1).toNatClampNeg v4)) H := hP
      have hD : va_D A (wv z ad E (u2 (u2 M (p0 + 4) x1.toNatClampNeg v1) (p0 + 6) ((u2 M (p0 + 4) x1.toNatClampNeg v1).1 p0 1).toNatClampNeg v4)) := hD
      obtain ⟨M6, e6, h⟩ := nb_e h
      rw [← e6] at hP hD
      refine lv_aload_n hx hb d_6_4_37 rfl (lv_at hl 0 rfl) ?_
      refine lv_dup hx hb d_6_4_38 rfl ?_
      refine m_gi (C := "Ballothall$Division") (T := TX4) (N := 8) (ci := 4) (k := 1) hx hb hts iX4 hown hG hP (isDi_i h_p0) (isDi_T h_p0) rfl (by decide) w_177 (fun _ h9 => h9) rfl rfl d_6_4_39 ?_
      refine lv_iconst (v := 1) hx hb d_6_4_42 (by decide +kernel) ?_
      refine lv_iadd hx hb d_6_4_43 ?_
      refine m_pi (C := "Ballothall$Division") (T := TX4) (N := 8) (ci := 4) (k := 1) (ty := .int) hx hb hts iX4 hown hG hP hD hS (isDi_i h_p0) (isDi_T h_p0) rfl (by decide) w_177 (fun _ h9 => h9) rfl rfl tyX4_ok nmX4 rfl (by decide +kernel) rfl rfl d_6_4_44 (fun H locs hP hD hS => ?_)
      have hP : va_P z.1 classes (wv z ad E (u2 M6 p0 1 ((M6.1 p0 1) + (1 : Int32)))) H := hP
      have hD : va_D A (wv z ad E (u2 M6 p0 1 ((M6.1 p0 1) + (1 : Int32)))) := hD
      obtain rfl := in1 h
      exact W.vret hx hb hr (fun t ht hW => qkA hP hD hS (fun k => k) rfl rfl ht) hS.2.2 d_6_4_47
  exact key _ _ _ hts hP hS
set_option maxRecDepth 100000 in
set_option maxHeartbeats 4000000 in
theorem s_Di_winsTie (l : Launch) (z : Zz) (ad : Nat → Nat) (E : Ev) (M : Mm) (p0 : Nat) (x1 : Int32) (x2 : Int32) (r : Int32) (N : Mm) (hL : Lay E) (h : f_Di_winsTie E M p0 x1 x2 = some (r, N)) : CT l z ⟨"Ballothall$Division", "winsTie", "(II)Z"⟩ prog_6_method_7_code 3 (some .boolean) [.ref (ad p0), .int x1, .int x2] (wv z ad E M) 0 20 0 0 (fun _ => some (.int r)) (fun _ => wv z ad E N) := by
  refine CT.of (own := "Ballothall$Division") (by decide +kernel) (Nat.le_of_ble_eq_true rfl) rfl (fun p e s m below meth c A ls hx hb hml hr hts hown hlocks hin hA hG hZ hP hD hS hl => ?_)
  have hl : lv_has ls 3 [(0, .ref (ad p0)), (1, .int x1), (2, .int x2)] := hl
  have key : ∀ (H : Heap) (locs : List Loc) (args : Array Value), (∀ w ∈ WG, w.before args s = true) → va_P z.1 classes (wv z ad E M) H → va_S A s.heap H locs → W p l e (rmK 0 20 0 0) s m args below meth c H locs 0 0 (MQ below (QK z A (fun _ => some (.int r)) (fun _ => wv z ad E N)) args s 0 0 A) (F0 m 0 ls []) := by
    intro H locs args hts hP hS
    unfold f_Di_winsTie at h
    obtain ⟨h_p0, h⟩ := ck_e h
    refine lv_aload_n hx hb d_6_7_0 rfl (lv_at hl 0 rfl) ?_
    refine m_gr (j := (p0 + 2)) (C := "Ballothall$Division") (T := TX4) (N := 8) (ci := 4) (k := 3) hx hb hts iX4 hown hG hP (isDi_i h_p0) (isDi_T h_p0) rfl (by decide) w_181 (fun _ h9 => h9) rfl rfl (isDi_r3 h_p0) d_6_7_1 ?_
    refine lv_iload_n hx hb d_6_7_4 rfl (lv_at hl 1 rfl) ?_
    obtain ⟨ok0, h⟩ := ck_e h
    refine m_la hx hb hG hP (isDi_i2 h_p0) (isDi_t2 h_p0) ok0 d_6_7_5 ?_
    refine lv_aload_n hx hb d_6_7_6 rfl (lv_at hl 0 rfl) ?_
    refine m_gr (j := (p0 + 2)) (C := "Ballothall$Division") (T := TX4) (N := 8) (ci := 4) (k := 3) hx hb hts iX4 hown hG hP (isDi_i h_p0) (isDi_T h_p0) rfl (by decide) w_181 (fun _ h9 => h9) rfl rfl (isDi_r3 h_p0) d_6_7_7 ?_
    refine lv_iload_n hx hb d_6_7_10 rfl (lv_at hl 2 rfl) ?_
    obtain ⟨ok1, h⟩ := ck_e h
    refine m_la hx hb hG hP (isDi_i2 h_p0) (isDi_t2 h_p0) ok1 d_6_7_11 ?_
    refine W.lcmp hx hb d_6_7_12 ?_
    refine lv_if_eq (tgt := 38) hx hb d_6_7_13 (by decide) (fun c9 => ?_) (fun c9 => ?_)
    · have h := ite_t c9 h
      refine lv_aload_n hx hb d_6_7_38 rfl (lv_at hl 0 rfl) ?_
      refine m_gr (j := (p0 + 3)) (C := "Ballothall$Division") (T := TX4) (N := 8) (ci := 4) (k := 4) hx hb hts iX4 hown hG hP (isDi_i h_p0) (isDi_T h_p0) rfl (by decide) w_182 (fun _ h9 => h9) rfl rfl (isDi_r4 h_p0) d_6_7_39 ?_
      refine lv_iload_n hx hb d_6_7_42 rfl (lv_at hl 1 rfl) ?_
      obtain ⟨ok2, h⟩ := ck_e h
      refine m_ia hx hb hG hP (isDi_i3 h_p0) (isDi_t3 h_p0) ok2 d_6_7_43 ?_
      refine lv_aload_n hx hb d_6_7_44 rfl (lv_at hl 0 rfl) ?_
      refine m_gr (j := (p0 + 3)) (C := "Ballothall$Division") (T := TX4) (N := 8) (ci := 4) (k := 4) hx hb hts iX4 hown hG hP (isDi_i h_p0) (isDi_T h_p0) rfl (by decide) w_182 (fun _ h9 => h9) rfl rfl (isDi_r4 h_p0) d_6_7_45 ?_
      refine lv_iload_n hx hb d_6_7_48 rfl (lv_at hl 2 rfl) ?_
      obtain ⟨ok3, h⟩ := ck_e h
      refine m_ia hx hb hG hP (isDi_i3 h_p0) (isDi_t3 h_p0) ok3 d_6_7_49 ?_
      refine lv_icmp_lt (tgt := 83) hx hb d_6_7_50 (by decide) (fun c9 => ?_) (fun c9 => ?_)
      · have h := ite_t c9 h
        refine lv_iconst (v := 1) hx hb d_6_7_83 (by decide +kernel) ?_
        refine lv_goto (tgt := 88) hx hb d_6_7_84 (by decide) ?_
        obtain ⟨rfl, rfl⟩ := in2 h
        exact W.zret hx hb hr rfl (fun t ht hW => qkA hP hD hS (fun k => k) rfl rfl ht) hS.2.2 d_6_7_88
      · have h := ite_f c9 h
        refine lv_aload_n hx hb d_6_7_53 rfl (lv_at hl 0 rfl) ?_
        refine m_gr (j := (p0 + 3)) (C := "Ballothall$Division") (T := TX4) (N := 8) (ci := 4) (k := 4) hx hb hts iX4 hown hG hP (isDi_i h_p0) (isDi_T h_p0) rfl (by decide) w_182 (fun _ h9 => h9) rfl rfl (isDi_r4 h_p0) d_6_7_54 ?_
        refine lv_iload_n hx hb d_6_7_57 rfl (lv_at hl 1 rfl) ?_
        obtain ⟨ok4, h⟩ := ck_e h
        refine m_ia hx hb hG hP (isDi_i3 h_p0) (isDi_t3 h_p0) ok4 d_6_7_58 ?_
        refine lv_aload_n hx hb d_6_7_59 rfl (lv_at hl 0 rfl) ?_
        refine m_gr (j := (p0 + 3)) (C := "Ballothall$Division") (T := TX4) (N := 8) (ci := 4) (k := 4) hx hb hts iX4 hown hG hP (isDi_i h_p0) (isDi_T h_p0) rfl (by decide) w_182 (fun _ h9 => h9) rfl rfl (isDi_r4 h_p0) d_6_7_60 ?_
        refine lv_iload_n hx hb d_6_7_63 rfl (lv_at hl 2 rfl) ?_
        obtain ⟨ok5, h⟩ := ck_e h
        refine m_ia hx hb hG hP (isDi_i3 h_p0) (isDi_t3 h_p0) ok5 d_6_7_64 ?_
        refine lv_icmp_ne (tgt := 87) hx hb d_6_7_65 (by decide) (fun c9 => ?_) (fun c9 => ?_)
        · have h := ite_f c9 h
          refine lv_iconst (v := 0) hx hb d_6_7_87 (by decide +kernel) ?_
          obtain ⟨rfl, rfl⟩ := in2 h
          exact W.zret hx hb hr rfl (fun t ht hW => qkA hP hD hS (fun k => k) rfl rfl ht) hS.2.2 d_6_7_88
        · have h := ite_t c9 h
          refine lv_aload_n hx hb d_6_7_68 rfl (lv_at hl 0 rfl) ?_
          refine m_gr (j := (p0 + 1)) (C := "Ballothall$Division") (T := TX4) (N := 8) (ci := 4) (k := 2) hx hb hts iX4 hown hG hP (isDi_i h_p0) (isDi_T h_p0) rfl (by decide) w_179 (fun _ h9 => h9) rfl rfl (isDi_r2 h_p0) d_6_7_69 ?_
          refine lv_iload_n hx hb d_6_7_72 rfl (lv_at hl 1 rfl) ?_
          obtain ⟨ok6, h⟩ := ck_e h
          refine m_ia hx hb hG hP (isDi_i1 h_p0) (isDi_t1 h_p0) ok6 d_6_7_73 ?_
          refine lv_aload_n hx hb d_6_7_74 rfl (lv_at hl 0 rfl) ?_
          refine m_gr (j := (p0 + 1)) (C := "Ballothall$Division") (T := TX4) (N := 8) (ci := 4) (k := 2) hx hb hts iX4 hown hG hP (isDi_i h_p0) (isDi_T h_p0) rfl (by decide) w_179 (fun _ h9 => h9) rfl rfl (isDi_r2 h_p0) d_6_7_75 ?_
          refine lv_iload_n hx hb d_6_7_78 rfl (lv_at hl 2 rfl) ?_
          obtain ⟨ok7, h⟩ := ck_e h
          refine m_ia hx hb hG hP (isDi_i1 h_p0) (isDi_t1 h_p0) ok7 d_6_7_79 ?_
          refine lv_icmp_ge (tgt := 87) hx hb d_6_7_80 (by decide) (fun c9 => ?_) (fun c9 => ?_)
          · have h := ite_t c9 h
            refine lv_iconst (v := 0) hx hb d_6_7_87 (by decide +kernel) ?_
            obtain ⟨rfl, rfl⟩ := in2 h
            exact W.zret hx hb hr rfl (fun t ht hW => qkA hP hD hS (fun k => k) rfl rfl ht) hS.2.2 d_6_7_88
          · have h := ite_f c9 h
            refine lv_iconst (v := 1) hx hb d_6_7_83 (by decide +kernel) ?_
            refine lv_goto (tgt := 88) hx hb d_6_7_84 (by decide) ?_
            obtain ⟨rfl, rfl⟩ := in2 h
            exact W.zret hx hb hr rfl (fun t ht hW => qkA hP hD hS (fun k => k) rfl rfl ht) hS.2.2 d_6_7_88
    · have h := ite_f c9 h
      refine lv_aload_n hx hb d_6_7_16 rfl (lv_at hl 0 rfl) ?_
      refine m_gr (j := (p0 + 2)) (C := "Ballothall$Division") (T := TX4) (N := 8) (ci := 4) (k := 3) hx hb hts iX4 hown hG hP (isDi_i h_p0) (isDi_T h_p0) rfl (by decide) w_181 (fun _ h9 => h9) rfl rfl (isDi_r3 h_p0) d_6_7_17 ?_
      refine lv_iload_n hx hb d_6_7_20 rfl (lv_at hl 1 rfl) ?_
      obtain ⟨ok8, h⟩ := ck_e h
      refine m_la hx hb hG hP (isDi_i2 h_p0) (isDi_t2 h_p0) ok8 d_6_7_21 ?_
      refine lv_aload_n hx hb d_6_7_22 rfl (lv_at hl 0 rfl) ?_
      refine m_gr (j := (p0 + 2)) (C := "Ballothall$Division") (T := TX4) (N := 8) (ci := 4) (k := 3) hx hb hts iX4 hown hG hP (isDi_i h_p0) (isDi_T h_p0) rfl (by decide) w_181 (fun _ h9 => h9) rfl rfl (isDi_r3 h_p0) d_6_7_23 ?_
      refine lv_iload_n hx hb d_6_7_26 rfl (lv_at hl 2 rfl) ?_
      obtain ⟨ok9, h⟩ := ck_e h
      refine m_la hx hb hG hP (isDi_i2 h_p0) (isDi_t2 h_p0) ok9 d_6_7_27 ?_
      refine W.lcmp hx hb d_6_7_28 ?_
      refine lv_if_le (tgt := 36) hx hb d_6_7_29 (by decide) (fun c9 => ?_) (fun c9 => ?_)
      · have h := ite_t c9 h
        refine lv_iconst (v := 0) hx hb d_6_7_36 (by decide +kernel) ?_
        obtain ⟨rfl, rfl⟩ := in2 h
        exact W.zret hx hb hr rfl (fun t ht hW => qkA hP hD hS (fun k => k) rfl rfl ht) hS.2.2 d_6_7_37
      · have h := ite_f c9 h
        refine lv_iconst (v := 1) hx hb d_6_7_32 (by decide +kernel) ?_
        refine lv_goto (tgt := 37) hx hb d_6_7_33 (by decide) ?_
        obtain ⟨rfl, rfl⟩ := in2 h
        exact W.zret hx hb hr rfl (fun t ht hW => qkA hP hD hS (fun k => k) rfl rfl ht) hS.2.2 d_6_7_37
  exact key _ _ _ hts hP hS
set_option maxRecDepth 100000 in
set_option maxHeartbeats 4000000 in
theorem b_Di_giveToGreatestRemainder_4b (l : Launch) (z : Zz) (ad : Nat → Nat) (E : Ev) (M : Mm) (q0 : Nat) (x1 : Int32) (x2 : Int32) (t : Nat) (w1 : Int32) (w2 : Int32) (N : Mm) {Q : State → Prop} {p : Program} {e : Env} {s : State} {m : MethodId} {below : List Frame} {meth : Method} {c : Code} {A : Nat → Prop} {args : Array Value} (hx : p.tables.exec = Jvm.exec) (hb : c.code = prog_6_method_10_code) (hml : c.maxLocals = 3) (hts : ∀ w ∈ WG, w.before args s = true) (hown : s.vm.findClass "Ballothall$Division" = some m.cls) (hlocks : meth.locks = false) (hA : ∀ q, s.heap.size ≤ q → A q) (hG : KG z s) (hZ : FZ z A s) (hL : Lay E) (h : Di_giveToGreatestRemainder_4b E M q0 x1 x2 = some (t, w1, w2, N)) (k0 : t = 0 → ∀ (H : Heap) (locs : List Loc) (ls : Array Slot), va_P z.1 classes (wv z ad E N) H → va_D A (wv z ad E N) → va_S A s.heap H locs → lv_has ls 3 [(0, .ref (ad q0)), (1, .int w1), (2, .int w2)] → W p l e (rmK 1 42 0 0) s m args below meth c H locs 0 0 Q (F0 m 4 ls [])) (k1 : t = 1 → ∀ (H : Heap) (locs : List Loc) (ls : Array Slot), va_P z.1 classes (wv z ad E N) H → va_D A (wv z ad E N) → va_S A s.heap H locs → lv_has ls 3 [(0, .ref (ad q0)), (1, .int w1)] → W p l e (rmK 1 42 0 0) s m args below meth c H locs 0 0 Q (F0 m 61 ls [])) : ∀ (H : Heap) (locs : List Loc) (ls : Array Slot), va_P z.1 classes (wv z ad E M) H → va_D A (wv z ad E M) → va_S A s.heap H locs → lv_has ls 3 [(0, .ref (ad q0)), (1, .int x1), (2, .int x2)] → W p l e (rmK 1 42 0 0) s m args below meth c H locs 0 0 Q (F0 m 4 ls []) := by
  intro H locs ls hP hD hS hl
  unfold Di_giveToGreatestRemainder_4b at h
  obtain ⟨h_q0, h⟩ := ck_e h
  refine lv_iload_n hx hb d_6_10_4 rfl (lv_at hl 2 rfl) ?_
  refine lv_aload_n hx hb d_6_10_5 rfl (lv_at hl 0 rfl) ?_
  refine m_gi (C := "Ballothall$Division") (T := TX4) (N := 8) (ci := 4) (k := 0) hx hb hts iX4 hown hG hP (isDi_i h_q0) (isDi_T h_q0) rfl (by decide) w_175 (fun _ h9 => h9) rfl rfl d_6_10_6 ?_
  refine lv_icmp_ge (tgt := 61) hx hb d_6_10_9 (by decide) (fun c9 => ?_) (fun c9 => ?_)
  · have h := ite_t c9 h
    obtain ⟨rfl, rfl, rfl, rfl⟩ := in4 h
    exact k1 rfl H locs ls hP hD hS (lv_sub hl [0, 1] rfl)
  · have h := ite_f c9 h
    refine lv_aload_n hx hb d_6_10_12 rfl (lv_at hl 0 rfl) ?_
    refine m_gr (j := (q0 + 5)) (C := "Ballothall$Division") (T := TX4) (N := 8) (ci := 4) (k := 6) hx hb hts iX4 hown hG hP (isDi_i h_q0) (isDi_T h_q0) rfl (by decide) w_185 (fun _ h9 => h9) rfl rfl (isDi_r6 h_q0) d_6_10_13 ?_
    refine lv_iload_n hx hb d_6_10_16 rfl (lv_at hl 2 rfl) ?_
    obtain ⟨ok0, h⟩ := ck_e h
    refine m_la hx hb hG hP (isDi_i5 h_q0) (isDi_t5 h_q0) ok0 d_6_10_17 ?_
    refine lv_aload_n hx hb d_6_10_18 rfl (lv_at hl 0 rfl) ?_
    refine m_gr (j := (q0 + 5)) (C := "Ballothall$Division") (T := TX4) (N := 8) (ci := 4) (k := 6) hx hb hts iX4 hown hG hP (isDi_i h_q0) (isDi_T h_q0) rfl (by decide) w_185 (fun _ h9 => h9) rfl rfl (isDi_r6 h_q0) d_6_10_19 ?_
    refine lv_iload_n hx hb d_6_10_22 rfl (lv_at hl 1 rfl) ?_
    obtain ⟨ok1, h⟩ := ck_e h
    refine m_la hx hb hG hP (isDi_i5 h_q0) (isDi_t5 h_q0) ok1 d_6_10_23 ?_
    refine W.lcmp hx hb d_6_10_24 ?_
    refine lv_if_gt (tgt := 53) hx hb d_6_10_25 (by decide) (fun c9 => ?_) (fun c9 => ?_)
    · have h := ite_t c9 h
      refine lv_iload_n hx hb d_6_10_53 rfl (lv_at hl 2 rfl) ?_
      refine lv_istore_n (lv' := [(1, .int x2), (0, .ref (ad q0)), (2, .int x2)]) hx hb d_6_10_54 rfl hl (by decide) rfl (fun ls hl => ?_)
      refine lv_iinc (v := (x2 + 1)) (lv' := [(2, .int (x2 + 1)), (1, .int x2), (0, .ref (ad q0))]) hx hb d_6_10_55 hl (k := 2) rfl (congrArg (fun q => x2 + q) (show Int32.ofInt 1 = 1 by decide +kernel)) (by decide) rfl (fun ls hl => ?_)
      refine lv_goto (tgt := 4) hx hb d_6_10_58 (by decide) ?_
      obtain ⟨rfl, rfl, rfl, rfl⟩ := in4 h
      exact k0 rfl H locs ls hP hD hS (lv_sub hl [2, 1, 0] rfl)
    · have h := ite_f c9 h
      refine lv_aload_n hx hb d_6_10_28 rfl (lv_at hl 0 rfl) ?_
      refine m_gr (j := (q0 + 5)) (C := "Ballothall$Division") (T := TX4) (N := 8) (ci := 4) (k := 6) hx hb hts iX4 hown hG hP (isDi_i h_q0) (isDi_T h_q0) rfl (by decide) w_185 (fun _ h9 => h9) rfl rfl (isDi_r6 h_q0) d_6_10_29 ?_
      refine lv_iload_n hx hb d_6_10_32 rfl (lv_at hl 2 rfl) ?_
      obtain ⟨ok2, h⟩ := ck_e h
      refine m_la hx hb hG hP (isDi_i5 h_q0) (isDi_t5 h_q0) ok2 d_6_10_33 ?_
      refine lv_aload_n hx hb d_6_10_34 rfl (lv_at hl 0 rfl) ?_
      refine m_gr (j := (q0 + 5)) (C := "Ballothall$Division") (T := TX4) (N := 8) (ci := 4) (k := 6) hx hb hts iX4 hown hG hP (isDi_i h_q0) (isDi_T h_q0) rfl (by decide) w_185 (fun _ h9 => h9) rfl rfl (isDi_r6 h_q0) d_6_10_35 ?_
      refine lv_iload_n hx hb d_6_10_38 rfl (lv_at hl 1 rfl) ?_
      obtain ⟨ok3, h⟩ := ck_e h
      refine m_la hx hb hG hP (isDi_i5 h_q0) (isDi_t5 h_q0) ok3 d_6_10_39 ?_
      refine W.lcmp hx hb d_6_10_40 ?_
      refine lv_if_ne (tgt := 55) hx hb d_6_10_41 (by decide) (fun c9 => ?_) (fun c9 => ?_)
      · have h := ite_f c9 h
        refine lv_iinc (v := (x2 + 1)) (lv' := [(2, .int (x2 + 1)), (0, .ref (ad q0)), (1, .int x1)]) hx hb d_6_10_55 hl (k := 2) rfl (congrArg (fun q => x2 + q) (show Int32.ofInt 1 = 1 by decide +kernel)) (by decide) rfl (fun ls hl => ?_)
        refine lv_goto (tgt := 4) hx hb d_6_10_58 (by decide) ?_
        obtain ⟨rfl, rfl, rfl, rfl⟩ := in4 h
        exact k0 rfl H locs ls hP hD hS (lv_sub hl [1, 2, 0] rfl)
      · have h := ite_t c9 h
        refine lv_aload_n hx hb d_6_10_44 rfl (lv_at hl 0 rfl) ?_
        refine lv_iload_n hx hb d_6_10_45 rfl (lv_at hl 2 rfl) ?_
        refine lv_iload_n hx hb d_6_10_46 rfl (lv_at hl 1 rfl) ?_
        obtain ⟨⟨r4, M4⟩, g4, h⟩ := bd_e h
        refine kV (As := [.int x2, .int x1]) (rest := []) (s_Di_winsTie l z ad E M q0 x2 x1 r4 M4 hL g4) hx hb hml hown hts w_1565 w_1562 w_1564 w_s_84fd95 w_6 md_77b7c9 ⟨Nat.le_of_ble_eq_true rfl, Nat.le_of_ble_eq_true rfl⟩ hG hZ hP hD hS hA q0 (wv_o (ci := 4) (isDi_i h_q0) (isDi_T h_q0)) rfl rfl rfl hl.1 rfl (Nat.le_of_ble_eq_true rfl) d_6_10_47 ⟨Nat.le_of_ble_eq_true rfl, Nat.le_of_ble_eq_true rfl⟩ (fun _ H locs hP hD hS => ?_)
        have hP : va_P z.1 classes (wv z ad E M4) H := hP
        have hD : va_D A (wv z ad E M4) := hD
        refine W.eq (g2 := F0 m 50 ls [.int r4]) rfl ?_
        refine lv_if_eq (tgt := 55) hx hb d_6_10_50 (by decide) (fun c9 => ?_) (fun c9 => ?_)
        · have h := ite_t c9 h
          refine lv_iinc (v := (x2 + 1)) (lv' := [(2, .int (x2 + 1)), (0, .ref (ad q0)), (1, .int x1)]) hx hb d_6_10_55 hl (k := 2) rfl (congrArg (fun q => x2 + q) (show Int32.ofInt 1 = 1 by decide +kernel)) (by decide) rfl (fun ls hl => ?_)
          refine lv_goto (tgt := 4) hx hb d_6_10_58 (by decide) ?_
          obtain ⟨rfl, rfl, rfl, rfl⟩ := in4 h
          exact k0 rfl H locs ls hP hD hS (lv_sub hl [1, 2, 0] rfl)
        · have h := ite_f c9 h
          refine lv_iload_n hx hb d_6_10_53 rfl (lv_at hl 2 rfl) ?_
          refine lv_istore_n (lv' := [(1, .int x2), (0, .ref (ad q0)), (2, .int x2)]) hx hb d_6_10_54 rfl hl (by decide) rfl (fun ls hl => ?_)
          refine lv_iinc (v := (x2 + 1)) (lv' := [(2, .int (x2 + 1)), (1, .int x2), (0, .ref (ad q0))]) hx hb d_6_10_55 hl (k := 2) rfl (congrArg (fun q => x2 + q) (show Int32.ofInt 1 = 1 by decide +kernel)) (by decide) rfl (fun ls hl => ?_)
          refine lv_goto (tgt := 4) hx hb d_6_10_58 (by decide) ?_
          obtain ⟨rfl, rfl, rfl, rfl⟩ := in4 h
          exact k0 rfl H locs ls hP hD hS (lv_sub hl [2, 1, 0] rfl)
set_option maxRecDepth 100000 in
set_option maxHeartbeats 4000000 in
theorem s_Di_giveToGreatestRemainder_4 (l : Launch) (z : Zz) (ad : Nat → Nat) (E : Ev) (q0 : Nat) {Q : State → Prop} {p : Program} {e : Env} {s : State} {m : MethodId} {below : List Frame} {meth : Method} {c : Code} {A : Nat → Prop} {args : Array Value} (hx : p.tables.exec = Jvm.exec) (hb : c.code = prog_6_method_10_code) (hml : c.maxLocals = 3) (hts : ∀ w ∈ WG, w.before args s = true) (hown : s.vm.findClass "Ballothall$Division" = some m.cls) (hlocks : meth.locks = false) (hA : ∀ q, s.heap.size ≤ q → A q) (hG : KG z s) (hZ : FZ z A s) (hL : Lay E) : ∀ (fu : Nat) (M : Mm) (x1 : Int32) (x2 : Int32) (t : Nat) (w1 : Int32) (w2 : Int32) (N : Mm), l_Di_giveToGreatestRemainder_4 E q0 fu M x1 x2 = some (t, w1, w2, N) → (t = 1 → ∀ (H : Heap) (locs : List Loc) (ls : Array Slot), va_P z.1 classes (wv z ad E N) H → va_D A (wv z ad E N) → va_S A s.heap H locs → lv_has ls 3 [(0, .ref (ad q0)), (1, .int w1)] → W p l e (rmK 1 42 0 0) s m args below meth c H locs 0 0 Q (F0 m 61 ls [])) → ∀ (H : Heap) (locs : List Loc) (ls : Array Slot), va_P z.1 classes (wv z ad E M) H → va_D A (wv z ad E M) → va_S A s.heap H locs → lv_has ls 3 [(0, .ref (ad q0)), (1, .int x1), (2, .int x2)] → W p l e (rmK 1 42 0 0) s m args below meth c H locs 0 0 Q (F0 m 4 ls []) := by
  intro fu
  induction fu with
  | zero =>
    intro M x1 x2 t w1 w2 N h
    have h : (none : Option (Nat × Int32 × Int32 × Mm)) = some _ := h
    cases h
  | succ fu ih =>
    intro M x1 x2 t w1 w2 N h k1 H locs ls hP hD hS hl
    obtain ⟨⟨t0, w10, w20, N0⟩, g0, h⟩ := bd_e h
    refine b_Di_giveToGreatestRemainder_4b l z ad E M q0 x1 x2 t0 w10 w20 N0 hx hb hml hts hown hlocks hA hG hZ hL g0 (fun e0 => ?_) (fun e0 => ?_) H locs ls hP hD hS hl
    · subst e0
      have h := ite_t rfl h
      exact ih N0 w10 w20 t w1 w2 N h k1
    · subst e0
      have h := ite_f (by decide) h
      obtain ⟨rfl, rfl, rfl, rfl⟩ := in4 h
      exact k1 rfl
set_option maxRecDepth 100000 in
set_option maxHeartbeats 4000000 in
theorem s_Di_giveToGreatestRemainder (l : Launch) (z : Zz) (ad : Nat → Nat) (E : Ev) (M : Mm) (p0 : Nat) (N : Mm) (hL : Lay E) (h : f_Di_giveToGreatestRemainder E M p0 = some N) : CT l z ⟨"Ballothall$Division", "giveToGreatestRemainder", "()V"⟩ prog_6_method_10_code 3 none [.ref (ad p0)] (wv z ad E M) 1 42 0 0 (fun _ => none) (fun _ => wv z ad E N) := by
  refine CT.of (own := "Ballothall$Division") (by decide +kernel) (Nat.le_of_ble_eq_true rfl) rfl (fun p e s m below meth c A ls hx hb hml hr hts hown hlocks hin hA hG hZ hP hD hS hl => ?_)
  have hl : lv_has ls 3 [(0, .ref (ad p0))] := hl
  have key : ∀ (H : Heap) (locs : List Loc) (args : Array Value), (∀ w ∈ WG, w.before args s = true) → va_P z.1 classes (wv z ad E M) H → va_S A s.heap H locs → W p l e (rmK 1 42 0 0) s m args below meth c H locs 0 0 (MQ below (QK z A (fun _ => none) (fun _ => wv z ad E N)) args s 0 0 A) (F0 m 0 ls []) := by
    intro H locs args hts hP hS
    unfold f_Di_giveToGreatestRemainder at h
    obtain ⟨h_p0, h⟩ := ck_e h
    refine lv_iconst (v := 0) hx hb d_6_10_0 (by decide +kernel) ?_
    refine lv_istore_n (lv' := [(1, .int 0), (0, .ref (ad p0))]) hx hb d_6_10_1 rfl hl (by decide) rfl (fun ls hl => ?_)
    refine lv_iconst (v := 1) hx hb d_6_10_2 (by decide +kernel) ?_
    refine lv_istore_n (lv' := [(2, .int 1), (1, .int 0), (0, .ref (ad p0))]) hx hb d_6_10_3 rfl hl (by decide) rfl (fun ls hl => ?_)
    obtain ⟨⟨t5, v5_1, v5_2, M5⟩, g5, h⟩ := bd_e h
    obtain ⟨ok5, h⟩ := ck_e h
    refine s_Di_giveToGreatestRemainder_4 l z ad E p0 hx hb hml hts hown hlocks hA hG hZ hL FU M 0 1 t5 v5_1 v5_2 M5 g5 (fun e5 H locs ls hP hD hS hl => ?_) H locs ls hP hD hS (lv_sub hl [2, 1, 0] rfl)
    refine lv_aload_n hx hb d_6_10_61 rfl (lv_at hl 0 rfl) ?_
    refine lv_iload_n hx hb d_6_10_62 rfl (lv_at hl 1 rfl) ?_
    obtain ⟨M6, g6, h⟩ := bd_e h
    refine kV (As := [.int v5_1]) (rest := []) (s_Di_give l z ad E M5 p0 v5_1 M6 hL g6) hx hb hml hown hts w_1557 w_1554 w_1556 w_s_8d192b w_6 md_306e32 ⟨Nat.le_of_ble_eq_true rfl, Nat.le_of_ble_eq_true rfl⟩ hG hZ hP hD hS hA p0 (wv_o (ci := 4) (isDi_i h_p0) (isDi_T h_p0)) rfl rfl rfl hl.1 rfl (Nat.le_of_ble_eq_true rfl) d_6_10_63 ⟨Nat.le_of_ble_eq_true rfl, Nat.le_of_ble_eq_true rfl⟩ (fun _ H locs hP hD hS => ?_)
    have hP : va_P z.1 classes (wv z ad E M6) H := hP
    have hD : va_D A (wv z ad E M6) := hD
    refine W.eq (g2 := F0 m 66 ls []) rfl ?_
    refine lv_aload_n hx hb d_6_10_66 rfl (lv_at hl 0 rfl) ?_
    refine m_gr (j := (p0 + 5)) (C := "Ballothall$Division") (T := TX4) (N := 8) (ci := 4) (k := 6) hx hb hts iX4 hown hG hP (isDi_i h_p0) (isDi_T h_p0) rfl (by decide) w_185 (fun _ h9 => h9) rfl rfl (isDi_r6 h_p0) d_6_10_67 ?_
    refine lv_iload_n hx hb d_6_10_70 rfl (lv_at hl 1 rfl) ?_
    refine lv_ldc2 hx hb hown (hts _ w_1566) d_6_10_71 ?_
    obtain ⟨ok7, h⟩ := ck_e h
    refine m_ls hx hb hG hP hD hS (isDi_i5 h_p0) (isDi_t5 h_p0) ok7 d_6_10_74 (fun H locs hP hD hS => ?_)
    have hP : va_P z.1 classes (wv z ad E (uL M6 (p0 + 5) v5_1.toNatClampNeg (-1))) H := hP
    have hD : va_D A (wv z ad E (uL M6 (p0 + 5) v5_1.toNatClampNeg (-1))) := hD
    obtain rfl := in1 h
    exact W.vret hx hb hr (fun t ht hW => qkA hP hD hS (fun k => k) rfl rfl ht) hS.2.2 d_6_10_75
  exact key _ _ _ hts hP hS
set_option maxRecDepth 100000 in
set_option maxHeartbeats 4000000 in
theorem b_Di_distributeByRemainders_5b (l : Launch) (z : Zz) (ad : Nat → Nat) (E : Ev) (M : Mm) (q0 : Nat) (x1 : Int32) (x2 : Int64) (x4 : Int32) (t : Nat) (w2 : Int64) (w4 : Int32) (N : Mm) {Q : State → Prop} {p : Program} {e : Env} {s : State} {m : MethodId} {below : List Frame} {meth : Method} {c : Code} {A : Nat → Prop} {args : Array Value} (hx : p.tables.exec = Jvm.exec) (hb : c.code = prog_6_method_9_code) (hml : c.maxLocals = 8) (hts : ∀ w ∈ WG, w.before args s = true) (hown : s.vm.findClass "Ballothall$Division" = some m.cls) (hlocks : meth.locks = false) (hA : ∀ q, s.heap.size ≤ q → A q) (hG : KG z s) (hZ : FZ z A s) (hL : Lay E) (h : Di_distributeByRemainders_5b E M q0 x1 x2 x4 = some (t, w2, w4, N)) (k0 : t = 0 → ∀ (H : Heap) (locs : List Loc) (ls : Array Slot), va_P z.1 classes (wv z ad E N) H → va_D A (wv z ad E N) → va_S A s.heap H locs → lv_has ls 8 [(0, .ref (ad q0)), (1, .int x1), (2, .long w2), (4, .int w4)] → W p l e (rmK 2 64 0 0) s m args below meth c H locs 0 0 Q (F0 m 5 ls [])) (k1 : t = 1 → ∀ (H : Heap) (locs : List Loc) (ls : Array Slot), va_P z.1 classes (wv z ad E N) H → va_D A (wv z ad E N) → va_S A s.heap H locs → lv_has ls 8 [(0, .ref (ad q0)), (1, .int x1), (2, .long w2)] → W p l e (rmK 2 64 0 0) s m args below meth c H locs 0 0 Q (F0 m 30 ls [])) : ∀ (H : Heap) (locs : List Loc) (ls : Array Slot), va_P z.1 classes (wv z ad E M) H → va_D A (wv z ad E M) → va_S A s.heap H locs → lv_has ls 8 [(0, .ref (ad q0)), (1, .int x1), (2, .long x2), (4, .int x4)] → W p l e (rmK 2 64 0 0) s m args below meth c H locs 0 0 Q (F0 m 5 ls []) := by
  intro H locs ls hP hD hS hl
  unfold Di_distributeByRemainders_5b at h
  obtain ⟨h_q0, h⟩ := ck_e h
  refine lv_iload hx hb d_6_9_5 (lv_at hl 3 rfl) ?_
  refine lv_aload_n hx hb d_6_9_7 rfl (lv_at hl 0 rfl) ?_
  refine m_gi (C := "Ballothall$Division") (T := TX4) (N := 8) (ci := 4) (k := 0) hx hb hts iX4 hown hG hP (isDi_i h_q0) (isDi_T h_q0) rfl (by decide) w_175 (fun _ h9 => h9) rfl rfl d_6_9_8 ?_
  refine lv_icmp_ge (tgt := 30) hx hb d_6_9_11 (by decide) (fun c9 => ?_) (fun c9 => ?_)
  · have h := ite_t c9 h
    obtain ⟨rfl, rfl, rfl, rfl⟩ := in4 h
    exact k1 rfl H locs ls hP hD hS (lv_sub hl [0, 1, 2] rfl)
  · have h := ite_f c9 h
    refine lv_lload_n hx hb d_6_9_14 rfl (lv_at hl 2 rfl) ?_
    refine lv_aload_n hx hb d_6_9_15 rfl (lv_at hl 0 rfl) ?_
    refine m_gr (j := (q0 + 2)) (C := "Ballothall$Division") (T := TX4) (N := 8) (ci := 4) (k := 3) hx hb hts iX4 hown hG hP (isDi_i h_q0) (isDi_T h_q0) rfl (by decide) w_181 (fun _ h9 => h9) rfl rfl (isDi_r3 h_q0) d_6_9_16 ?_
    refine lv_iload hx hb d_6_9_19 (lv_at hl 3 rfl) ?_
    obtain ⟨ok0, h⟩ := ck_e h
    refine m_la hx hb hG hP (isDi_i2 h_q0) (isDi_t2 h_q0) ok0 d_6_9_21 ?_
    refine lv_ladd hx hb d_6_9_22 ?_
    obtain ⟨v1, e1, h⟩ := nb_e h
    refine nrmL e1.symm ?_
    refine lv_lstore_n (lv' := [(2, .long v1), (0, .ref (ad q0)), (1, .int x1), (4, .int x4)]) hx hb d_6_9_23 rfl hl (by decide) rfl (fun ls hl => ?_)
    refine lv_iinc (v := (x4 + 1)) (lv' := [(4, .int (x4 + 1)), (2, .long v1), (0, .ref (ad q0)), (1, .int x1)]) hx hb d_6_9_24 hl (k := 3) rfl (congrArg (fun q => x4 + q) (show Int32.ofInt 1 = 1 by decide +kernel)) (by decide) rfl (fun ls hl => ?_)
    refine lv_goto (tgt := 5) hx hb d_6_9_27 (by decide) ?_
    obtain ⟨rfl, rfl, rfl, rfl⟩ := in4 h
    exact k0 rfl H locs ls hP hD hS (lv_sub hl [2, 3, 1, 0] rfl)
set_option maxRecDepth 100000 in
set_option maxHeartbeats 4000000 in
theorem s_Di_distributeByRemainders_5 (l : Launch) (z : Zz) (ad : Nat → Nat) (E : Ev) (q0 : Nat) (x1 : Int32) {Q : State → Prop} {p : Program} {e : Env} {s : State} {m : MethodId} {below : List Frame} {meth : Method} {c : Code} {A : Nat → Prop} {args : Array Value} (hx : p.tables.exec = Jvm.exec) (hb : c.code = prog_6_method_9_code) (hml : c.maxLocals = 8) (hts : ∀ w ∈ WG, w.before args s = true) (hown : s.vm.findClass "Ballothall$Division" = some m.cls) (hlocks : meth.locks = false) (hA : ∀ q, s.heap.size ≤ q → A q) (hG : KG z s) (hZ : FZ z A s) (hL : Lay E) : ∀ (fu : Nat) (M : Mm) (x2 : Int64) (x4 : Int32) (t : Nat) (w2 : Int64) (w4 : Int32) (N : Mm), l_Di_distributeByRemainders_5 E q0 x1 fu M x2 x4 = some (t, w2, w4, N) → (t = 1 → ∀ (H : Heap) (locs : List Loc) (ls : Array Slot), va_P z.1 classes (wv z ad E N) H → va_D A (wv z ad E N) → va_S A s.heap H locs → lv_has ls 8 [(0, .ref (ad q0)), (1, .int x1), (2, .long w2)] → W p l e (rmK 2 64 0 0) s m args below meth c H locs 0 0 Q (F0 m 30 ls [])) → ∀ (H : Heap) (locs : List Loc) (ls : Array Slot), va_P z.1 classes (wv z ad E M) H → va_D A (wv z ad E M) → va_S A s.heap H locs → lv_has ls 8 [(0, .ref (ad q0)), (1, .int x1), (2, .long x2), (4, .int x4)] → W p l e (rmK 2 64 0 0) s m args below meth c H locs 0 0 Q (F0 m 5 ls []) := by
  intro fu
  induction fu with
  | zero =>
    intro M x2 x4 t w2 w4 N h
    have h : (none : Option (Nat × Int64 × Int32 × Mm)) = some _ := h
    cases h
  | succ fu ih =>
    intro M x2 x4 t w2 w4 N h k1 H locs ls hP hD hS hl
    obtain ⟨⟨t0, w20, w40, N0⟩, g0, h⟩ := bd_e h
    refine b_Di_distributeByRemainders_5b l z ad E M q0 x1 x2 x4 t0 w20 w40 N0 hx hb hml hts hown hlocks hA hG hZ hL g0 (fun e0 => ?_) (fun e0 => ?_) H locs ls hP hD hS hl
    · subst e0
      have h := ite_t rfl h
      exact ih N0 w20 w40 t w2 w4 N h k1
    · subst e0
      have h := ite_f (by decide) h
      obtain ⟨rfl, rfl, rfl, rfl⟩ := in4 h
      exact k1 rfl
set_option maxRecDepth 100000 in
set_option maxHeartbeats 4000000 in
theorem b_Di_distributeByRemainders_89b (l : Launch) (z : Zz) (ad : Nat → Nat) (E : Ev) (M : Mm) (q0 : Nat) (x1 : Int32) (x2 : Int64) (x4 : Int32) (x5 : Int32) (x6 : Int32) (x7 : Int32) (t : Nat) (w7 : Int32) (N : Mm) {Q : State → Prop} {p : Program} {e : Env} {s : State} {m : MethodId} {below : List Frame} {meth : Method} {c : Code} {A : Nat → Prop} {args : Array Value} (hx : p.tables.exec = Jvm.exec) (hb : c.code = prog_6_method_9_code) (hml : c.maxLocals = 8) (hts : ∀ w ∈ WG, w.before args s = true) (hown : s.vm.findClass "Ballothall$Division" = some m.cls) (hlocks : meth.locks = false) (hA : ∀ q, s.heap.size ≤ q → A q) (hG : KG z s) (hZ : FZ z A s) (hL : Lay E) (h : Di_distributeByRemainders_89b E M q0 x1 x2 x4 x5 x6 x7 = some (t, w7, N)) (k0 : t = 0 → ∀ (H : Heap) (locs : List Loc) (ls : Array Slot), va_P z.1 classes (wv z ad E N) H → va_D A (wv z ad E N) → va_S A s.heap H locs → lv_has ls 8 [(0, .ref (ad q0)), (1, .int x1), (2, .long x2), (4, .int x4), (5, .int x5), (6, .int x6), (7, .int w7)] → W p l e (rmK 2 64 0 0) s m args below meth c H locs 0 0 Q (F0 m 89 ls [])) (k1 : t = 1 → ∀ (H : Heap) (locs : List Loc) (ls : Array Slot), va_P z.1 classes (wv z ad E N) H → va_D A (wv z ad E N) → va_S A s.heap H locs → lv_has ls 8 [(0, .ref (ad q0)), (1, .int x1), (2, .long x2), (4, .int x4), (5, .int x5), (6, .int x6)] → W p l e (rmK 2 64 0 0) s m args below meth c H locs 0 0 Q (F0 m 108 ls [])) : ∀ (H : Heap) (locs : List Loc) (ls : Array Slot), va_P z.1 classes (wv z ad E M) H → va_D A (wv z ad E M) → va_S A s.heap H locs → lv_has ls 8 [(0, .ref (ad q0)), (1, .int x1), (2, .long x2), (4, .int x4), (5, .int x5), (6, .int x6), (7, .int x7)] → W p l e (rmK 2 64 0 0) s m args below meth c H locs 0 0 Q (F0 m 89 ls []) := by
  intro H locs ls hP hD hS hl
  unfold Di_distributeByRemainders_89b at h
  obtain ⟨h_q0, h⟩ := ck_e h
  refine lv_iload hx hb d_6_9_89 (lv_at hl 6 rfl) ?_
  refine lv_iload hx hb d_6_9_91 (lv_at hl 5 rfl) ?_
  refine lv_icmp_ge (tgt := 108) hx hb d_6_9_93 (by decide) (fun c9 => ?_) (fun c9 => ?_)
  · have h := ite_t c9 h
    obtain ⟨rfl, rfl, rfl⟩ := in3 h
    exact k1 rfl H locs ls hP hD hS (lv_sub hl [0, 1, 2, 3, 4, 5] rfl)
  · have h := ite_f c9 h
    refine lv_aload_n hx hb d_6_9_96 rfl (lv_at hl 0 rfl) ?_
    refine lv_iload hx hb d_6_9_97 (lv_at hl 4 rfl) ?_
    obtain ⟨M10, g10, h⟩ := bd_e h
    refine kV (As := [.int x5]) (rest := []) (s_Di_give l z ad E M q0 x5 M10 hL g10) hx hb hml hown hts w_1557 w_1554 w_1556 w_s_8d192b w_6 md_306e32 ⟨Nat.le_of_ble_eq_true rfl, Nat.le_of_ble_eq_true rfl⟩ hG hZ hP hD hS hA q0 (wv_o (ci := 4) (isDi_i h_q0) (isDi_T h_q0)) rfl rfl rfl hl.1 rfl (Nat.le_of_ble_eq_true rfl) d_6_9_99 ⟨Nat.le_of_ble_eq_true rfl, Nat.le_of_ble_eq_true rfl⟩ (fun _ H locs hP hD hS => ?_)
    have hP : va_P z.1 classes (wv z ad E M10) H := hP
    have hD : va_D A (wv z ad E M10) := hD
    refine W.eq (g2 := F0 m 102 ls []) rfl ?_
    refine lv_iinc (v := (x7 + 1)) (lv' := [(7, .int (x7 + 1)), (0, .ref (ad q0)), (1, .int x1), (2, .long x2), (4, .int x4), (5, .int x5), (6, .int x6)]) hx hb d_6_9_102 hl (k := 6) rfl (congrArg (fun q => x7 + q) (show Int32.ofInt 1 = 1 by decide +kernel)) (by decide) rfl (fun ls hl => ?_)
    refine lv_goto (tgt := 89) hx hb d_6_9_105 (by decide) ?_
    obtain ⟨rfl, rfl, rfl⟩ := in3 h
    exact k0 rfl H locs ls hP hD hS (lv_sub hl [1, 2, 3, 4, 5, 6, 0] rfl)
set_option maxRecDepth 100000 in
set_option maxHeartbeats 4000000 in
theorem s_Di_distributeByRemainders_89 (l : Launch) (z : Zz) (ad : Nat → Nat) (E : Ev) (q0 : Nat) (x1 : Int32) (x2 : Int64) (x4 : Int32) (x5 : Int32) (x6 : Int32) {Q : State → Prop} {p : Program} {e : Env} {s : State} {m : MethodId} {below : List Frame} {meth : Method} {c : Code} {A : Nat → Prop} {args : Array Value} (hx : p.tables.exec = Jvm.exec) (hb : c.code = prog_6_method_9_code) (hml : c.maxLocals = 8) (hts : ∀ w ∈ WG, w.before args s = true) (hown : s.vm.findClass "Ballothall$Division" = some m.cls) (hlocks : meth.locks = false) (hA : ∀ q, s.heap.size ≤ q → A q) (hG : KG z s) (hZ : FZ z A s) (hL : Lay E) : ∀ (fu : Nat) (M : Mm) (x7 : Int32) (t : Nat) (w7 : Int32) (N : Mm), l_Di_distributeByRemainders_89 E q0 x1 x2 x4 x5 x6 fu M x7 = some (t, w7, N) → (t = 1 → ∀ (H : Heap) (locs : List Loc) (ls : Array Slot), va_P z.1 classes (wv z ad E N) H → va_D A (wv z ad E N) → va_S A s.heap H locs → lv_has ls 8 [(0, .ref (ad q0)), (1, .int x1), (2, .long x2), (4, .int x4), (5, .int x5), (6, .int x6)] → W p l e (rmK 2 64 0 0) s m args below meth c H locs 0 0 Q (F0 m 108 ls [])) → ∀ (H : Heap) (locs : List Loc) (ls : Array Slot), va_P z.1 classes (wv z ad E M) H → va_D A (wv z ad E M) → va_S A s.heap H locs → lv_has ls 8 [(0, .ref (ad q0)), (1, .int x1), (2, .long x2), (4, .int x4), (5, .int x5), (6, .int x6), (7, .int x7)] → W p l e (rmK 2 64 0 0) s m args below meth c H locs 0 0 Q (F0 m 89 ls []) := by
  intro fu
  induction fu with
  | zero =>
    intro M x7 t w7 N h
    have h : (none : Option (Nat × Int32 × Mm)) = some _ := h
    cases h
  | succ fu ih =>
    intro M x7 t w7 N h k1 H locs ls hP hD hS hl
    obtain ⟨⟨t0, w70, N0⟩, g0, h⟩ := bd_e h
    refine b_Di_distributeByRemainders_89b l z ad E M q0 x1 x2 x4 x5 x6 x7 t0 w70 N0 hx hb hml hts hown hlocks hA hG hZ hL g0 (fun e0 => ?_) (fun e0 => ?_) H locs ls hP hD hS hl
    · subst e0
      have h := ite_t rfl h
      exact ih N0 w70 t w7 N h k1
    · subst e0
      have h := ite_f (by decide) h
      obtain ⟨rfl, rfl, rfl⟩ := in3 h
      exact k1 rfl
set_option maxRecDepth 100000 in
set_option maxHeartbeats 4000000 in
theorem b_Di_distributeByRemainders_43b (l : Launch) (z : Zz) (ad : Nat → Nat) (E : Ev) (M : Mm) (q0 : Nat) (x1 : Int32) (x2 : Int64) (x4 : Int32) (x5 : Int32) (t : Nat) (w4 : Int32) (w5 : Int32) (N : Mm) {Q : State → Prop} {p : Program} {e : Env} {s : State} {m : MethodId} {below : List Frame} {meth : Method} {c : Code} {A : Nat → Prop} {args : Array Value} (hx : p.tables.exec = Jvm.exec) (hb : c.code = prog_6_method_9_code) (hml : c.maxLocals = 8) (hts : ∀ w ∈ WG, w.before args s = true) (hown : s.vm.findClass "Ballothall$Division" = some m.cls) (hlocks : meth.locks = false) (hA : ∀ q, s.heap.size ≤ q → A q) (hG : KG z s) (hZ : FZ z A s) (hL : Lay E) (h : Di_distributeByRemainders_43b E M q0 x1 x2 x4 x5 = some (t, w4, w5, N)) (k0 : t = 0 → ∀ (H : Heap) (locs : List Loc) (ls : Array Slot), va_P z.1 classes (wv z ad E N) H → va_D A (wv z ad E N) → va_S A s.heap H locs → lv_has ls 8 [(0, .ref (ad q0)), (1, .int x1), (2, .long x2), (4, .int w4), (5, .int w5)] → W p l e (rmK 2 64 0 0) s m args below meth c H locs 0 0 Q (F0 m 43 ls [])) (k1 : t = 1 → ∀ (H : Heap) (locs : List Loc) (ls : Array Slot), va_P z.1 classes (wv z ad E N) H → va_D A (wv z ad E N) → va_S A s.heap H locs → lv_has ls 8 [(0, .ref (ad q0)), (1, .int x1), (4, .int w4)] → W p l e (rmK 2 64 0 0) s m args below meth c H locs 0 0 Q (F0 m 121 ls [])) : ∀ (H : Heap) (locs : List Loc) (ls : Array Slot), va_P z.1 classes (wv z ad E M) H → va_D A (wv z ad E M) → va_S A s.heap H locs → lv_has ls 8 [(0, .ref (ad q0)), (1, .int x1), (2, .long x2), (4, .int x4), (5, .int x5)] → W p l e (rmK 2 64 0 0) s m args below meth c H locs 0 0 Q (F0 m 43 ls []) := by
  intro H locs ls hP hD hS hl
  unfold Di_distributeByRemainders_43b at h
  obtain ⟨h_q0, h⟩ := ck_e h
  refine lv_iload hx hb d_6_9_43 (lv_at hl 4 rfl) ?_
  refine lv_aload_n hx hb d_6_9_45 rfl (lv_at hl 0 rfl) ?_
  refine m_gi (C := "Ballothall$Division") (T := TX4) (N := 8) (ci := 4) (k := 0) hx hb hts iX4 hown hG hP (isDi_i h_q0) (isDi_T h_q0) rfl (by decide) w_175 (fun _ h9 => h9) rfl rfl d_6_9_46 ?_
  refine lv_icmp_ge (tgt := 121) hx hb d_6_9_49 (by decide) (fun c9 => ?_) (fun c9 => ?_)
  · have h := ite_t c9 h
    obtain ⟨rfl, rfl, rfl, rfl⟩ := in4 h
    exact k1 rfl H locs ls hP hD hS (lv_sub hl [0, 1, 3] rfl)
  · have h := ite_f c9 h
    refine lv_aload_n hx hb d_6_9_52 rfl (lv_at hl 0 rfl) ?_
    refine m_gr (j := (q0 + 2)) (C := "Ballothall$Division") (T := TX4) (N := 8) (ci := 4) (k := 3) hx hb hts iX4 hown hG hP (isDi_i h_q0) (isDi_T h_q0) rfl (by decide) w_181 (fun _ h9 => h9) rfl rfl (isDi_r3 h_q0) d_6_9_53 ?_
    refine lv_iload hx hb d_6_9_56 (lv_at hl 4 rfl) ?_
    obtain ⟨ok3, h⟩ := ck_e h
    refine m_la hx hb hG hP (isDi_i2 h_q0) (isDi_t2 h_q0) ok3 d_6_9_58 ?_
    refine lv_iload_n hx hb d_6_9_59 rfl (lv_at hl 1 rfl) ?_
    refine lv_i2l (v := x1.toInt64) hx hb d_6_9_60 rfl ?_
    refine lv_lmul hx hb d_6_9_61 ?_
    refine lv_lload_n hx hb d_6_9_62 rfl (lv_at hl 2 rfl) ?_
    obtain ⟨ok4, h⟩ := ck_e h
    refine lv_ldiv hx hb d_6_9_63 ok4 ?_
    refine lv_l2i (v := (((M.2 (q0 + 2) x5.toNatClampNeg) * x1.toInt64) / x2).toInt32) hx hb d_6_9_64 rfl ?_
    obtain ⟨v5, e5, h⟩ := nb_e h
    refine nrm e5.symm ?_
    refine lv_istore (lv' := [(6, .int v5), (0, .ref (ad q0)), (1, .int x1), (2, .long x2), (4, .int x4), (5, .int x5)]) hx hb d_6_9_65 hl (by decide) rfl (fun ls hl => ?_)
    refine lv_aload_n hx hb d_6_9_67 rfl (lv_at hl 1 rfl) ?_
    refine m_gr (j := (q0 + 5)) (C := "Ballothall$Division") (T := TX4) (N := 8) (ci := 4) (k := 6) hx hb hts iX4 hown hG hP (isDi_i h_q0) (isDi_T h_q0) rfl (by decide) w_185 (fun _ h9 => h9) rfl rfl (isDi_r6 h_q0) d_6_9_68 ?_
    refine lv_iload hx hb d_6_9_71 (lv_at hl 5 rfl) ?_
    refine lv_aload_n hx hb d_6_9_73 rfl (lv_at hl 1 rfl) ?_
    refine m_gr (j := (q0 + 2)) (C := "Ballothall$Division") (T := TX4) (N := 8) (ci := 4) (k := 3) hx hb hts iX4 hown hG hP (isDi_i h_q0) (isDi_T h_q0) rfl (by decide) w_181 (fun _ h9 => h9) rfl rfl (isDi_r3 h_q0) d_6_9_74 ?_
    refine lv_iload hx hb d_6_9_77 (lv_at hl 5 rfl) ?_
    obtain ⟨ok6, h⟩ := ck_e h
    refine m_la hx hb hG hP (isDi_i2 h_q0) (isDi_t2 h_q0) ok6 d_6_9_79 ?_
    refine lv_iload_n hx hb d_6_9_80 rfl (lv_at hl 2 rfl) ?_
    refine lv_i2l (v := x1.toInt64) hx hb d_6_9_81 rfl ?_
    refine lv_lmul hx hb d_6_9_82 ?_
    refine lv_lload_n hx hb d_6_9_83 rfl (lv_at hl 3 rfl) ?_
    obtain ⟨ok7, h⟩ := ck_e h
    refine lv_lrem hx hb d_6_9_84 ok7 ?_
    refine nrmL (x1 := (rmL ((M.2 (q0 + 2) x5.toNatClampNeg) * x1.toInt64) x2)) rfl ?_
    obtain ⟨v8, e8, h⟩ := nb_e h
    refine nrmL e8.symm ?_
    obtain ⟨ok9, h⟩ := ck_e h
    refine m_ls hx hb hG hP hD hS (isDi_i5 h_q0) (isDi_t5 h_q0) ok9 d_6_9_85 (fun H locs hP hD hS => ?_)
    have hP : va_P z.1 classes (wv z ad E (uL M (q0 + 5) x5.toNatClampNeg v8)) H := hP
    have hD : va_D A (wv z ad E (uL M (q0 + 5) x5.toNatClampNeg v8)) := hD
    refine lv_iconst (v := 0) hx hb d_6_9_86 (by decide +kernel) ?_
    refine lv_istore (lv' := [(7, .int 0), (6, .int v5), (0, .ref (ad q0)), (1, .int x1), (2, .long x2), (4, .int x4), (5, .int x5)]) hx hb d_6_9_87 hl (by decide) rfl (fun ls hl => ?_)
    obtain ⟨⟨t11, v11_7, M11⟩, g11, h⟩ := bd_e h
    obtain ⟨ok11, h⟩ := ck_e h
    refine s_Di_distributeByRemainders_89 l z ad E q0 x1 x2 x4 x5 v5 hx hb hml hts hown hlocks hA hG hZ hL FU (uL M (q0 + 5) x5.toNatClampNeg v8) 0 t11 v11_7 M11 g11 (fun e11 H locs ls hP hD hS hl => ?_) H locs ls hP hD hS (lv_sub hl [2, 3, 4, 5, 6, 1, 0] rfl)
    refine lv_iload hx hb d_6_9_108 (lv_at hl 3 rfl) ?_
    refine lv_iload hx hb d_6_9_110 (lv_at hl 5 rfl) ?_
    refine lv_iadd hx hb d_6_9_112 ?_
    refine lv_istore (lv' := [(4, .int (x4 + v5)), (0, .ref (ad q0)), (1, .int x1), (2, .long x2), (5, .int x5), (6, .int v5)]) hx hb d_6_9_113 hl (by decide) rfl (fun ls hl => ?_)
    refine lv_iinc (v := (x5 + 1)) (lv' := [(5, .int (x5 + 1)), (4, .int (x4 + v5)), (0, .ref (ad q0)), (1, .int x1), (2, .long x2), (6, .int v5)]) hx hb d_6_9_115 hl (k := 4) rfl (congrArg (fun q => x5 + q) (show Int32.ofInt 1 = 1 by decide +kernel)) (by decide) rfl (fun ls hl => ?_)
    refine lv_goto (tgt := 43) hx hb d_6_9_118 (by decide) ?_
    obtain ⟨rfl, rfl, rfl, rfl⟩ := in4 h
    exact k0 rfl H locs ls hP hD hS (lv_sub hl [2, 3, 4, 1, 0] rfl)
set_option maxRecDepth 100000 in
set_option maxHeartbeats 4000000 in
theorem s_Di_distributeByRemainders_43 (l : Launch) (z : Zz) (ad : Nat → Nat) (E : Ev) (q0 : Nat) (x1 : Int32) (x2 : Int64) {Q : State → Prop} {p : Program} {e : Env} {s : State} {m : MethodId} {below : List Frame} {meth : Method} {c : Code} {A : Nat → Prop} {args : Array Value} (hx : p.tables.exec = Jvm.exec) (hb : c.code = prog_6_method_9_code) (hml : c.maxLocals = 8) (hts : ∀ w ∈ WG, w.before args s = true) (hown : s.vm.findClass "Ballothall$Division" = some m.cls) (hlocks : meth.locks = false) (hA : ∀ q, s.heap.size ≤ q → A q) (hG : KG z s) (hZ : FZ z A s) (hL : Lay E) : ∀ (fu : Nat) (M : Mm) (x4 : Int32) (x5 : Int32) (t : Nat) (w4 : Int32) (w5 : Int32) (N : Mm), l_Di_distributeByRemainders_43 E q0 x1 x2 fu M x4 x5 = some (t, w4, w5, N) → (t = 1 → ∀ (H : Heap) (locs : List Loc) (ls : Array Slot), va_P z.1 classes (wv z ad E N) H → va_D A (wv z ad E N) → va_S A s.heap H locs → lv_has ls 8 [(0, .ref (ad q0)), (1, .int x1), (4, .int w4)] → W p l e (rmK 2 64 0 0) s m args below meth c H locs 0 0 Q (F0 m 121 ls [])) → ∀ (H : Heap) (locs : List Loc) (ls : Array Slot), va_P z.1 classes (wv z ad E M) H → va_D A (wv z ad E M) → va_S A s.heap H locs → lv_has ls 8 [(0, .ref (ad q0)), (1, .int x1), (2, .long x2), (4, .int x4), (5, .int x5)] → W p l e (rmK 2 64 0 0) s m args below meth c H locs 0 0 Q (F0 m 43 ls []) := by
  intro fu
  induction fu with
  | zero =>
    intro M x4 x5 t w4 w5 N h
    have h : (none : Option (Nat × Int32 × Int32 × Mm)) = some _ := h
    cases h
  | succ fu ih =>
    intro M x4 x5 t w4 w5 N h k1 H locs ls hP hD hS hl
    obtain ⟨⟨t0, w40, w50, N0⟩, g0, h⟩ := bd_e h
    refine b_Di_distributeByRemainders_43b l z ad E M q0 x1 x2 x4 x5 t0 w40 w50 N0 hx hb hml hts hown hlocks hA hG hZ hL g0 (fun e0 => ?_) (fun e0 => ?_) H locs ls hP hD hS hl
    · subst e0
      have h := ite_t rfl h
      exact ih N0 w40 w50 t w4 w5 N h k1
    · subst e0
      have h := ite_f (by decide) h
      obtain ⟨rfl, rfl, rfl, rfl⟩ := in4 h
      exact k1 rfl
set_option maxRecDepth 100000 in
set_option maxHeartbeats 4000000 in
theorem b_Di_distributeByRemainders_125b (l : Launch) (z : Zz) (ad : Nat → Nat) (E : Ev) (M : Mm) (q0 : Nat) (x1 : Int32) (x5 : Int32) (t : Nat) (w5 : Int32) (N : Mm) {Q : State → Prop} {p : Program} {e : Env} {s : State} {m : MethodId} {below : List Frame} {meth : Method} {c : Code} {A : Nat → Prop} {args : Array Value} (hx : p.tables.exec = Jvm.exec) (hb : c.code = prog_6_method_9_code) (hml : c.maxLocals = 8) (hts : ∀ w ∈ WG, w.before args s = true) (hown : s.vm.findClass "Ballothall$Division" = some m.cls) (hlocks : meth.locks = false) (hA : ∀ q, s.heap.size ≤ q → A q) (hG : KG z s) (hZ : FZ z A s) (hL : Lay E) (h : Di_distributeByRemainders_125b E M q0 x1 x5 = some (t, w5, N)) (k0 : t = 0 → ∀ (H : Heap) (locs : List Loc) (ls : Array Slot), va_P z.1 classes (wv z ad E N) H → va_D A (wv z ad E N) → va_S A s.heap H locs → lv_has ls 8 [(0, .ref (ad q0)), (1, .int x1), (5, .int w5)] → W p l e (rmK 2 64 0 0) s m args below meth c H locs 0 0 Q (F0 m 125 ls [])) (k1 : t = 1 → ∀ (H : Heap) (locs : List Loc) (ls : Array Slot), va_P z.1 classes (wv z ad E N) H → va_D A (wv z ad E N) → va_S A s.heap H locs → lv_has ls 8 [] → W p l e (rmK 2 64 0 0) s m args below meth c H locs 0 0 Q (F0 m 141 ls [])) : ∀ (H : Heap) (locs : List Loc) (ls : Array Slot), va_P z.1 classes (wv z ad E M) H → va_D A (wv z ad E M) → va_S A s.heap H locs → lv_has ls 8 [(0, .ref (ad q0)), (1, .int x1), (5, .int x5)] → W p l e (rmK 2 64 0 0) s m args below meth c H locs 0 0 Q (F0 m 125 ls []) := by
  intro H locs ls hP hD hS hl
  unfold Di_distributeByRemainders_125b at h
  obtain ⟨h_q0, h⟩ := ck_e h
  refine lv_iload hx hb d_6_9_125 (lv_at hl 2 rfl) ?_
  refine lv_iload_n hx hb d_6_9_127 rfl (lv_at hl 1 rfl) ?_
  refine lv_icmp_ge (tgt := 141) hx hb d_6_9_128 (by decide) (fun c9 => ?_) (fun c9 => ?_)
  · have h := ite_t c9 h
    obtain ⟨rfl, rfl, rfl⟩ := in3 h
    exact k1 rfl H locs ls hP hD hS (lv_sub hl [] rfl)
  · have h := ite_f c9 h
    refine lv_aload_n hx hb d_6_9_131 rfl (lv_at hl 0 rfl) ?_
    obtain ⟨M13, g13, h⟩ := bd_e h
    refine kV (As := []) (rest := []) (s_Di_giveToGreatestRemainder l z ad E M q0 M13 hL g13) hx hb hml hown hts w_1561 w_1558 w_1560 w_s_6c9cb1 w_6 md_68b2be ⟨Nat.le_of_ble_eq_true rfl, Nat.le_of_ble_eq_true rfl⟩ hG hZ hP hD hS hA q0 (wv_o (ci := 4) (isDi_i h_q0) (isDi_T h_q0)) rfl rfl rfl hl.1 rfl (Nat.le_of_ble_eq_true rfl) d_6_9_132 ⟨Nat.le_of_ble_eq_true rfl, Nat.le_of_ble_eq_true rfl⟩ (fun _ H locs hP hD hS => ?_)
    have hP : va_P z.1 classes (wv z ad E M13) H := hP
    have hD : va_D A (wv z ad E M13) := hD
    refine W.eq (g2 := F0 m 135 ls []) rfl ?_
    refine lv_iinc (v := (x5 + 1)) (lv' := [(5, .int (x5 + 1)), (0, .ref (ad q0)), (1, .int x1)]) hx hb d_6_9_135 hl (k := 2) rfl (congrArg (fun q => x5 + q) (show Int32.ofInt 1 = 1 by decide +kernel)) (by decide) rfl (fun ls hl => ?_)
    refine lv_goto (tgt := 125) hx hb d_6_9_138 (by decide) ?_
    obtain ⟨rfl, rfl, rfl⟩ := in3 h
    exact k0 rfl H locs ls hP hD hS (lv_sub hl [1, 2, 0] rfl)
set_option maxRecDepth 100000 in
set_option maxHeartbeats 4000000 in
theorem s_Di_distributeByRemainders_125 (l : Launch) (z : Zz) (ad : Nat → Nat) (E : Ev) (q0 : Nat) (x1 : Int32) {Q : State → Prop} {p : Program} {e : Env} {s : State} {m : MethodId} {below : List Frame} {meth : Method} {c : Code} {A : Nat → Prop} {args : Array Value} (hx : p.tables.exec = Jvm.exec) (hb : c.code = prog_6_method_9_code) (hml : c.maxLocals = 8) (hts : ∀ w ∈ WG, w.before args s = true) (hown : s.vm.findClass "Ballothall$Division" = some m.cls) (hlocks : meth.locks = false) (hA : ∀ q, s.heap.size ≤ q → A q) (hG : KG z s) (hZ : FZ z A s) (hL : Lay E) : ∀ (fu : Nat) (M : Mm) (x5 : Int32) (t : Nat) (w5 : Int32) (N : Mm), l_Di_distributeByRemainders_125 E q0 x1 fu M x5 = some (t, w5, N) → (t = 1 → ∀ (H : Heap) (locs : List Loc) (ls : Array Slot), va_P z.1 classes (wv z ad E N) H → va_D A (wv z ad E N) → va_S A s.heap H locs → lv_has ls 8 [] → W p l e (rmK 2 64 0 0) s m args below meth c H locs 0 0 Q (F0 m 141 ls [])) → ∀ (H : Heap) (locs : List Loc) (ls : Array Slot), va_P z.1 classes (wv z ad E M) H → va_D A (wv z ad E M) → va_S A s.heap H locs → lv_has ls 8 [(0, .ref (ad q0)), (1, .int x1), (5, .int x5)] → W p l e (rmK 2 64 0 0) s m args below meth c H locs 0 0 Q (F0 m 125 ls []) := by
  intro fu
  induction fu with
  | zero =>
    intro M x5 t w5 N h
    have h : (none : Option (Nat × Int32 × Mm)) = some _ := h
    cases h
  | succ fu ih =>
    intro M x5 t w5 N h k1 H locs ls hP hD hS hl
    obtain ⟨⟨t0, w50, N0⟩, g0, h⟩ := bd_e h
    refine b_Di_distributeByRemainders_125b l z ad E M q0 x1 x5 t0 w50 N0 hx hb hml hts hown hlocks hA hG hZ hL g0 (fun e0 => ?_) (fun e0 => ?_) H locs ls hP hD hS hl
    · subst e0
      have h := ite_t rfl h
      exact ih N0 w50 t w5 N h k1
    · subst e0
      have h := ite_f (by decide) h
      obtain ⟨rfl, rfl, rfl⟩ := in3 h
      exact k1 rfl
set_option maxRecDepth 100000 in
set_option maxHeartbeats 4000000 in
theorem s_Di_distributeByRemainders (l : Launch) (z : Zz) (ad : Nat → Nat) (E : Ev) (M : Mm) (p0 : Nat) (x1 : Int32) (N : Mm) (hL : Lay E) (h : f_Di_distributeByRemainders E M p0 x1 = some N) : CT l z ⟨"Ballothall$Division", "distributeByRemainders", "(I)V"⟩ prog_6_method_9_code 8 none [.ref (ad p0), .int x1] (wv z ad E M) 2 64 0 0 (fun _ => none) (fun _ => wv z ad E N) := by
  refine CT.of (own := "Ballothall$Division") (by decide +kernel) (Nat.le_of_ble_eq_true rfl) rfl (fun p e s m below meth c A ls hx hb hml hr hts hown hlocks hin hA hG hZ hP hD hS hl => ?_)
  have hl : lv_has ls 8 [(0, .ref (ad p0)), (1, .int x1)] := hl
  have key : ∀ (H : Heap) (locs : List Loc) (args : Array Value), (∀ w ∈ WG, w.before args s = true) → va_P z.1 classes (wv z ad E M) H → va_S A s.heap H locs → W p l e (rmK 2 64 0 0) s m args below meth c H locs 0 0 (MQ below (QK z A (fun _ => none) (fun _ => wv z ad E N)) args s 0 0 A) (F0 m 0 ls []) := by
    intro H locs args hts hP hS
    unfold f_Di_distributeByRemainders at h
    obtain ⟨h_p0, h⟩ := ck_e h
    refine lv_lconst (v := 0) hx hb d_6_9_0 (by decide +kernel) ?_
    refine lv_lstore_n (lv' := [(2, .long 0), (0, .ref (ad p0)), (1, .int x1)]) hx hb d_6_9_1 rfl hl (by decide) rfl (fun ls hl => ?_)
    refine lv_iconst (v := 0) hx hb d_6_9_2 (by decide +kernel) ?_
    refine lv_istore (lv' := [(4, .int 0), (2, .long 0), (0, .ref (ad p0)), (1, .int x1)]) hx hb d_6_9_3 hl (by decide) rfl (fun ls hl => ?_)
    obtain ⟨⟨t2, v2_2, v2_4, M2⟩, g2, h⟩ := bd_e h
    obtain ⟨ok2, h⟩ := ck_e h
    refine s_Di_distributeByRemainders_5 l z ad E p0 x1 hx hb hml hts hown hlocks hA hG hZ hL FU M 0 0 t2 v2_2 v2_4 M2 g2 (fun e2 H locs ls hP hD hS hl => ?_) H locs ls hP hD hS (lv_sub hl [2, 3, 1, 0] rfl)
    refine lv_lload_n hx hb d_6_9_30 rfl (lv_at hl 2 rfl) ?_
    refine lv_lconst (v := 0) hx hb d_6_9_31 (by decide +kernel) ?_
    refine W.lcmp hx hb d_6_9_32 ?_
    refine lv_if_ne (tgt := 37) hx hb d_6_9_33 (by decide) (fun c9 => ?_) (fun c9 => ?_)
    · have h := ite_f c9 h
      refine lv_iconst (v := 0) hx hb d_6_9_37 (by decide +kernel) ?_
      refine lv_istore (lv' := [(4, .int 0), (0, .ref (ad p0)), (1, .int x1), (2, .long v2_2)]) hx hb d_6_9_38 hl (by decide) rfl (fun ls hl => ?_)
      refine lv_iconst (v := 0) hx hb d_6_9_40 (by decide +kernel) ?_
      refine lv_istore (lv' := [(5, .int 0), (4, .int 0), (0, .ref (ad p0)), (1, .int x1), (2, .long v2_2)]) hx hb d_6_9_41 hl (by decide) rfl (fun ls hl => ?_)
      obtain ⟨⟨t12, v12_4, v12_5, M12⟩, g12, h⟩ := bd_e h
      obtain ⟨ok12, h⟩ := ck_e h
      refine s_Di_distributeByRemainders_43 l z ad E p0 x1 v2_2 hx hb hml hts hown hlocks hA hG hZ hL FU M2 0 0 t12 v12_4 v12_5 M12 g12 (fun e12 H locs ls hP hD hS hl => ?_) H locs ls hP hD hS (lv_sub hl [2, 3, 4, 1, 0] rfl)
      refine lv_iload hx hb d_6_9_121 (lv_at hl 2 rfl) ?_
      refine lv_istore (lv' := [(5, .int v12_4), (0, .ref (ad p0)), (1, .int x1), (4, .int v12_4)]) hx hb d_6_9_123 hl (by decide) rfl (fun ls hl => ?_)
      obtain ⟨⟨t14, v14_5, M14⟩, g14, h⟩ := bd_e h
      obtain ⟨ok14, h⟩ := ck_e h
      refine s_Di_distributeByRemainders_125 l z ad E p0 x1 hx hb hml hts hown hlocks hA hG hZ hL FU M12 v12_4 t14 v14_5 M14 g14 (fun e14 H locs ls hP hD hS hl => ?_) H locs ls hP hD hS (lv_sub hl [1, 2, 0] rfl)
      obtain rfl := in1 h
      exact W.vret hx hb hr (fun t ht hW => qkA hP hD hS (fun k => k) rfl rfl ht) hS.2.2 d_6_9_141
    · have h := ite_t c9 h
      obtain rfl := in1 h
      exact W.vret hx hb hr (fun t ht hW => qkA hP hD hS (fun k => k) rfl rfl ht) hS.2.2 d_6_9_36
  exact key _ _ _ hts hP hS
set_option maxRecDepth 100000 in
set_option maxHeartbeats 4000000 in
theorem s_Di_divisor (l : Launch) (z : Zz) (ad : Nat → Nat) (E : Ev) (M : Mm) (p0 : Nat) (x1 : Int32) (x2 : Int32) (r : Int64) (N : Mm) (hL : Lay E) (h : f_Di_divisor E M p0 x1 x2 = some (r, N)) : CT l z ⟨"Ballothall$Division", "divisor", "(II)J"⟩ prog_6_method_8_code 3 (some .long) [.ref (ad p0), .int x1, .int x2] (wv z ad E M) 0 20 0 0 (fun _ => some (.long r)) (fun _ => wv z ad E N) := by
  refine CT.of (own := "Ballothall$Division") (by decide +kernel) (Nat.le_of_ble_eq_true rfl) rfl (fun p e s m below meth c A ls hx hb hml hr hts hown hlocks hin hA hG hZ hP hD hS hl => ?_)
  have hl : lv_has ls 3 [(0, .ref (ad p0)), (1, .int x1), (2, .int x2)] := hl
  have key : ∀ (H : Heap) (locs : List Loc) (args : Array Value), (∀ w ∈ WG, w.before args s = true) → va_P z.1 classes (wv z ad E M) H → va_S A s.heap H locs → W p l e (rmK 0 20 0 0) s m args below meth c H locs 0 0 (MQ below (QK z A (fun _ => some (.long r)) (fun _ => wv z ad E N)) args s 0 0 A) (F0 m 0 ls []) := by
    intro H locs args hts hP hS
    unfold f_Di_divisor at h
    obtain ⟨h_p0, h⟩ := ck_e h
    refine lv_iload_n hx hb d_6_8_0 rfl (lv_at hl 1 rfl) ?_
    by_cases s0_0 : x1 = 0
    · have h := ite_t s0_0 h
      refine nrm s0_0 ?_
      refine lv_tableIn (off := 31) (tgt := 32) hx hb d_6_8_1 (by decide +kernel) (by decide +kernel) rfl (by decide) ?_
      refine lv_iload_n hx hb d_6_8_32 rfl (lv_at hl 2 rfl) ?_
      refine lv_iconst (v := 1) hx hb d_6_8_33 (by decide +kernel) ?_
      refine lv_iadd hx hb d_6_8_34 ?_
      refine lv_i2l (v := (x2 + (1 : Int32)).toInt64) hx hb d_6_8_35 rfl ?_
      obtain ⟨rfl, rfl⟩ := in2 h
      exact W.lret hx hb hr (fun t ht hW => qkA hP hD hS (fun k => k) rfl rfl ht) hS.2.2 d_6_8_36
    have h := ite_f s0_0 h
    by_cases s0_1 : x1 = 1
    · have h := ite_t s0_1 h
      refine nrm s0_1 ?_
      refine lv_tableIn (off := 36) (tgt := 37) hx hb d_6_8_1 (by decide +kernel) (by decide +kernel) rfl (by decide) ?_
      refine lv_iconst (v := 2) hx hb d_6_8_37 (by decide +kernel) ?_
      refine lv_iload_n hx hb d_6_8_38 rfl (lv_at hl 2 rfl) ?_
      refine lv_imul hx hb d_6_8_39 ?_
      refine lv_iconst (v := 1) hx hb d_6_8_40 (by decide +kernel) ?_
      refine lv_iadd hx hb d_6_8_41 ?_
      refine lv_i2l (v := (((2 : Int32) * x2) + (1 : Int32)).toInt64) hx hb d_6_8_42 rfl ?_
      obtain ⟨rfl, rfl⟩ := in2 h
      exact W.lret hx hb hr (fun t ht hW => qkA hP hD hS (fun k => k) rfl rfl ht) hS.2.2 d_6_8_43
    have h := ite_f s0_1 h
    by_cases s0_2 : x1 = 2
    · have h := ite_t s0_2 h
      refine nrm s0_2 ?_
      refine lv_tableIn (off := 43) (tgt := 44) hx hb d_6_8_1 (by decide +kernel) (by decide +kernel) rfl (by decide) ?_
      refine lv_iload_n hx hb d_6_8_44 rfl (lv_at hl 2 rfl) ?_
      refine lv_if_ne (tgt := 54) hx hb d_6_8_45 (by decide) (fun c9 => ?_) (fun c9 => ?_)
      · have h := ite_f c9 h
        refine lv_bipush (v := 20) hx hb d_6_8_54 (by decide +kernel) ?_
        refine lv_iload_n hx hb d_6_8_56 rfl (lv_at hl 2 rfl) ?_
        refine lv_imul hx hb d_6_8_57 ?_
        refine lv_bipush (v := 10) hx hb d_6_8_58 (by decide +kernel) ?_
        refine lv_iadd hx hb d_6_8_60 ?_
        refine lv_i2l (v := (((20 : Int32) * x2) + (10 : Int32)).toInt64) hx hb d_6_8_61 rfl ?_
        obtain ⟨rfl, rfl⟩ := in2 h
        exact W.lret hx hb hr (fun t ht hW => qkA hP hD hS (fun k => k) rfl rfl ht) hS.2.2 d_6_8_62
      · have h := ite_t c9 h
        refine lv_ldc2 hx hb hown (hts _ w_1575) d_6_8_48 ?_
        refine lv_goto (tgt := 62) hx hb d_6_8_51 (by decide) ?_
        obtain ⟨rfl, rfl⟩ := in2 h
        exact W.lret hx hb hr (fun t ht hW => qkA hP hD hS (fun k => k) rfl rfl ht) hS.2.2 d_6_8_62
    have h := ite_f s0_2 h
    by_cases s0_3 : x1 = 3
    · have h := ite_t s0_3 h
      refine nrm s0_3 ?_
      refine lv_tableIn (off := 62) (tgt := 63) hx hb d_6_8_1 (by decide +kernel) (by decide +kernel) rfl (by decide) ?_
      refine lv_iconst (v := 3) hx hb d_6_8_63 (by decide +kernel) ?_
      refine lv_iload_n hx hb d_6_8_64 rfl (lv_at hl 2 rfl) ?_
      refine lv_imul hx hb d_6_8_65 ?_
      refine lv_iconst (v := 1) hx hb d_6_8_66 (by decide +kernel) ?_
      refine lv_iadd hx hb d_6_8_67 ?_
      refine lv_i2l (v := (((3 : Int32) * x2) + (1 : Int32)).toInt64) hx hb d_6_8_68 rfl ?_
      obtain ⟨rfl, rfl⟩ := in2 h
      exact W.lret hx hb hr (fun t ht hW => qkA hP hD hS (fun k => k) rfl rfl ht) hS.2.2 d_6_8_69
    have h := ite_f s0_3 h
    refine lv_tableOut (tgt := 70) hx hb d_6_8_1 (by
        have h9 := tb0 (x := x1) (lo := 0) (n := 4) (by decide) (fun q q1 q2 => by
          rcases (show q = 0 ∨ q = 1 ∨ q = 2 ∨ q = 3 by omega) with rfl | rfl | rfl | rfl
          · exact s0_0
          · exact s0_1
          · exact s0_2
          · exact s0_3)
        omega) (by decide) ?_
    refine lv_iload_n hx hb d_6_8_70 rfl (lv_at hl 2 rfl) ?_
    refine lv_iconst (v := 2) hx hb d_6_8_71 (by decide +kernel) ?_
    refine lv_iadd hx hb d_6_8_72 ?_
    refine lv_i2l (v := (x2 + (2 : Int32)).toInt64) hx hb d_6_8_73 rfl ?_
    obtain ⟨rfl, rfl⟩ := in2 h
    exact W.lret hx hb hr (fun t ht hW => qkA hP hD hS (fun k => k) rfl rfl ht) hS.2.2 d_6_8_74
  exact key _ _ _ hts hP hS
set_option maxRecDepth 100000 in
set_option maxHeartbeats 4000000 in
theorem s_Di_hasGreaterQuotient (l : Launch) (z : Zz) (ad : Nat → Nat) (E : Ev) (M : Mm) (p0 : Nat) (x1 : Int32) (x2 : Int32) (x3 : Int32) (r : Int32) (N : Mm) (hL : Lay E) (h : f_Di_hasGreaterQuotient E M p0 x1 x2 x3 = some (r, N)) : CT l z ⟨"Ballothall$Division", "hasGreaterQuotient", "(III)Z"⟩ prog_6_method_6_code 8 (some .boolean) [.ref (ad p0), .int x1, .int x2, .int x3] (wv z ad E M) 1 42 0 0 (fun _ => some (.int r)) (fun _ => wv z ad E N) := by
  refine CT.of (own := "Ballothall$Division") (by decide +kernel) (Nat.le_of_ble_eq_true rfl) rfl (fun p e s m below meth c A ls hx hb hml hr hts hown hlocks hin hA hG hZ hP hD hS hl => ?_)
  have hl : lv_has ls 8 [(0, .ref (ad p0)), (1, .int x1), (2, .int x2), (3, .int x3)] := hl
  have key : ∀ (H : Heap) (locs : List Loc) (args : Array Value), (∀ w ∈ WG, w.before args s = true) → va_P z.1 classes (wv z ad E M) H → va_S A s.heap H locs → W p l e (rmK 1 42 0 0) s m args below meth c H locs 0 0 (MQ below (QK z A (fun _ => some (.int r)) (fun _ => wv z ad E N)) args s 0 0 A) (F0 m 0 ls []) := by
    intro H locs args hts hP hS
    unfold f_Di_hasGreaterQuotient at h
    obtain ⟨h_p0, h⟩ := ck_e h
    refine lv_aload_n hx hb d_6_6_0 rfl (lv_at hl 0 rfl) ?_
    refine m_gr (j := (p0 + 2)) (C := "Ballothall$Division") (T := TX4) (N := 8) (ci := 4) (k := 3) hx hb hts iX4 hown hG hP (isDi_i h_p0) (isDi_T h_p0) rfl (by decide) w_181 (fun _ h9 => h9) rfl rfl (isDi_r3 h_p0) d_6_6_1 ?_
    refine lv_iload_n hx hb d_6_6_4 rfl (lv_at hl 1 rfl) ?_
    obtain ⟨ok0, h⟩ := ck_e h
    refine m_la hx hb hG hP (isDi_i2 h_p0) (isDi_t2 h_p0) ok0 d_6_6_5 ?_
    refine lv_aload_n hx hb d_6_6_6 rfl (lv_at hl 0 rfl) ?_
    refine lv_iload_n hx hb d_6_6_7 rfl (lv_at hl 3 rfl) ?_
    refine lv_aload_n hx hb d_6_6_8 rfl (lv_at hl 0 rfl) ?_
    refine m_gr (j := (p0 + 4)) (C := "Ballothall$Division") (T := TX4) (N := 8) (ci := 4) (k := 5) hx hb hts iX4 hown hG hP (isDi_i h_p0) (isDi_T h_p0) rfl (by decide) w_183 (fun _ h9 => h9) rfl rfl (isDi_r5 h_p0) d_6_6_9 ?_
    refine lv_iload_n hx hb d_6_6_12 rfl (lv_at hl 2 rfl) ?_
    obtain ⟨ok1, h⟩ := ck_e h
    refine m_ia hx hb hG hP (isDi_i4 h_p0) (isDi_t4 h_p0) ok1 d_6_6_13 ?_
    obtain ⟨⟨r2, M2⟩, g2, h⟩ := bd_e h
    refine kV (As := [.int x3, .int (M.1 (p0 + 4) x2.toNatClampNeg)]) (rest := [.long (M.2 (p0 + 2) x1.toNatClampNeg)]) (s_Di_divisor l z ad E M p0 x3 (M.1 (p0 + 4) x2.toNatClampNeg) r2 M2 hL g2) hx hb hml hown hts w_1574 w_1571 w_1573 w_s_74d3de w_6 md_91408d ⟨Nat.le_of_ble_eq_true rfl, Nat.le_of_ble_eq_true rfl⟩ hG hZ hP hD hS hA p0 (wv_o (ci := 4) (isDi_i h_p0) (isDi_T h_p0)) rfl rfl rfl hl.1 rfl (Nat.le_of_ble_eq_true rfl) d_6_6_14 ⟨Nat.le_of_ble_eq_true rfl, Nat.le_of_ble_eq_true rfl⟩ (fun _ H locs hP hD hS => ?_)
    have hP : va_P z.1 classes (wv z ad E M2) H := hP
    have hD : va_D A (wv z ad E M2) := hD
    refine W.eq (g2 := F0 m 17 ls [.long r2, .long (M.2 (p0 + 2) x1.toNatClampNeg)]) rfl ?_
    refine lv_lmul hx hb d_6_6_17 ?_
    obtain ⟨v3, e3, h⟩ := nb_e h
    refine nrmL e3.symm ?_
    refine lv_lstore (lv' := [(4, .long v3), (0, .ref (ad p0)), (1, .int x1), (2, .int x2), (3, .int x3)]) hx hb d_6_6_18 hl (by decide) rfl (fun ls hl => ?_)
    refine lv_aload_n hx hb d_6_6_20 rfl (lv_at hl 1 rfl) ?_
    refine m_gr (j := (p0 + 2)) (C := "Ballothall$Division") (T := TX4) (N := 8) (ci := 4) (k := 3) hx hb hts iX4 hown hG hP (isDi_i h_p0) (isDi_T h_p0) rfl (by decide) w_181 (fun _ h9 => h9) rfl rfl (isDi_r3 h_p0) d_6_6_21 ?_
    refine lv_iload_n hx hb d_6_6_24 rfl (lv_at hl 3 rfl) ?_
    obtain ⟨ok4, h⟩ := ck_e h
    refine m_la hx hb hG hP (isDi_i2 h_p0) (isDi_t2 h_p0) ok4 d_6_6_25 ?_
    refine lv_aload_n hx hb d_6_6_26 rfl (lv_at hl 1 rfl) ?_
    refine lv_iload_n hx hb d_6_6_27 rfl (lv_at hl 4 rfl) ?_
    refine lv_aload_n hx hb d_6_6_28 rfl (lv_at hl 1 rfl) ?_
    refine m_gr (j := (p0 + 4)) (C := "Ballothall$Division") (T := TX4) (N := 8) (ci := 4) (k := 5) hx hb hts iX4 hown hG hP (isDi_i h_p0) (isDi_T h_p0) rfl (by decide) w_183 (fun _ h9 => h9) rfl rfl (isDi_r5 h_p0) d_6_6_29 ?_
    refine lv_iload_n hx hb d_6_6_32 rfl (lv_at hl 2 rfl) ?_
    obtain ⟨ok5, h⟩ := ck_e h
    refine m_ia hx hb hG hP (isDi_i4 h_p0) (isDi_t4 h_p0) ok5 d_6_6_33 ?_
    obtain ⟨⟨r6, M6⟩, g6, h⟩ := bd_e h
    refine kV (As := [.int x3, .int (M2.1 (p0 + 4) x1.toNatClampNeg)]) (rest := [.long (M2.2 (p0 + 2) x2.toNatClampNeg)]) (s_Di_divisor l z ad E M2 p0 x3 (M2.1 (p0 + 4) x1.toNatClampNeg) r6 M6 hL g6) hx hb hml hown hts w_1574 w_1571 w_1573 w_s_74d3de w_6 md_91408d ⟨Nat.le_of_ble_eq_true rfl, Nat.le_of_ble_eq_true rfl⟩ hG hZ hP hD hS hA p0 (wv_o (ci := 4) (isDi_i h_p0) (isDi_T h_p0)) rfl rfl rfl hl.1 rfl (Nat.le_of_ble_eq_true rfl) d_6_6_34 ⟨Nat.le_of_ble_eq_true rfl, Nat.le_of_ble_eq_true rfl⟩ (fun _ H locs hP hD hS => ?_)
    have hP : va_P z.1 classes (wv z ad E M6) H := hP
    have hD : va_D A (wv z ad E M6) := hD
    refine W.eq (g2 := F0 m 37 ls [.long r6, .long (M2.2 (p0 + 2) x2.toNatClampNeg)]) rfl ?_
    refine lv_lmul hx hb d_6_6_37 ?_
    obtain ⟨v7, e7, h⟩ := nb_e h
    refine nrmL e7.symm ?_
    refine lv_lstore (lv' := [(6, .long v7), (4, .long v3), (0, .ref (ad p0)), (1, .int x1), (2, .int x2), (3, .int x3)]) hx hb d_6_6_38 hl (by decide) rfl (fun ls hl => ?_)
    refine lv_lload hx hb d_6_6_40 (lv_at hl 1 rfl) ?_
    refine lv_lload hx hb d_6_6_42 (lv_at hl 0 rfl) ?_
    refine W.lcmp hx hb d_6_6_44 ?_
    refine lv_if_gt (tgt := 65) hx hb d_6_6_45 (by decide) (fun c9 => ?_) (fun c9 => ?_)
    · have h := ite_t c9 h
      refine lv_iconst (v := 1) hx hb d_6_6_65 (by decide +kernel) ?_
      refine lv_goto (tgt := 70) hx hb d_6_6_66 (by decide) ?_
      obtain ⟨rfl, rfl⟩ := in2 h
      exact W.zret hx hb hr rfl (fun t ht hW => qkA hP hD hS (fun k => k) rfl rfl ht) hS.2.2 d_6_6_70
    · have h := ite_f c9 h
      refine lv_lload hx hb d_6_6_48 (lv_at hl 1 rfl) ?_
      refine lv_lload hx hb d_6_6_50 (lv_at hl 0 rfl) ?_
      refine W.lcmp hx hb d_6_6_52 ?_
      refine lv_if_ne (tgt := 69) hx hb d_6_6_53 (by decide) (fun c9 => ?_) (fun c9 => ?_)
      · have h := ite_f c9 h
        refine lv_iconst (v := 0) hx hb d_6_6_69 (by decide +kernel) ?_
        obtain ⟨rfl, rfl⟩ := in2 h
        exact W.zret hx hb hr rfl (fun t ht hW => qkA hP hD hS (fun k => k) rfl rfl ht) hS.2.2 d_6_6_70
      · have h := ite_t c9 h
        refine lv_aload_n hx hb d_6_6_56 rfl (lv_at hl 2 rfl) ?_
        refine lv_iload_n hx hb d_6_6_57 rfl (lv_at hl 3 rfl) ?_
        refine lv_iload_n hx hb d_6_6_58 rfl (lv_at hl 4 rfl) ?_
        obtain ⟨⟨r8, M8⟩, g8, h⟩ := bd_e h
        refine kV (As := [.int x1, .int x2]) (rest := []) (s_Di_winsTie l z ad E M6 p0 x1 x2 r8 M8 hL g8) hx hb hml hown hts w_1565 w_1562 w_1564 w_s_84fd95 w_6 md_77b7c9 ⟨Nat.le_of_ble_eq_true rfl, Nat.le_of_ble_eq_true rfl⟩ hG hZ hP hD hS hA p0 (wv_o (ci := 4) (isDi_i h_p0) (isDi_T h_p0)) rfl rfl rfl hl.1 rfl (Nat.le_of_ble_eq_true rfl) d_6_6_59 ⟨Nat.le_of_ble_eq_true rfl, Nat.le_of_ble_eq_true rfl⟩ (fun _ H locs hP hD hS => ?_)
        have hP : va_P z.1 classes (wv z ad E M8) H := hP
        have hD : va_D A (wv z ad E M8) := hD
        refine W.eq (g2 := F0 m 62 ls [.int r8]) rfl ?_
        refine lv_if_eq (tgt := 69) hx hb d_6_6_62 (by decide) (fun c9 => ?_) (fun c9 => ?_)
        · have h := ite_t c9 h
          refine lv_iconst (v := 0) hx hb d_6_6_69 (by decide +kernel) ?_
          obtain ⟨rfl, rfl⟩ := in2 h
          exact W.zret hx hb hr rfl (fun t ht hW => qkA hP hD hS (fun k => k) rfl rfl ht) hS.2.2 d_6_6_70
        · have h := ite_f c9 h
          refine lv_iconst (v := 1) hx hb d_6_6_65 (by decide +kernel) ?_
          refine lv_goto (tgt := 70) hx hb d_6_6_66 (by decide) ?_
          obtain ⟨rfl, rfl⟩ := in2 h
          exact W.zret hx hb hr rfl (fun t ht hW => qkA hP hD hS (fun k => k) rfl rfl ht) hS.2.2 d_6_6_70
  exact key _ _ _ hts hP hS
set_option maxRecDepth 100000 in
set_option maxHeartbeats 4000000 in
theorem b_Di_distribute_32b (l : Launch) (z : Zz) (ad : Nat → Nat) (E : Ev) (M : Mm) (q0 : Nat) (x1 : Int32) (x2 : Int32) (x3 : Int32) (x4 : Int32) (x5 : Int32) (t : Nat) (w4 : Int32) (w5 : Int32) (N : Mm) {Q : State → Prop} {p : Program} {e : Env} {s : State} {m : MethodId} {below : List Frame} {meth : Method} {c : Code} {A : Nat → Prop} {args : Array Value} (hx : p.tables.exec = Jvm.exec) (hb : c.code = prog_6_method_5_code) (hml : c.maxLocals = 6) (hts : ∀ w ∈ WG, w.before args s = true) (hown : s.vm.findClass "Ballothall$Division" = some m.cls) (hlocks : meth.locks = false) (hA : ∀ q, s.heap.size ≤ q → A q) (hG : KG z s) (hZ : FZ z A s) (hL : Lay E) (h : Di_distribute_32b E M q0 x1 x2 x3 x4 x5 = some (t, w4, w5, N)) (k0 : t = 0 → ∀ (H : Heap) (locs : List Loc) (ls : Array Slot), va_P z.1 classes (wv z ad E N) H → va_D A (wv z ad E N) → va_S A s.heap H locs → lv_has ls 6 [(0, .ref (ad q0)), (1, .int x1), (2, .int x2), (3, .int x3), (4, .int w4), (5, .int w5)] → W p l e (rmK 3 91 0 0) s m args below meth c H locs 0 0 Q (F0 m 32 ls [])) (k1 : t = 1 → ∀ (H : Heap) (locs : List Loc) (ls : Array Slot), va_P z.1 classes (wv z ad E N) H → va_D A (wv z ad E N) → va_S A s.heap H locs → lv_has ls 6 [(0, .ref (ad q0)), (1, .int x1), (2, .int x2), (3, .int x3), (4, .int w4)] → W p l e (rmK 3 91 0 0) s m args below meth c H locs 0 0 Q (F0 m 63 ls [])) : ∀ (H : Heap) (locs : List Loc) (ls : Array Slot), va_P z.1 classes (wv z ad E M) H → va_D A (wv z ad E M) → va_S A s.heap H locs → lv_has ls 6 [(0, .ref (ad q0)), (1, .int x1), (2, .int x2), (3, .int x3), (4, .int x4), (5, .int x5)] → W p l e (rmK 3 91 0 0) s m args below meth c H locs 0 0 Q (F0 m 32 ls []) := by
  intro H locs ls hP hD hS hl
  unfold Di_distribute_32b at h
  obtain ⟨h_q0, h⟩ := ck_e h
  refine lv_iload hx hb d_6_5_32 (lv_at hl 5 rfl) ?_
  refine lv_aload_n hx hb d_6_5_34 rfl (lv_at hl 0 rfl) ?_
  refine m_gi (C := "Ballothall$Division") (T := TX4) (N := 8) (ci := 4) (k := 0) hx hb hts iX4 hown hG hP (isDi_i h_q0) (isDi_T h_q0) rfl (by decide) w_175 (fun _ h9 => h9) rfl rfl d_6_5_35 ?_
  refine lv_icmp_ge (tgt := 63) hx hb d_6_5_38 (by decide) (fun c9 => ?_) (fun c9 => ?_)
  · have h := ite_t c9 h
    obtain ⟨rfl, rfl, rfl, rfl⟩ := in4 h
    exact k1 rfl H locs ls hP hD hS (lv_sub hl [0, 1, 2, 3, 4] rfl)
  · have h := ite_f c9 h
    refine lv_aload_n hx hb d_6_5_41 rfl (lv_at hl 0 rfl) ?_
    refine lv_iload hx hb d_6_5_42 (lv_at hl 5 rfl) ?_
    refine lv_iload hx hb d_6_5_44 (lv_at hl 4 rfl) ?_
    refine lv_iload_n hx hb d_6_5_46 rfl (lv_at hl 1 rfl) ?_
    obtain ⟨⟨r0, M0⟩, g0, h⟩ := bd_e h
    refine kV (As := [.int x5, .int x4, .int x1]) (rest := []) (s_Di_hasGreaterQuotient l z ad E M q0 x5 x4 x1 r0 M0 hL g0) hx hb hml hown hts w_1570 w_1567 w_1569 w_s_705804 w_6 md_50e65b ⟨Nat.le_of_ble_eq_true rfl, Nat.le_of_ble_eq_true rfl⟩ hG hZ hP hD hS hA q0 (wv_o (ci := 4) (isDi_i h_q0) (isDi_T h_q0)) rfl rfl rfl hl.1 rfl (Nat.le_of_ble_eq_true rfl) d_6_5_47 ⟨Nat.le_of_ble_eq_true rfl, Nat.le_of_ble_eq_true rfl⟩ (fun _ H locs hP hD hS => ?_)
    have hP : va_P z.1 classes (wv z ad E M0) H := hP
    have hD : va_D A (wv z ad E M0) := hD
    refine W.eq (g2 := F0 m 50 ls [.int r0]) rfl ?_
    refine lv_if_eq (tgt := 57) hx hb d_6_5_50 (by decide) (fun c9 => ?_) (fun c9 => ?_)
    · have h := ite_t c9 h
      refine lv_iinc (v := (x5 + 1)) (lv' := [(5, .int (x5 + 1)), (0, .ref (ad q0)), (1, .int x1), (2, .int x2), (3, .int x3), (4, .int x4)]) hx hb d_6_5_57 hl (k := 5) rfl (congrArg (fun q => x5 + q) (show Int32.ofInt 1 = 1 by decide +kernel)) (by decide) rfl (fun ls hl => ?_)
      refine lv_goto (tgt := 32) hx hb d_6_5_60 (by decide) ?_
      obtain ⟨rfl, rfl, rfl, rfl⟩ := in4 h
      exact k0 rfl H locs ls hP hD hS (lv_sub hl [1, 2, 3, 4, 5, 0] rfl)
    · have h := ite_f c9 h
      refine lv_iload hx hb d_6_5_53 (lv_at hl 5 rfl) ?_
      refine lv_istore (lv' := [(4, .int x5), (0, .ref (ad q0)), (1, .int x1), (2, .int x2), (3, .int x3), (5, .int x5)]) hx hb d_6_5_55 hl (by decide) rfl (fun ls hl => ?_)
      refine lv_iinc (v := (x5 + 1)) (lv' := [(5, .int (x5 + 1)), (4, .int x5), (0, .ref (ad q0)), (1, .int x1), (2, .int x2), (3, .int x3)]) hx hb d_6_5_57 hl (k := 5) rfl (congrArg (fun q => x5 + q) (show Int32.ofInt 1 = 1 by decide +kernel)) (by decide) rfl (fun ls hl => ?_)
      refine lv_goto (tgt := 32) hx hb d_6_5_60 (by decide) ?_
      obtain ⟨rfl, rfl, rfl, rfl⟩ := in4 h
      exact k0 rfl H locs ls hP hD hS (lv_sub hl [2, 3, 4, 5, 1, 0] rfl)
set_option maxRecDepth 100000 in
set_option maxHeartbeats 4000000 in
theorem s_Di_distribute_32 (l : Launch) (z : Zz) (ad : Nat → Nat) (E : Ev) (q0 : Nat) (x1 : Int32) (x2 : Int32) (x3 : Int32) {Q : State → Prop} {p : Program} {e : Env} {s : State} {m : MethodId} {below : List Frame} {meth : Method} {c : Code} {A : Nat → Prop} {args : Array Value} (hx : p.tables.exec = Jvm.exec) (hb : c.code = prog_6_method_5_code) (hml : c.maxLocals = 6) (hts : ∀ w ∈ WG, w.before args s = true) (hown : s.vm.findClass "Ballothall$Division" = some m.cls) (hlocks : meth.locks = false) (hA : ∀ q, s.heap.size ≤ q → A q) (hG : KG z s) (hZ : FZ z A s) (hL : Lay E) : ∀ (fu : Nat) (M : Mm) (x4 : Int32) (x5 : Int32) (t : Nat) (w4 : Int32) (w5 : Int32) (N : Mm), l_Di_distribute_32 E q0 x1 x2 x3 fu M x4 x5 = some (t, w4, w5, N) → (t = 1 → ∀ (H : Heap) (locs : List Loc) (ls : Array Slot), va_P z.1 classes (wv z ad E N) H → va_D A (wv z ad E N) → va_S A s.heap H locs → lv_has ls 6 [(0, .ref (ad q0)), (1, .int x1), (2, .int x2), (3, .int x3), (4, .int w4)] → W p l e (rmK 3 91 0 0) s m args below meth c H locs 0 0 Q (F0 m 63 ls [])) → ∀ (H : Heap) (locs : List Loc) (ls : Array Slot), va_P z.1 classes (wv z ad E M) H → va_D A (wv z ad E M) → va_S A s.heap H locs → lv_has ls 6 [(0, .ref (ad q0)), (1, .int x1), (2, .int x2), (3, .int x3), (4, .int x4), (5, .int x5)] → W p l e (rmK 3 91 0 0) s m args below meth c H locs 0 0 Q (F0 m 32 ls []) := by
  intro fu
  induction fu with
  | zero =>
    intro M x4 x5 t w4 w5 N h
    have h : (none : Option (Nat × Int32 × Int32 × Mm)) = some _ := h
    cases h
  | succ fu ih =>
    intro M x4 x5 t w4 w5 N h k1 H locs ls hP hD hS hl
    obtain ⟨⟨t0, w40, w50, N0⟩, g0, h⟩ := bd_e h
    refine b_Di_distribute_32b l z ad E M q0 x1 x2 x3 x4 x5 t0 w40 w50 N0 hx hb hml hts hown hlocks hA hG hZ hL g0 (fun e0 => ?_) (fun e0 => ?_) H locs ls hP hD hS hl
    · subst e0
      have h := ite_t rfl h
      exact ih N0 w40 w50 t w4 w5 N h k1
    · subst e0
      have h := ite_f (by decide) h
      obtain ⟨rfl, rfl, rfl, rfl⟩ := in4 h
      exact k1 rfl
set_option maxRecDepth 100000 in
set_option maxHeartbeats 4000000 in
theorem b_Di_distribute_21b (l : Launch) (z : Zz) (ad : Nat → Nat) (E : Ev) (M : Mm) (q0 : Nat) (x1 : Int32) (x2 : Int32) (x3 : Int32) (t : Nat) (w3 : Int32) (N : Mm) {Q : State → Prop} {p : Program} {e : Env} {s : State} {m : MethodId} {below : List Frame} {meth : Method} {c : Code} {A : Nat → Prop} {args : Array Value} (hx : p.tables.exec = Jvm.exec) (hb : c.code = prog_6_method_5_code) (hml : c.maxLocals = 6) (hts : ∀ w ∈ WG, w.before args s = true) (hown : s.vm.findClass "Ballothall$Division" = some m.cls) (hlocks : meth.locks = false) (hA : ∀ q, s.heap.size ≤ q → A q) (hG : KG z s) (hZ : FZ z A s) (hL : Lay E) (h : Di_distribute_21b E M q0 x1 x2 x3 = some (t, w3, N)) (k0 : t = 0 → ∀ (H : Heap) (locs : List Loc) (ls : Array Slot), va_P z.1 classes (wv z ad E N) H → va_D A (wv z ad E N) → va_S A s.heap H locs → lv_has ls 6 [(0, .ref (ad q0)), (1, .int x1), (2, .int x2), (3, .int w3)] → W p l e (rmK 3 91 0 0) s m args below meth c H locs 0 0 Q (F0 m 21 ls [])) (k1 : t = 1 → ∀ (H : Heap) (locs : List Loc) (ls : Array Slot), va_P z.1 classes (wv z ad E N) H → va_D A (wv z ad E N) → va_S A s.heap H locs → lv_has ls 6 [] → W p l e (rmK 3 91 0 0) s m args below meth c H locs 0 0 Q (F0 m 75 ls [])) : ∀ (H : Heap) (locs : List Loc) (ls : Array Slot), va_P z.1 classes (wv z ad E M) H → va_D A (wv z ad E M) → va_S A s.heap H locs → lv_has ls 6 [(0, .ref (ad q0)), (1, .int x1), (2, .int x2), (3, .int x3)] → W p l e (rmK 3 91 0 0) s m args below meth c H locs 0 0 Q (F0 m 21 ls []) := by
  intro H locs ls hP hD hS hl
  unfold Di_distribute_21b at h
  obtain ⟨h_q0, h⟩ := ck_e h
  refine lv_iload_n hx hb d_6_5_21 rfl (lv_at hl 3 rfl) ?_
  refine lv_iload_n hx hb d_6_5_22 rfl (lv_at hl 2 rfl) ?_
  refine lv_icmp_ge (tgt := 75) hx hb d_6_5_23 (by decide) (fun c9 => ?_) (fun c9 => ?_)
  · have h := ite_t c9 h
    obtain ⟨rfl, rfl, rfl⟩ := in3 h
    exact k1 rfl H locs ls hP hD hS (lv_sub hl [] rfl)
  · have h := ite_f c9 h
    refine lv_iconst (v := 0) hx hb d_6_5_26 (by decide +kernel) ?_
    refine lv_istore (lv' := [(4, .int 0), (0, .ref (ad q0)), (1, .int x1), (2, .int x2), (3, .int x3)]) hx hb d_6_5_27 hl (by decide) rfl (fun ls hl => ?_)
    refine lv_iconst (v := 1) hx hb d_6_5_29 (by decide +kernel) ?_
    refine lv_istore (lv' := [(5, .int 1), (4, .int 0), (0, .ref (ad q0)), (1, .int x1), (2, .int x2), (3, .int x3)]) hx hb d_6_5_30 hl (by decide) rfl (fun ls hl => ?_)
    obtain ⟨⟨t1, v1_4, v1_5, M1⟩, g1, h⟩ := bd_e h
    obtain ⟨ok1, h⟩ := ck_e h
    refine s_Di_distribute_32 l z ad E q0 x1 x2 x3 hx hb hml hts hown hlocks hA hG hZ hL FU M 0 1 t1 v1_4 v1_5 M1 g1 (fun e1 H locs ls hP hD hS hl => ?_) H locs ls hP hD hS (lv_sub hl [2, 3, 4, 5, 1, 0] rfl)
    refine lv_aload_n hx hb d_6_5_63 rfl (lv_at hl 0 rfl) ?_
    refine lv_iload hx hb d_6_5_64 (lv_at hl 4 rfl) ?_
    obtain ⟨M2, g2, h⟩ := bd_e h
    refine kV (As := [.int v1_4]) (rest := []) (s_Di_give l z ad E M1 q0 v1_4 M2 hL g2) hx hb hml hown hts w_1557 w_1554 w_1556 w_s_8d192b w_6 md_306e32 ⟨Nat.le_of_ble_eq_true rfl, Nat.le_of_ble_eq_true rfl⟩ hG hZ hP hD hS hA q0 (wv_o (ci := 4) (isDi_i h_q0) (isDi_T h_q0)) rfl rfl rfl hl.1 rfl (Nat.le_of_ble_eq_true rfl) d_6_5_66 ⟨Nat.le_of_ble_eq_true rfl, Nat.le_of_ble_eq_true rfl⟩ (fun _ H locs hP hD hS => ?_)
    have hP : va_P z.1 classes (wv z ad E M2) H := hP
    have hD : va_D A (wv z ad E M2) := hD
    refine W.eq (g2 := F0 m 69 ls []) rfl ?_
    refine lv_iinc (v := (x3 + 1)) (lv' := [(3, .int (x3 + 1)), (0, .ref (ad q0)), (1, .int x1), (2, .int x2), (4, .int v1_4)]) hx hb d_6_5_69 hl (k := 3) rfl (congrArg (fun q => x3 + q) (show Int32.ofInt 1 = 1 by decide +kernel)) (by decide) rfl (fun ls hl => ?_)
    refine lv_goto (tgt := 21) hx hb d_6_5_72 (by decide) ?_
    obtain ⟨rfl, rfl, rfl⟩ := in3 h
    exact k0 rfl H locs ls hP hD hS (lv_sub hl [1, 2, 3, 0] rfl)
set_option maxRecDepth 100000 in
set_option maxHeartbeats 4000000 in
theorem s_Di_distribute_21 (l : Launch) (z : Zz) (ad : Nat → Nat) (E : Ev) (q0 : Nat) (x1 : Int32) (x2 : Int32) {Q : State → Prop} {p : Program} {e : Env} {s : State} {m : MethodId} {below : List Frame} {meth : Method} {c : Code} {A : Nat → Prop} {args : Array Value} (hx : p.tables.exec = Jvm.exec) (hb : c.code = prog_6_method_5_code) (hml : c.maxLocals = 6) (hts : ∀ w ∈ WG, w.before args s = true) (hown : s.vm.findClass "Ballothall$Division" = some m.cls) (hlocks : meth.locks = false) (hA : ∀ q, s.heap.size ≤ q → A q) (hG : KG z s) (hZ : FZ z A s) (hL : Lay E) : ∀ (fu : Nat) (M : Mm) (x3 : Int32) (t : Nat) (w3 : Int32) (N : Mm), l_Di_distribute_21 E q0 x1 x2 fu M x3 = some (t, w3, N) → (t = 1 → ∀ (H : Heap) (locs : List Loc) (ls : Array Slot), va_P z.1 classes (wv z ad E N) H → va_D A (wv z ad E N) → va_S A s.heap H locs → lv_has ls 6 [] → W p l e (rmK 3 91 0 0) s m args below meth c H locs 0 0 Q (F0 m 75 ls [])) → ∀ (H : Heap) (locs : List Loc) (ls : Array Slot), va_P z.1 classes (wv z ad E M) H → va_D A (wv z ad E M) → va_S A s.heap H locs → lv_has ls 6 [(0, .ref (ad q0)), (1, .int x1), (2, .int x2), (3, .int x3)] → W p l e (rmK 3 91 0 0) s m args below meth c H locs 0 0 Q (F0 m 21 ls []) := by
  intro fu
  induction fu with
  | zero =>
    intro M x3 t w3 N h
    have h : (none : Option (Nat × Int32 × Mm)) = some _ := h
    cases h
  | succ fu ih =>
    intro M x3 t w3 N h k1 H locs ls hP hD hS hl
    obtain ⟨⟨t0, w30, N0⟩, g0, h⟩ := bd_e h
    refine b_Di_distribute_21b l z ad E M q0 x1 x2 x3 t0 w30 N0 hx hb hml hts hown hlocks hA hG hZ hL g0 (fun e0 => ?_) (fun e0 => ?_) H locs ls hP hD hS hl
    · subst e0
      have h := ite_t rfl h
      exact ih N0 w30 t w3 N h k1
    · subst e0
      have h := ite_f (by decide) h
      obtain ⟨rfl, rfl, rfl⟩ := in3 h
      exact k1 rfl
set_option maxRecDepth 100000 in
set_option maxHeartbeats 4000000 in
theorem s_Di_distribute (l : Launch) (z : Zz) (ad : Nat → Nat) (E : Ev) (M : Mm) (p0 : Nat) (x1 : Int32) (x2 : Int32) (N : Mm) (hL : Lay E) (h : f_Di_distribute E M p0 x1 x2 = some N) : CT l z ⟨"Ballothall$Division", "distribute", "(II)V"⟩ prog_6_method_5_code 6 none [.ref (ad p0), .int x1, .int x2] (wv z ad E M) 3 91 0 0 (fun _ => none) (fun _ => wv z ad E N) := by
  refine CT.of (own := "Ballothall$Division") (by decide +kernel) (Nat.le_of_ble_eq_true rfl) rfl (fun p e s m below meth c A ls hx hb hml hr hts hown hlocks hin hA hG hZ hP hD hS hl => ?_)
  have hl : lv_has ls 6 [(0, .ref (ad p0)), (1, .int x1), (2, .int x2)] := hl
  have key : ∀ (H : Heap) (locs : List Loc) (args : Array Value), (∀ w ∈ WG, w.before args s = true) → va_P z.1 classes (wv z ad E M) H → va_S A s.heap H locs → W p l e (rmK 3 91 0 0) s m args below meth c H locs 0 0 (MQ below (QK z A (fun _ => none) (fun _ => wv z ad E N)) args s 0 0 A) (F0 m 0 ls []) := by
    intro H locs args hts hP hS
    unfold f_Di_distribute at h
    obtain ⟨h_p0, h⟩ := ck_e h
    refine lv_aload_n hx hb d_6_5_0 rfl (lv_at hl 0 rfl) ?_
    refine m_gi (C := "Ballothall$Division") (T := TX4) (N := 8) (ci := 4) (k := 0) hx hb hts iX4 hown hG hP (isDi_i h_p0) (isDi_T h_p0) rfl (by decide) w_175 (fun _ h9 => h9) rfl rfl d_6_5_1 ?_
    refine lv_if_ne (tgt := 8) hx hb d_6_5_4 (by decide) (fun c9 => ?_) (fun c9 => ?_)
    · have h := ite_f c9 h
      refine lv_iload_n hx hb d_6_5_8 rfl (lv_at hl 1 rfl) ?_
      refine lv_iconst (v := 5) hx hb d_6_5_9 (by decide +kernel) ?_
      refine lv_icmp_ne (tgt := 19) hx hb d_6_5_10 (by decide) (fun c9 => ?_) (fun c9 => ?_)
      · have h := ite_f c9 h
        refine lv_iconst (v := 0) hx hb d_6_5_19 (by decide +kernel) ?_
        refine lv_istore_n (lv' := [(3, .int 0), (0, .ref (ad p0)), (1, .int x1), (2, .int x2)]) hx hb d_6_5_20 rfl hl (by decide) rfl (fun ls hl => ?_)
        obtain ⟨⟨t3, v3_3, M3⟩, g3, h⟩ := bd_e h
        obtain ⟨ok3, h⟩ := ck_e h
        refine s_Di_distribute_21 l z ad E p0 x1 x2 hx hb hml hts hown hlocks hA hG hZ hL FU M 0 t3 v3_3 M3 g3 (fun e3 H locs ls hP hD hS hl => ?_) H locs ls hP hD hS (lv_sub hl [1, 2, 3, 0] rfl)
        obtain rfl := in1 h
        exact W.vret hx hb hr (fun t ht hW => qkA hP hD hS (fun k => k) rfl rfl ht) hS.2.2 d_6_5_75
      · have h := ite_t c9 h
        refine lv_aload_n hx hb d_6_5_13 rfl (lv_at hl 0 rfl) ?_
        refine lv_iload_n hx hb d_6_5_14 rfl (lv_at hl 2 rfl) ?_
        obtain ⟨M4, g4, h⟩ := bd_e h
        refine kV (As := [.int x2]) (rest := []) (s_Di_distributeByRemainders l z ad E M p0 x2 M4 hL g4) hx hb hml hown hts w_1553 w_1550 w_1552 w_s_3e9bc1 w_6 md_97847b ⟨Nat.le_of_ble_eq_true rfl, Nat.le_of_ble_eq_true rfl⟩ hG hZ hP hD hS hA p0 (wv_o (ci := 4) (isDi_i h_p0) (isDi_T h_p0)) rfl rfl rfl hl.1 rfl (Nat.le_of_ble_eq_true rfl) d_6_5_15 ⟨Nat.le_of_ble_eq_true rfl, Nat.le_of_ble_eq_true rfl⟩ (fun _ H locs hP hD hS => ?_)
        have hP : va_P z.1 classes (wv z ad E M4) H := hP
        have hD : va_D A (wv z ad E M4) := hD
        refine W.eq (g2 := F0 m 18 ls []) rfl ?_
        obtain rfl := in1 h
        exact W.vret hx hb hr (fun t ht hW => qkA hP hD hS (fun k => k) rfl rfl ht) hS.2.2 d_6_5_18
    · have h := ite_t c9 h
      obtain rfl := in1 h
      exact W.vret hx hb hr (fun t ht hW => qkA hP hD hS (fun k => k) rfl rfl ht) hS.2.2 d_6_5_7
  exact key _ _ _ hts hP hS
set_option maxRecDepth 100000 in
set_option maxHeartbeats 4000000 in
theorem b_Li_spreadInside_10b (l : Launch) (z : Zz) (ad : Nat → Nat) (E : Ev) (M : Mm) (x1 : Int32) (x2 : Int32) (x3 : Int32) (x4 : Int32) (t : Nat) (w4 : Int32) (N : Mm) {Q : State → Prop} {p : Program} {e : Env} {s : State} {m : MethodId} {below : List Frame} {meth : Method} {c : Code} {A : Nat → Prop} {args : Array Value} (hx : p.tables.exec = Jvm.exec) (hb : c.code = prog_9_method_8_code) (hml : c.maxLocals = 5) (hts : ∀ w ∈ WG, w.before args s = true) (hown : s.vm.findClass "Ballothall$Lists" = some m.cls) (hlocks : meth.locks = false) (hA : ∀ q, s.heap.size ≤ q → A q) (hG : KG z s) (hZ : FZ z A s) (hL : Lay E) (h : Li_spreadInside_10b E M x1 x2 x3 x4 = some (t, w4, N)) (k0 : t = 0 → ∀ (H : Heap) (locs : List Loc) (ls : Array Slot), va_P z.1 classes (wv z ad E N) H → va_D A (wv z ad E N) → va_S A s.heap H locs → lv_has ls 5 [(0, .ref (ad 53)), (1, .int x1), (2, .int x2), (3, .int x3), (4, .int w4)] → W p l e (rmK 4 116 0 0) s m args below meth c H locs 0 0 Q (F0 m 10 ls [])) (k1 : t = 1 → ∀ (H : Heap) (locs : List Loc) (ls : Array Slot), va_P z.1 classes (wv z ad E N) H → va_D A (wv z ad E N) → va_S A s.heap H locs → lv_has ls 5 [(0, .ref (ad 53)), (2, .int x2), (3, .int x3)] → W p l e (rmK 4 116 0 0) s m args below meth c H locs 0 0 Q (F0 m 69 ls [])) : ∀ (H : Heap) (locs : List Loc) (ls : Array Slot), va_P z.1 classes (wv z ad E M) H → va_D A (wv z ad E M) → va_S A s.heap H locs → lv_has ls 5 [(0, .ref (ad 53)), (1, .int x1), (2, .int x2), (3, .int x3), (4, .int x4)] → W p l e (rmK 4 116 0 0) s m args below meth c H locs 0 0 Q (F0 m 10 ls []) := by
  intro H locs ls hP hD hS hl
  unfold Li_spreadInside_10b at h
  refine lv_iload hx hb d_9_8_10 (lv_at hl 4 rfl) ?_
  refine lv_aload_n hx hb d_9_8_12 rfl (lv_at hl 0 rfl) ?_
  refine m_gi (C := "Ballothall$Lists") (T := TX7) (N := 11) (ci := 7) (k := 0) hx hb hts iX7 hown hG hP (yi_53 hL) (yt_53 hL) rfl (by decide) w_242 (fun _ h9 => h9) rfl rfl d_9_8_13 ?_
  refine lv_icmp_ge (tgt := 69) hx hb d_9_8_16 (by decide) (fun c9 => ?_) (fun c9 => ?_)
  · have h := ite_t c9 h
    obtain ⟨rfl, rfl, rfl⟩ := in3 h
    exact k1 rfl H locs ls hP hD hS (lv_sub hl [0, 2, 3] rfl)
  · have h := ite_f c9 h
    refine lv_aload_n hx hb d_9_8_19 rfl (lv_at hl 0 rfl) ?_
    refine lv_iload_n hx hb d_9_8_20 rfl (lv_at hl 1 rfl) ?_
    refine lv_iload hx hb d_9_8_21 (lv_at hl 4 rfl) ?_
    obtain ⟨⟨r1, M1⟩, g1, h⟩ := bd_e h
    refine kV (As := [.int x1, .int x4]) (rest := []) (s_Li_isSameUnit l z ad E M x1 x4 r1 M1 hL g1) hx hb hml hown hts w_1536 w_1533 w_1535 w_s_191f81 w_5 md_6c3977 ⟨Nat.le_of_ble_eq_true rfl, Nat.le_of_ble_eq_true rfl⟩ hG hZ hP hD hS hA 53 (wv_o (ci := 7) (yi_53 hL) (yt_53 hL)) rfl rfl rfl hl.1 rfl (Nat.le_of_ble_eq_true rfl) d_9_8_23 ⟨Nat.le_of_ble_eq_true rfl, Nat.le_of_ble_eq_true rfl⟩ (fun _ H locs hP hD hS => ?_)
    have hP : va_P z.1 classes (wv z ad E M1) H := hP
    have hD : va_D A (wv z ad E M1) := hD
    refine W.eq (g2 := F0 m 26 ls [.int r1]) rfl ?_
    refine lv_if_eq (tgt := 63) hx hb d_9_8_26 (by decide) (fun c9 => ?_) (fun c9 => ?_)
    · have h := ite_t c9 h
      refine lv_iinc (v := (x4 + 1)) (lv' := [(4, .int (x4 + 1)), (0, .ref (ad 53)), (1, .int x1), (2, .int x2), (3, .int x3)]) hx hb d_9_8_63 hl (k := 4) rfl (congrArg (fun q => x4 + q) (show Int32.ofInt 1 = 1 by decide +kernel)) (by decide) rfl (fun ls hl => ?_)
      refine lv_goto (tgt := 10) hx hb d_9_8_66 (by decide) ?_
      obtain ⟨rfl, rfl, rfl⟩ := in3 h
      exact k0 rfl H locs ls hP hD hS (lv_sub hl [1, 2, 3, 4, 0] rfl)
    · have h := ite_f c9 h
      refine lv_aload_n hx hb d_9_8_29 rfl (lv_at hl 0 rfl) ?_
      refine m_gr (j := 54) (C := "Ballothall$Lists") (T := TX7) (N := 11) (ci := 7) (k := 1) hx hb hts iX7 hown hG hP (yi_53 hL) (yt_53 hL) rfl (by decide) w_244 (fun _ h9 => h9) rfl rfl (yr_53_1 hL) d_9_8_30 ?_
      refine lv_iload hx hb d_9_8_33 (lv_at hl 4 rfl) ?_
      obtain ⟨ok2, h⟩ := ck_e h
      refine m_ia hx hb hG hP (yi_54 hL) (yt_54 hL) ok2 d_9_8_35 ?_
      refine lv_if_le (tgt := 63) hx hb d_9_8_36 (by decide) (fun c9 => ?_) (fun c9 => ?_)
      · have h := ite_t c9 h
        refine lv_iinc (v := (x4 + 1)) (lv' := [(4, .int (x4 + 1)), (0, .ref (ad 53)), (1, .int x1), (2, .int x2), (3, .int x3)]) hx hb d_9_8_63 hl (k := 4) rfl (congrArg (fun q => x4 + q) (show Int32.ofInt 1 = 1 by decide +kernel)) (by decide) rfl (fun ls hl => ?_)
        refine lv_goto (tgt := 10) hx hb d_9_8_66 (by decide) ?_
        obtain ⟨rfl, rfl, rfl⟩ := in3 h
        exact k0 rfl H locs ls hP hD hS (lv_sub hl [1, 2, 3, 4, 0] rfl)
      · have h := ite_f c9 h
        refine lv_aload_n hx hb d_9_8_39 rfl (lv_at hl 0 rfl) ?_
        refine m_gr (j := 64) (C := "Ballothall$Lists") (T := TX7) (N := 11) (ci := 7) (k := 5) hx hb hts iX7 hown hG hP (yi_53 hL) (yt_53 hL) rfl (by decide) w_250 (fun _ h9 => h9) rfl rfl (yr_53_5 hL) d_9_8_40 ?_
        refine lv_iload hx hb d_9_8_43 (lv_at hl 4 rfl) ?_
        refine lv_aload_n hx hb d_9_8_45 rfl (lv_at hl 0 rfl) ?_
        refine m_gr (j := 54) (C := "Ballothall$Lists") (T := TX7) (N := 11) (ci := 7) (k := 1) hx hb hts iX7 hown hG hP (yi_53 hL) (yt_53 hL) rfl (by decide) w_244 (fun _ h9 => h9) rfl rfl (yr_53_1 hL) d_9_8_46 ?_
        refine lv_iload hx hb d_9_8_49 (lv_at hl 4 rfl) ?_
        obtain ⟨ok3, h⟩ := ck_e h
        refine m_ia hx hb hG hP (yi_54 hL) (yt_54 hL) ok3 d_9_8_51 ?_
        refine lv_i2l (v := (M1.1 54 x4.toNatClampNeg).toInt64) hx hb d_9_8_52 rfl ?_
        refine lv_aload_n hx hb d_9_8_53 rfl (lv_at hl 0 rfl) ?_
        refine m_gr (j := 56) (C := "Ballothall$Lists") (T := TX7) (N := 11) (ci := 7) (k := 3) hx hb hts iX7 hown hG hP (yi_53 hL) (yt_53 hL) rfl (by decide) w_247 (fun _ h9 => h9) rfl rfl (yr_53_3 hL) d_9_8_54 ?_
        refine lv_iload hx hb d_9_8_57 (lv_at hl 4 rfl) ?_
        obtain ⟨ok4, h⟩ := ck_e h
        refine m_ia hx hb hG hP (yi_56 hL) (yt_56 hL) ok4 d_9_8_59 ?_
        obtain ⟨M5, g5, h⟩ := bd_e h
        refine kVN (As := [.int x4, .long (M1.1 54 x4.toNatClampNeg).toInt64, .int (M1.1 56 x4.toNatClampNeg)]) (rest := []) (s_Di_append l z ad E M1 64 x4 (M1.1 54 x4.toNatClampNeg).toInt64 (M1.1 56 x4.toNatClampNeg) M5 hL g5) hx hb hml hown hts w_1545 n_1542 w_1544 w_s_198351 w_6 md_35cf58 ⟨Nat.le_of_ble_eq_true rfl, Nat.le_of_ble_eq_true rfl⟩ hG hZ hP hD hS hA 64 (wv_o (ci := 4) (yi_64 hL) (yt_64 hL)) rfl rfl rfl hl.1 rfl (Nat.le_of_ble_eq_true rfl) d_9_8_60 ⟨Nat.le_of_ble_eq_true rfl, Nat.le_of_ble_eq_true rfl⟩ (fun _ H locs hP hD hS => ?_)
        have hP : va_P z.1 classes (wv z ad E M5) H := hP
        have hD : va_D A (wv z ad E M5) := hD
        refine W.eq (g2 := F0 m 63 ls []) rfl ?_
        refine lv_iinc (v := (x4 + 1)) (lv' := [(4, .int (x4 + 1)), (0, .ref (ad 53)), (1, .int x1), (2, .int x2), (3, .int x3)]) hx hb d_9_8_63 hl (k := 4) rfl (congrArg (fun q => x4 + q) (show Int32.ofInt 1 = 1 by decide +kernel)) (by decide) rfl (fun ls hl => ?_)
        refine lv_goto (tgt := 10) hx hb d_9_8_66 (by decide) ?_
        obtain ⟨rfl, rfl, rfl⟩ := in3 h
        exact k0 rfl H locs ls hP hD hS (lv_sub hl [1, 2, 3, 4, 0] rfl)
set_option maxRecDepth 100000 in
set_option maxHeartbeats 4000000 in
theorem s_Li_spreadInside_10 (l : Launch) (z : Zz) (ad : Nat → Nat) (E : Ev) (x1 : Int32) (x2 : Int32) (x3 : Int32) {Q : State → Prop} {p : Program} {e : Env} {s : State} {m : MethodId} {below : List Frame} {meth : Method} {c : Code} {A : Nat → Prop} {args : Array Value} (hx : p.tables.exec = Jvm.exec) (hb : c.code = prog_9_method_8_code) (hml : c.maxLocals = 5) (hts : ∀ w ∈ WG, w.before args s = true) (hown : s.vm.findClass "Ballothall$Lists" = some m.cls) (hlocks : meth.locks = false) (hA : ∀ q, s.heap.size ≤ q → A q) (hG : KG z s) (hZ : FZ z A s) (hL : Lay E) : ∀ (fu : Nat) (M : Mm) (x4 : Int32) (t : Nat) (w4 : Int32) (N : Mm), l_Li_spreadInside_10 E x1 x2 x3 fu M x4 = some (t, w4, N) → (t = 1 → ∀ (H : Heap) (locs : List Loc) (ls : Array Slot), va_P z.1 classes (wv z ad E N) H → va_D A (wv z ad E N) → va_S A s.heap H locs → lv_has ls 5 [(0, .ref (ad 53)), (2, .int x2), (3, .int x3)] → W p l e (rmK 4 116 0 0) s m args below meth c H locs 0 0 Q (F0 m 69 ls [])) → ∀ (H : Heap) (locs : List Loc) (ls : Array Slot), va_P z.1 classes (wv z ad E M) H → va_D A (wv z ad E M) → va_S A s.heap H locs → lv_has ls 5 [(0, .ref (ad 53)), (1, .int x1), (2, .int x2), (3, .int x3), (4, .int x4)] → W p l e (rmK 4 116 0 0) s m args below meth c H locs 0 0 Q (F0 m 10 ls []) := by
  intro fu
  induction fu with
  | zero =>
    intro M x4 t w4 N h
    have h : (none : Option (Nat × Int32 × Mm)) = some _ := h
    cases h
  | succ fu ih =>
    intro M x4 t w4 N h k1 H locs ls hP hD hS hl
    obtain ⟨⟨t0, w40, N0⟩, g0, h⟩ := bd_e h
    refine b_Li_spreadInside_10b l z ad E M x1 x2 x3 x4 t0 w40 N0 hx hb hml hts hown hlocks hA hG hZ hL g0 (fun e0 => ?_) (fun e0 => ?_) H locs ls hP hD hS hl
    · subst e0
      have h := ite_t rfl h
      exact ih N0 w40 t w4 N h k1
    · subst e0
      have h := ite_f (by decide) h
      obtain ⟨rfl, rfl, rfl⟩ := in3 h
      exact k1 rfl
set_option maxRecDepth 100000 in
set_option maxHeartbeats 4000000 in
theorem b_Li_spreadInside_81b (l : Launch) (z : Zz) (ad : Nat → Nat) (E : Ev) (M : Mm) (x4 : Int32) (t : Nat) (w4 : Int32) (N : Mm) {Q : State → Prop} {p : Program} {e : Env} {s : State} {m : MethodId} {below : List Frame} {meth : Method} {c : Code} {A : Nat → Prop} {args : Array Value} (hx : p.tables.exec = Jvm.exec) (hb : c.code = prog_9_method_8_code) (hml : c.maxLocals = 5) (hts : ∀ w ∈ WG, w.before args s = true) (hown : s.vm.findClass "Ballothall$Lists" = some m.cls) (hlocks : meth.locks = false) (hA : ∀ q, s.heap.size ≤ q → A q) (hG : KG z s) (hZ : FZ z A s) (hL : Lay E) (h : Li_spreadInside_81b E M x4 = some (t, w4, N)) (k0 : t = 0 → ∀ (H : Heap) (locs : List Loc) (ls : Array Slot), va_P z.1 classes (wv z ad E N) H → va_D A (wv z ad E N) → va_S A s.heap H locs → lv_has ls 5 [(0, .ref (ad 53)), (4, .int w4)] → W p l e (rmK 4 116 0 0) s m args below meth c H locs 0 0 Q (F0 m 81 ls [])) (k1 : t = 1 → ∀ (H : Heap) (locs : List Loc) (ls : Array Slot), va_P z.1 classes (wv z ad E N) H → va_D A (wv z ad E N) → va_S A s.heap H locs → lv_has ls 5 [] → W p l e (rmK 4 116 0 0) s m args below meth c H locs 0 0 Q (F0 m 124 ls [])) : ∀ (H : Heap) (locs : List Loc) (ls : Array Slot), va_P z.1 classes (wv z ad E M) H → va_D A (wv z ad E M) → va_S A s.heap H locs → lv_has ls 5 [(0, .ref (ad 53)), (4, .int x4)] → W p l e (rmK 4 116 0 0) s m args below meth c H locs 0 0 Q (F0 m 81 ls []) := by
  intro H locs ls hP hD hS hl
  unfold Li_spreadInside_81b at h
  refine lv_iload hx hb d_9_8_81 (lv_at hl 1 rfl) ?_
  refine lv_aload_n hx hb d_9_8_83 rfl (lv_at hl 0 rfl) ?_
  refine m_gr (j := 64) (C := "Ballothall$Lists") (T := TX7) (N := 11) (ci := 7) (k := 5) hx hb hts iX7 hown hG hP (yi_53 hL) (yt_53 hL) rfl (by decide) w_250 (fun _ h9 => h9) rfl rfl (yr_53_5 hL) d_9_8_84 ?_
  refine m_giN (C := "Ballothall$Division") (T := TX4) (N := 8) (ci := 4) (k := 0) hx hb hts iX4 hown hG hP (yi_64 hL) (yt_64 hL) rfl (by decide) n_176 rfl (fun _ h9 => h9) rfl rfl d_9_8_87 ?_
  refine lv_icmp_ge (tgt := 124) hx hb d_9_8_90 (by decide) (fun c9 => ?_) (fun c9 => ?_)
  · have h := ite_t c9 h
    obtain ⟨rfl, rfl, rfl⟩ := in3 h
    exact k1 rfl H locs ls hP hD hS (lv_sub hl [] rfl)
  · have h := ite_f c9 h
    refine lv_aload_n hx hb d_9_8_93 rfl (lv_at hl 0 rfl) ?_
    refine m_gr (j := 71) (C := "Ballothall$Lists") (T := TX7) (N := 11) (ci := 7) (k := 7) hx hb hts iX7 hown hG hP (yi_53 hL) (yt_53 hL) rfl (by decide) w_252 (fun _ h9 => h9) rfl rfl (yr_53_7 hL) d_9_8_94 ?_
    refine lv_aload_n hx hb d_9_8_97 rfl (lv_at hl 0 rfl) ?_
    refine m_gr (j := 64) (C := "Ballothall$Lists") (T := TX7) (N := 11) (ci := 7) (k := 5) hx hb hts iX7 hown hG hP (yi_53 hL) (yt_53 hL) rfl (by decide) w_250 (fun _ h9 => h9) rfl rfl (yr_53_5 hL) d_9_8_98 ?_
    refine m_grN (j := 65) (C := "Ballothall$Division") (T := TX4) (N := 8) (ci := 4) (k := 2) hx hb hts iX4 hown hG hP (yi_64 hL) (yt_64 hL) rfl (by decide) n_180 rfl (fun _ h9 => h9) rfl rfl (yr_64_2 hL) d_9_8_101 ?_
    refine lv_iload hx hb d_9_8_104 (lv_at hl 1 rfl) ?_
    obtain ⟨ok8, h⟩ := ck_e h
    refine m_ia hx hb hG hP (yi_65 hL) (yt_65 hL) ok8 d_9_8_106 ?_
    refine lv_aload_n hx hb d_9_8_107 rfl (lv_at hl 0 rfl) ?_
    refine m_gr (j := 64) (C := "Ballothall$Lists") (T := TX7) (N := 11) (ci := 7) (k := 5) hx hb hts iX7 hown hG hP (yi_53 hL) (yt_53 hL) rfl (by decide) w_250 (fun _ h9 => h9) rfl rfl (yr_53_5 hL) d_9_8_108 ?_
    refine m_grN (j := 68) (C := "Ballothall$Division") (T := TX4) (N := 8) (ci := 4) (k := 5) hx hb hts iX4 hown hG hP (yi_64 hL) (yt_64 hL) rfl (by decide) n_184 rfl (fun _ h9 => h9) rfl rfl (yr_64_5 hL) d_9_8_111 ?_
    refine lv_iload hx hb d_9_8_114 (lv_at hl 1 rfl) ?_
    obtain ⟨ok9, h⟩ := ck_e h
    refine m_ia hx hb hG hP (yi_68 hL) (yt_68 hL) ok9 d_9_8_116 ?_
    obtain ⟨ok10, h⟩ := ck_e h
    refine m_is hx hb hG hP hD hS (yi_71 hL) (yt_71 hL) ok10 d_9_8_117 (fun H locs hP hD hS => ?_)
    have hP : va_P z.1 classes (wv z ad E (u2 M 71 (M.1 65 x4.toNatClampNeg).toNatClampNeg (M.1 68 x4.toNatClampNeg))) H := hP
    have hD : va_D A (wv z ad E (u2 M 71 (M.1 65 x4.toNatClampNeg).toNatClampNeg (M.1 68 x4.toNatClampNeg))) := hD
    refine lv_iinc (v := (x4 + 1)) (lv' := [(4, .int (x4 + 1)), (0, .ref (ad 53))]) hx hb d_9_8_118 hl (k := 1) rfl (congrArg (fun q => x4 + q) (show Int32.ofInt 1 = 1 by decide +kernel)) (by decide) rfl (fun ls hl => ?_)
    refine lv_goto (tgt := 81) hx hb d_9_8_121 (by decide) ?_
    obtain ⟨rfl, rfl, rfl⟩ := in3 h
    exact k0 rfl H locs ls hP hD hS (lv_sub hl [1, 0] rfl)
set_option maxRecDepth 100000 in
set_option maxHeartbeats 4000000 in
theorem s_Li_spreadInside_81 (l : Launch) (z : Zz) (ad : Nat → Nat) (E : Ev) {Q : State → Prop} {p : Program} {e : Env} {s : State} {m : MethodId} {below : List Frame} {meth : Method} {c : Code} {A : Nat → Prop} {args : Array Value} (hx : p.tables.exec = Jvm.exec) (hb : c.code = prog_9_method_8_code) (hml : c.maxLocals = 5) (hts : ∀ w ∈ WG, w.before args s = true) (hown : s.vm.findClass "Ballothall$Lists" = some m.cls) (hlocks : meth.locks = false) (hA : ∀ q, s.heap.size ≤ q → A q) (hG : KG z s) (hZ : FZ z A s) (hL : Lay E) : ∀ (fu : Nat) (M : Mm) (x4 : Int32) (t : Nat) (w4 : Int32) (N : Mm), l_Li_spreadInside_81 E fu M x4 = some (t, w4, N) → (t = 1 → ∀ (H : Heap) (locs : List Loc) (ls : Array Slot), va_P z.1 classes (wv z ad E N) H → va_D A (wv z ad E N) → va_S A s.heap H locs → lv_has ls 5 [] → W p l e (rmK 4 116 0 0) s m args below meth c H locs 0 0 Q (F0 m 124 ls [])) → ∀ (H : Heap) (locs : List Loc) (ls : Array Slot), va_P z.1 classes (wv z ad E M) H → va_D A (wv z ad E M) → va_S A s.heap H locs → lv_has ls 5 [(0, .ref (ad 53)), (4, .int x4)] → W p l e (rmK 4 116 0 0) s m args below meth c H locs 0 0 Q (F0 m 81 ls []) := by
  intro fu
  induction fu with
  | zero =>
    intro M x4 t w4 N h
    have h : (none : Option (Nat × Int32 × Mm)) = some _ := h
    cases h
  | succ fu ih =>
    intro M x4 t w4 N h k1 H locs ls hP hD hS hl
    obtain ⟨⟨t0, w40, N0⟩, g0, h⟩ := bd_e h
    refine b_Li_spreadInside_81b l z ad E M x4 t0 w40 N0 hx hb hml hts hown hlocks hA hG hZ hL g0 (fun e0 => ?_) (fun e0 => ?_) H locs ls hP hD hS hl
    · subst e0
      have h := ite_t rfl h
      exact ih N0 w40 t w4 N h k1
    · subst e0
      have h := ite_f (by decide) h
      obtain ⟨rfl, rfl, rfl⟩ := in3 h
      exact k1 rfl
set_option maxRecDepth 100000 in
set_option maxHeartbeats 4000000 in
theorem s_Li_spreadInside (l : Launch) (z : Zz) (ad : Nat → Nat) (E : Ev) (M : Mm) (x1 : Int32) (x2 : Int32) (x3 : Int32) (N : Mm) (hL : Lay E) (h : f_Li_spreadInside E M x1 x2 x3 = some N) : CT l z ⟨"Ballothall$Lists", "spreadInside", "(III)V"⟩ prog_9_method_8_code 5 none [.ref (ad 53), .int x1, .int x2, .int x3] (wv z ad E M) 4 116 0 0 (fun _ => none) (fun _ => wv z ad E N) := by
  refine CT.of (own := "Ballothall$Lists") (by decide +kernel) (Nat.le_of_ble_eq_true rfl) rfl (fun p e s m below meth c A ls hx hb hml hr hts hown hlocks hin hA hG hZ hP hD hS hl => ?_)
  have hl : lv_has ls 5 [(0, .ref (ad 53)), (1, .int x1), (2, .int x2), (3, .int x3)] := hl
  have key : ∀ (H : Heap) (locs : List Loc) (args : Array Value), (∀ w ∈ WG, w.before args s = true) → va_P z.1 classes (wv z ad E M) H → va_S A s.heap H locs → W p l e (rmK 4 116 0 0) s m args below meth c H locs 0 0 (MQ below (QK z A (fun _ => none) (fun _ => wv z ad E N)) args s 0 0 A) (F0 m 0 ls []) := by
    intro H locs args hts hP hS
    unfold f_Li_spreadInside at h
    refine lv_aload_n hx hb d_9_8_0 rfl (lv_at hl 0 rfl) ?_
    refine m_gr (j := 64) (C := "Ballothall$Lists") (T := TX7) (N := 11) (ci := 7) (k := 5) hx hb hts iX7 hown hG hP (yi_53 hL) (yt_53 hL) rfl (by decide) w_250 (fun _ h9 => h9) rfl rfl (yr_53_5 hL) d_9_8_1 ?_
    obtain ⟨M0, g0, h⟩ := bd_e h
    refine kVN (As := []) (rest := []) (s_Di_clear l z ad E M 64 M0 hL g0) hx hb hml hown hts w_1528 n_1525 w_1527 w_s_030e9c w_6 md_4dddda ⟨Nat.le_of_ble_eq_true rfl, Nat.le_of_ble_eq_true rfl⟩ hG hZ hP hD hS hA 64 (wv_o (ci := 4) (yi_64 hL) (yt_64 hL)) rfl rfl rfl hl.1 rfl (Nat.le_of_ble_eq_true rfl) d_9_8_4 ⟨Nat.le_of_ble_eq_true rfl, Nat.le_of_ble_eq_true rfl⟩ (fun _ H locs hP hD hS => ?_)
    have hP : va_P z.1 classes (wv z ad E M0) H := hP
    have hD : va_D A (wv z ad E M0) := hD
    refine W.eq (g2 := F0 m 7 ls []) rfl ?_
    refine lv_iload_n hx hb d_9_8_7 rfl (lv_at hl 1 rfl) ?_
    refine lv_istore (lv' := [(4, .int x1), (0, .ref (ad 53)), (1, .int x1), (2, .int x2), (3, .int x3)]) hx hb d_9_8_8 hl (by decide) rfl (fun ls hl => ?_)
    obtain ⟨⟨t6, v6_4, M6⟩, g6, h⟩ := bd_e h
    obtain ⟨ok6, h⟩ := ck_e h
    refine s_Li_spreadInside_10 l z ad E x1 x2 x3 hx hb hml hts hown hlocks hA hG hZ hL FU M0 x1 t6 v6_4 M6 g6 (fun e6 H locs ls hP hD hS hl => ?_) H locs ls hP hD hS (lv_sub hl [1, 2, 3, 4, 0] rfl)
    refine lv_aload_n hx hb d_9_8_69 rfl (lv_at hl 0 rfl) ?_
    refine m_gr (j := 64) (C := "Ballothall$Lists") (T := TX7) (N := 11) (ci := 7) (k := 5) hx hb hts iX7 hown hG hP (yi_53 hL) (yt_53 hL) rfl (by decide) w_250 (fun _ h9 => h9) rfl rfl (yr_53_5 hL) d_9_8_70 ?_
    refine lv_iload_n hx hb d_9_8_73 rfl (lv_at hl 1 rfl) ?_
    refine lv_iload_n hx hb d_9_8_74 rfl (lv_at hl 2 rfl) ?_
    obtain ⟨M7, g7, h⟩ := bd_e h
    refine kVN (As := [.int x2, .int x3]) (rest := []) (s_Di_distribute l z ad E M6 64 x2 x3 M7 hL g7) hx hb hml hown hts w_1549 n_1546 w_1548 w_s_cb71bb w_6 md_9f0e03 ⟨Nat.le_of_ble_eq_true rfl, Nat.le_of_ble_eq_true rfl⟩ hG hZ hP hD hS hA 64 (wv_o (ci := 4) (yi_64 hL) (yt_64 hL)) rfl rfl rfl hl.1 rfl (Nat.le_of_ble_eq_true rfl) d_9_8_75 ⟨Nat.le_of_ble_eq_true rfl, Nat.le_of_ble_eq_true rfl⟩ (fun _ H locs hP hD hS => ?_)
    have hP : va_P z.1 classes (wv z ad E M7) H := hP
    have hD : va_D A (wv z ad E M7) := hD
    refine W.eq (g2 := F0 m 78 ls []) rfl ?_
    refine lv_iconst (v := 0) hx hb d_9_8_78 (by decide +kernel) ?_
    refine lv_istore (lv' := [(4, .int 0), (0, .ref (ad 53)), (2, .int x2), (3, .int x3)]) hx hb d_9_8_79 hl (by decide) rfl (fun ls hl => ?_)
    obtain ⟨⟨t11, v11_4, M11⟩, g11, h⟩ := bd_e h
    obtain ⟨ok11, h⟩ := ck_e h
    refine s_Li_spreadInside_81 l z ad E hx hb hml hts hown hlocks hA hG hZ hL FU M7 0 t11 v11_4 M11 g11 (fun e11 H locs ls hP hD hS hl => ?_) H locs ls hP hD hS (lv_sub hl [1, 0] rfl)
    obtain rfl := in1 h
    exact W.vret hx hb hr (fun t ht hW => qkA hP hD hS (fun k => k) rfl rfl ht) hS.2.2 d_9_8_124
  exact key _ _ _ hts hP hS
