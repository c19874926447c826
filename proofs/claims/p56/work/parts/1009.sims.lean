set_option maxRecDepth 100000 in
set_option maxHeartbeats 4000000 in
theorem b_Lb_solid_30b (l : Launch) (z : Zz) (ad : Nat → Nat) (E : Ev) (M : Mm) (q0 : Nat) (x1 : Int) (x2 : Int) (x3 : Int) (x5 : Int) (x4 : Int) (x6 : Int) (t : Nat) (w4 : Int) (w6 : Int)  {Q : State → Prop} {p : Program} {e : Env} {s : State} {m : MethodId} {below : List Frame} {meth : Method} {c : Code} {A : Nat → Prop} {args : Array Value} (hx : p.tables.exec = Jvm.exec) (hb : c.code = prog_14_method_4_code) (hml : c.maxLocals = 7) (hts : ∀ w ∈ WG, w.before args s = true) (hown : s.vm.findClass "BallothallLaw$Box" = some m.cls) (hlocks : meth.locks = false) (hA : ∀ q, s.heap.size ≤ q → A q) (hG : KG z s) (hZ : FZ z A s) (hL : Lay E) (h : Lb_solid_30b E M q0 x1 x2 x3 x5 x4 x6 = some (t, w4, w6)) (k0 : t = 0 → ∀ (H : Heap) (locs : List Loc) (ls : Array Slot), va_P z.1 classes (wv z ad E M) H → va_D A (wv z ad E M) → va_S A s.heap H locs → lv_has ls 7 [(0, .ref (ad q0)), (1, .int (oI x1)), (2, .int (oI x2)), (3, .int (oI x3)), (4, .int (oI w4)), (5, .int (oI x5)), (6, .int (oI w6))] → W p l e (rmK 0 20 0 0) s m args below meth c H locs 0 0 Q (F0 m 30 ls [])) (k1 : t = 1 → ∀ (H : Heap) (locs : List Loc) (ls : Array Slot), va_P z.1 classes (wv z ad E M) H → va_D A (wv z ad E M) → va_S A s.heap H locs → lv_has ls 7 [(0, .ref (ad q0)), (1, .int (oI x1)), (2, .int (oI x2)), (3, .int (oI x3)), (4, .int (oI w4)), (5, .int (oI x5))] → W p l e (rmK 0 20 0 0) s m args below meth c H locs 0 0 Q (F0 m 97 ls [])) : ∀ (H : Heap) (locs : List Loc) (ls : Array Slot), va_P z.1 classes (wv z ad E M) H → va_D A (wv z ad E M) → va_S A s.heap H locs → lv_has ls 7 [(0, .ref (ad q0)), (1, .int (oI x1)), (2, .int (oI x2)), (3, .int (oI x3)), (4, .int (oI x4)), (5, .int (oI x5)), (6, .int (oI x6))] → W p l e (rmK 0 20 0 0) s m args below meth c H locs 0 0 Q (F0 m 30 ls []) := by
  intro H locs ls hP hD hS hl
  unfold Lb_solid_30b at h
  obtain ⟨h_q0, h⟩ := ck_e h
  refine lv_iload hx hb d_14_4_30 (lv_at hl 6 rfl) ?_
  refine lv_aload_n hx hb d_14_4_32 rfl (lv_at hl 0 rfl) ?_
  refine m_gi (C := "BallothallLaw$Box") (T := TX12) (N := 4) (ci := 12) (k := 0) hx hb hts iX12 hown hG hP h_q0.1 h_q0.2 rfl (by decide) w_774 (fun _ h9 => h9) rfl rfl d_14_4_33 ?_
  obtain ⟨ok104, h⟩ := ck_e h
  obtain ⟨ok105, h⟩ := ck_e h
  refine lv_icmp_ge (tgt := 97) hx hb d_14_4_36 (by decide) (fun c9 => ?_) (fun c9 => ?_)
  · have h := ite_t ((oI_le (a := (M q0 0)) (b := x6) ok105 ok104).mp c9) h
    obtain ⟨rfl, rfl, rfl⟩ := in3 h
    exact k1 rfl H locs ls hP hD hS (lv_sub hl [0, 1, 2, 3, 4, 5] rfl)
  · have h := ite_f (fun q => c9 ((oI_le (a := (M q0 0)) (b := x6) ok105 ok104).mpr q)) h
    refine lv_iload hx hb d_14_4_39 (lv_at hl 4 rfl) ?_
    obtain ⟨ok106, h⟩ := ck_e h
    refine lv_if_eq (tgt := 88) hx hb d_14_4_41 (by decide) (fun c9 => ?_) (fun c9 => ?_)
    · have h := ite_t ((oI_eq0 ok106).mp c9) h
      refine lv_iconst (v := oI 0) hx hb d_14_4_88 (by decide +kernel) ?_
      refine lv_istore (lv' := [(4, .int (oI 0)), (0, .ref (ad q0)), (1, .int (oI x1)), (2, .int (oI x2)), (3, .int (oI x3)), (5, .int (oI x5)), (6, .int (oI x6))]) hx hb d_14_4_89 hl (by decide) rfl (fun ls hl => ?_)
      refine lv_iinc (v := oI (x6 + 1)) (lv' := [(6, .int (oI (x6 + 1))), (4, .int (oI 0)), (0, .ref (ad q0)), (1, .int (oI x1)), (2, .int (oI x2)), (3, .int (oI x3)), (5, .int (oI x5))]) hx hb d_14_4_91 hl (k := 6) rfl (oI_add x6 1) (by decide) rfl (fun ls hl => ?_)
      refine lv_goto (tgt := 30) hx hb d_14_4_94 (by decide) ?_
      obtain ⟨rfl, rfl, rfl⟩ := in3 h
      exact k0 rfl H locs ls hP hD hS (lv_sub hl [2, 3, 4, 5, 1, 6, 0] rfl)
    · have h := ite_f (fun q => c9 ((oI_eq0 ok106).mpr q)) h
      refine lv_iload_n hx hb d_14_4_44 rfl (lv_at hl 1 rfl) ?_
      refine lv_iload hx hb d_14_4_45 (lv_at hl 5 rfl) ?_
      obtain ⟨ok107, h⟩ := ck_e h
      obtain ⟨ok108, h⟩ := ck_e h
      refine lv_ishr hx hb d_14_4_47 ?_
      refine nrm (oI_shr (a := x1) ok107 ok108.1 ok108.2) ?_
      refine lv_iconst (v := oI 1) hx hb d_14_4_48 (by decide +kernel) ?_
      refine lv_iand hx hb d_14_4_49 ?_
      refine nrm (oI_m1 _) ?_
      refine lv_if_eq (tgt := 84) hx hb d_14_4_50 (by decide) (fun c9 => ?_) (fun c9 => ?_)
      · have h := ite_t ((oI_eq0 ⟨by omega, by omega⟩).mp c9) h
        refine lv_iconst (v := oI 1) hx hb d_14_4_84 (by decide +kernel) ?_
        refine lv_goto (tgt := 89) hx hb d_14_4_85 (by decide) ?_
        refine lv_istore (lv' := [(4, .int (oI 1)), (0, .ref (ad q0)), (1, .int (oI x1)), (2, .int (oI x2)), (3, .int (oI x3)), (5, .int (oI x5)), (6, .int (oI x6))]) hx hb d_14_4_89 hl (by decide) rfl (fun ls hl => ?_)
        refine lv_iinc (v := oI (x6 + 1)) (lv' := [(6, .int (oI (x6 + 1))), (4, .int (oI 1)), (0, .ref (ad q0)), (1, .int (oI x1)), (2, .int (oI x2)), (3, .int (oI x3)), (5, .int (oI x5))]) hx hb d_14_4_91 hl (k := 6) rfl (oI_add x6 1) (by decide) rfl (fun ls hl => ?_)
        refine lv_goto (tgt := 30) hx hb d_14_4_94 (by decide) ?_
        obtain ⟨rfl, rfl, rfl⟩ := in3 h
        exact k0 rfl H locs ls hP hD hS (lv_sub hl [2, 3, 4, 5, 1, 6, 0] rfl)
      · have h := ite_f (fun q => c9 ((oI_eq0 ⟨by omega, by omega⟩).mpr q)) h
        refine lv_iload_n hx hb d_14_4_53 rfl (lv_at hl 1 rfl) ?_
        refine lv_iload hx hb d_14_4_54 (lv_at hl 6 rfl) ?_
        obtain ⟨ok109, h⟩ := ck_e h
        refine lv_ishr hx hb d_14_4_56 ?_
        refine nrm (oI_shr (a := x1) ok107 ok109.1 ok109.2) ?_
        refine lv_iconst (v := oI 1) hx hb d_14_4_57 (by decide +kernel) ?_
        refine lv_iand hx hb d_14_4_58 ?_
        refine nrm (oI_m1 _) ?_
        refine lv_iconst (v := oI 1) hx hb d_14_4_59 (by decide +kernel) ?_
        refine lv_icmp_eq (tgt := 84) hx hb d_14_4_60 (by decide) (fun c9 => ?_) (fun c9 => ?_)
        · have h := ite_t ((oI_eq (a := ((x1 / 2 ^ x6.toNat) % 2)) (b := (1 : Int)) ⟨by omega, by omega⟩ (by decide)).mp c9) h
          refine lv_iconst (v := oI 1) hx hb d_14_4_84 (by decide +kernel) ?_
          refine lv_goto (tgt := 89) hx hb d_14_4_85 (by decide) ?_
          refine lv_istore (lv' := [(4, .int (oI 1)), (0, .ref (ad q0)), (1, .int (oI x1)), (2, .int (oI x2)), (3, .int (oI x3)), (5, .int (oI x5)), (6, .int (oI x6))]) hx hb d_14_4_89 hl (by decide) rfl (fun ls hl => ?_)
          refine lv_iinc (v := oI (x6 + 1)) (lv' := [(6, .int (oI (x6 + 1))), (4, .int (oI 1)), (0, .ref (ad q0)), (1, .int (oI x1)), (2, .int (oI x2)), (3, .int (oI x3)), (5, .int (oI x5))]) hx hb d_14_4_91 hl (k := 6) rfl (oI_add x6 1) (by decide) rfl (fun ls hl => ?_)
          refine lv_goto (tgt := 30) hx hb d_14_4_94 (by decide) ?_
          obtain ⟨rfl, rfl, rfl⟩ := in3 h
          exact k0 rfl H locs ls hP hD hS (lv_sub hl [2, 3, 4, 5, 1, 6, 0] rfl)
        · have h := ite_f (fun q => c9 ((oI_eq (a := ((x1 / 2 ^ x6.toNat) % 2)) (b := (1 : Int)) ⟨by omega, by omega⟩ (by decide)).mpr q)) h
          refine lv_aload_n hx hb d_14_4_63 rfl (lv_at hl 0 rfl) ?_
          obtain ⟨p110, g110, h⟩ := bd_e h
          obtain ⟨h_p110, h⟩ := ck_e h
          refine m_gr (j := p110) (C := "BallothallLaw$Box") (T := TX12) (N := 4) (ci := 12) (k := 1) hx hb hts iX12 hown hG hP h_q0.1 h_q0.2 rfl (by decide) w_776 (fun _ h9 => h9) rfl rfl g110 d_14_4_64 ?_
          refine lv_iload_n hx hb d_14_4_67 rfl (lv_at hl 3 rfl) ?_
          obtain ⟨ok111, h⟩ := ck_e h
          obtain ⟨p112, g112, h⟩ := bd_e h
          obtain ⟨h_p112, h⟩ := ck_e h
          refine m_ar (k := p112) hx hb hG hP h_p110.1 (isQ_T h_p110) ok111 g112 d_14_4_68 ?_
          refine lv_iload hx hb d_14_4_69 (lv_at hl 5 rfl) ?_
          obtain ⟨ok113, h⟩ := ck_e h
          refine m_ia hx hb hG hP h_p112.1 (isIA_T h_p112) ok113 d_14_4_71 ?_
          refine lv_aload_n hx hb d_14_4_72 rfl (lv_at hl 0 rfl) ?_
          obtain ⟨p114, g114, h⟩ := bd_e h
          obtain ⟨h_p114, h⟩ := ck_e h
          refine m_gr (j := p114) (C := "BallothallLaw$Box") (T := TX12) (N := 4) (ci := 12) (k := 1) hx hb hts iX12 hown hG hP h_q0.1 h_q0.2 rfl (by decide) w_776 (fun _ h9 => h9) rfl rfl g114 d_14_4_73 ?_
          refine lv_iload_n hx hb d_14_4_76 rfl (lv_at hl 3 rfl) ?_
          obtain ⟨ok115, h⟩ := ck_e h
          obtain ⟨p116, g116, h⟩ := bd_e h
          obtain ⟨h_p116, h⟩ := ck_e h
          refine m_ar (k := p116) hx hb hG hP h_p114.1 (isQ_T h_p114) ok115 g116 d_14_4_77 ?_
          refine lv_iload hx hb d_14_4_78 (lv_at hl 6 rfl) ?_
          obtain ⟨ok117, h⟩ := ck_e h
          refine m_ia hx hb hG hP h_p116.1 (isIA_T h_p116) ok117 d_14_4_80 ?_
          obtain ⟨ok118, h⟩ := ck_e h
          obtain ⟨ok119, h⟩ := ck_e h
          refine lv_icmp_ge (tgt := 88) hx hb d_14_4_81 (by decide) (fun c9 => ?_) (fun c9 => ?_)
          · have h := ite_t ((oI_le (a := (M p116 x6.toNat)) (b := (M p112 x5.toNat)) ok119 ok118).mp c9) h
            refine lv_iconst (v := oI 0) hx hb d_14_4_88 (by decide +kernel) ?_
            refine lv_istore (lv' := [(4, .int (oI 0)), (0, .ref (ad q0)), (1, .int (oI x1)), (2, .int (oI x2)), (3, .int (oI x3)), (5, .int (oI x5)), (6, .int (oI x6))]) hx hb d_14_4_89 hl (by decide) rfl (fun ls hl => ?_)
            refine lv_iinc (v := oI (x6 + 1)) (lv' := [(6, .int (oI (x6 + 1))), (4, .int (oI 0)), (0, .ref (ad q0)), (1, .int (oI x1)), (2, .int (oI x2)), (3, .int (oI x3)), (5, .int (oI x5))]) hx hb d_14_4_91 hl (k := 6) rfl (oI_add x6 1) (by decide) rfl (fun ls hl => ?_)
            refine lv_goto (tgt := 30) hx hb d_14_4_94 (by decide) ?_
            obtain ⟨rfl, rfl, rfl⟩ := in3 h
            exact k0 rfl H locs ls hP hD hS (lv_sub hl [2, 3, 4, 5, 1, 6, 0] rfl)
          · have h := ite_f (fun q => c9 ((oI_le (a := (M p116 x6.toNat)) (b := (M p112 x5.toNat)) ok119 ok118).mpr q)) h
            refine lv_iconst (v := oI 1) hx hb d_14_4_84 (by decide +kernel) ?_
            refine lv_goto (tgt := 89) hx hb d_14_4_85 (by decide) ?_
            refine lv_istore (lv' := [(4, .int (oI 1)), (0, .ref (ad q0)), (1, .int (oI x1)), (2, .int (oI x2)), (3, .int (oI x3)), (5, .int (oI x5)), (6, .int (oI x6))]) hx hb d_14_4_89 hl (by decide) rfl (fun ls hl => ?_)
            refine lv_iinc (v := oI (x6 + 1)) (lv' := [(6, .int (oI (x6 + 1))), (4, .int (oI 1)), (0, .ref (ad q0)), (1, .int (oI x1)), (2, .int (oI x2)), (3, .int (oI x3)), (5, .int (oI x5))]) hx hb d_14_4_91 hl (k := 6) rfl (oI_add x6 1) (by decide) rfl (fun ls hl => ?_)
            refine lv_goto (tgt := 30) hx hb d_14_4_94 (by decide) ?_
            obtain ⟨rfl, rfl, rfl⟩ := in3 h
            exact k0 rfl H locs ls hP hD hS (lv_sub hl [2, 3, 4, 5, 1, 6, 0] rfl)
set_option maxRecDepth 100000 in
set_option maxHeartbeats 4000000 in
theorem s_Lb_solid_30 (l : Launch) (z : Zz) (ad : Nat → Nat) (E : Ev) (q0 : Nat) (x1 : Int) (x2 : Int) (x3 : Int) (x5 : Int) {Q : State → Prop} {p : Program} {e : Env} {s : State} {m : MethodId} {below : List Frame} {meth : Method} {c : Code} {A : Nat → Prop} {args : Array Value} (hx : p.tables.exec = Jvm.exec) (hb : c.code = prog_14_method_4_code) (hml : c.maxLocals = 7) (hts : ∀ w ∈ WG, w.before args s = true) (hown : s.vm.findClass "BallothallLaw$Box" = some m.cls) (hlocks : meth.locks = false) (hA : ∀ q, s.heap.size ≤ q → A q) (hG : KG z s) (hZ : FZ z A s) (hL : Lay E) : ∀ (fu : Nat) (M : Mm) (x4 : Int) (x6 : Int) (t : Nat) (w4 : Int) (w6 : Int), l_Lb_solid_30 E q0 x1 x2 x3 x5 fu M x4 x6 = some (t, w4, w6) → (t = 1 → ∀ (H : Heap) (locs : List Loc) (ls : Array Slot), va_P z.1 classes (wv z ad E M) H → va_D A (wv z ad E M) → va_S A s.heap H locs → lv_has ls 7 [(0, .ref (ad q0)), (1, .int (oI x1)), (2, .int (oI x2)), (3, .int (oI x3)), (4, .int (oI w4)), (5, .int (oI x5))] → W p l e (rmK 0 20 0 0) s m args below meth c H locs 0 0 Q (F0 m 97 ls [])) → ∀ (H : Heap) (locs : List Loc) (ls : Array Slot), va_P z.1 classes (wv z ad E M) H → va_D A (wv z ad E M) → va_S A s.heap H locs → lv_has ls 7 [(0, .ref (ad q0)), (1, .int (oI x1)), (2, .int (oI x2)), (3, .int (oI x3)), (4, .int (oI x4)), (5, .int (oI x5)), (6, .int (oI x6))] → W p l e (rmK 0 20 0 0) s m args below meth c H locs 0 0 Q (F0 m 30 ls []) := by
  intro fu
  induction fu with
  | zero =>
    intro M x4 x6 t w4 w6 h
    have h : (none : Option (Nat × Int × Int)) = some _ := h
    cases h
  | succ fu ih =>
    intro M x4 x6 t w4 w6 h k1 H locs ls hP hD hS hl
    obtain ⟨⟨t0, w40, w60⟩, g0, h⟩ := bd_e h
    refine b_Lb_solid_30b l z ad E M q0 x1 x2 x3 x5 x4 x6 t0 w40 w60 hx hb hml hts hown hlocks hA hG hZ hL g0 (fun e0 => ?_) (fun e0 => ?_) H locs ls hP hD hS hl
    · subst e0
      have h := ite_t rfl h
      exact ih M w40 w60 t w4 w6 h k1
    · subst e0
      have h := ite_f (by decide) h
      obtain ⟨rfl, rfl, rfl⟩ := in3 h
      exact k1 rfl
set_option maxRecDepth 100000 in
set_option maxHeartbeats 4000000 in
theorem b_Lb_solid_18b (l : Launch) (z : Zz) (ad : Nat → Nat) (E : Ev) (M : Mm) (q0 : Nat) (x1 : Int) (x2 : Int) (x3 : Int) (x4 : Int) (x5 : Int) (t : Nat) (w4 : Int) (w5 : Int)  {Q : State → Prop} {p : Program} {e : Env} {s : State} {m : MethodId} {below : List Frame} {meth : Method} {c : Code} {A : Nat → Prop} {args : Array Value} (hx : p.tables.exec = Jvm.exec) (hb : c.code = prog_14_method_4_code) (hml : c.maxLocals = 7) (hts : ∀ w ∈ WG, w.before args s = true) (hown : s.vm.findClass "BallothallLaw$Box" = some m.cls) (hlocks : meth.locks = false) (hA : ∀ q, s.heap.size ≤ q → A q) (hG : KG z s) (hZ : FZ z A s) (hL : Lay E) (h : Lb_solid_18b E M q0 x1 x2 x3 x4 x5 = some (t, w4, w5)) (k0 : t = 0 → ∀ (H : Heap) (locs : List Loc) (ls : Array Slot), va_P z.1 classes (wv z ad E M) H → va_D A (wv z ad E M) → va_S A s.heap H locs → lv_has ls 7 [(0, .ref (ad q0)), (1, .int (oI x1)), (2, .int (oI x2)), (3, .int (oI x3)), (4, .int (oI w4)), (5, .int (oI w5))] → W p l e (rmK 0 20 0 0) s m args below meth c H locs 0 0 Q (F0 m 18 ls [])) (k1 : t = 1 → ∀ (H : Heap) (locs : List Loc) (ls : Array Slot), va_P z.1 classes (wv z ad E M) H → va_D A (wv z ad E M) → va_S A s.heap H locs → lv_has ls 7 [(0, .ref (ad q0)), (1, .int (oI x1)), (2, .int (oI x2)), (3, .int (oI x3)), (4, .int (oI w4))] → W p l e (rmK 0 20 0 0) s m args below meth c H locs 0 0 Q (F0 m 103 ls [])) : ∀ (H : Heap) (locs : List Loc) (ls : Array Slot), va_P z.1 classes (wv z ad E M) H → va_D A (wv z ad E M) → va_S A s.heap H locs → lv_has ls 7 [(0, .ref (ad q0)), (1, .int (oI x1)), (2, .int (oI x2)), (3, .int (oI x3)), (4, .int (oI x4)), (5, .int (oI x5))] → W p l e (rmK 0 20 0 0) s m args below meth c H locs 0 0 Q (F0 m 18 ls []) := by
  intro H locs ls hP hD hS hl
  unfold Lb_solid_18b at h
  obtain ⟨h_q0, h⟩ := ck_e h
  refine lv_iload hx hb d_14_4_18 (lv_at hl 5 rfl) ?_
  refine lv_aload_n hx hb d_14_4_20 rfl (lv_at hl 0 rfl) ?_
  refine m_gi (C := "BallothallLaw$Box") (T := TX12) (N := 4) (ci := 12) (k := 0) hx hb hts iX12 hown hG hP h_q0.1 h_q0.2 rfl (by decide) w_774 (fun _ h9 => h9) rfl rfl d_14_4_21 ?_
  obtain ⟨ok102, h⟩ := ck_e h
  obtain ⟨ok103, h⟩ := ck_e h
  refine lv_icmp_ge (tgt := 103) hx hb d_14_4_24 (by decide) (fun c9 => ?_) (fun c9 => ?_)
  · have h := ite_t ((oI_le (a := (M q0 0)) (b := x5) ok103 ok102).mp c9) h
    obtain ⟨rfl, rfl, rfl⟩ := in3 h
    exact k1 rfl H locs ls hP hD hS (lv_sub hl [0, 1, 2, 3, 4] rfl)
  · have h := ite_f (fun q => c9 ((oI_le (a := (M q0 0)) (b := x5) ok103 ok102).mpr q)) h
    refine lv_iconst (v := oI 0) hx hb d_14_4_27 (by decide +kernel) ?_
    refine lv_istore (lv' := [(6, .int (oI 0)), (0, .ref (ad q0)), (1, .int (oI x1)), (2, .int (oI x2)), (3, .int (oI x3)), (4, .int (oI x4)), (5, .int (oI x5))]) hx hb d_14_4_28 hl (by decide) rfl (fun ls hl => ?_)
    obtain ⟨⟨t120, v120_4, v120_6⟩, g120, h⟩ := bd_e h
    obtain ⟨ok120, h⟩ := ck_e h
    refine s_Lb_solid_30 l z ad E q0 x1 x2 x3 x5 hx hb hml hts hown hlocks hA hG hZ hL FU M x4 0 t120 v120_4 v120_6 g120 (fun e120 H locs ls hP hD hS hl => ?_) H locs ls hP hD hS (lv_sub hl [1, 2, 3, 4, 5, 6, 0] rfl)
    refine lv_iinc (v := oI (x5 + 1)) (lv' := [(5, .int (oI (x5 + 1))), (0, .ref (ad q0)), (1, .int (oI x1)), (2, .int (oI x2)), (3, .int (oI x3)), (4, .int (oI v120_4))]) hx hb d_14_4_97 hl (k := 5) rfl (oI_add x5 1) (by decide) rfl (fun ls hl => ?_)
    refine lv_goto (tgt := 18) hx hb d_14_4_100 (by decide) ?_
    obtain ⟨rfl, rfl, rfl⟩ := in3 h
    exact k0 rfl H locs ls hP hD hS (lv_sub hl [1, 2, 3, 4, 5, 0] rfl)
set_option maxRecDepth 100000 in
set_option maxHeartbeats 4000000 in
theorem s_Lb_solid_18 (l : Launch) (z : Zz) (ad : Nat → Nat) (E : Ev) (q0 : Nat) (x1 : Int) (x2 : Int) (x3 : Int) {Q : State → Prop} {p : Program} {e : Env} {s : State} {m : MethodId} {below : List Frame} {meth : Method} {c : Code} {A : Nat → Prop} {args : Array Value} (hx : p.tables.exec = Jvm.exec) (hb : c.code = prog_14_method_4_code) (hml : c.maxLocals = 7) (hts : ∀ w ∈ WG, w.before args s = true) (hown : s.vm.findClass "BallothallLaw$Box" = some m.cls) (hlocks : meth.locks = false) (hA : ∀ q, s.heap.size ≤ q → A q) (hG : KG z s) (hZ : FZ z A s) (hL : Lay E) : ∀ (fu : Nat) (M : Mm) (x4 : Int) (x5 : Int) (t : Nat) (w4 : Int) (w5 : Int), l_Lb_solid_18 E q0 x1 x2 x3 fu M x4 x5 = some (t, w4, w5) → (t = 1 → ∀ (H : Heap) (locs : List Loc) (ls : Array Slot), va_P z.1 classes (wv z ad E M) H → va_D A (wv z ad E M) → va_S A s.heap H locs → lv_has ls 7 [(0, .ref (ad q0)), (1, .int (oI x1)), (2, .int (oI x2)), (3, .int (oI x3)), (4, .int (oI w4))] → W p l e (rmK 0 20 0 0) s m args below meth c H locs 0 0 Q (F0 m 103 ls [])) → ∀ (H : Heap) (locs : List Loc) (ls : Array Slot), va_P z.1 classes (wv z ad E M) H → va_D A (wv z ad E M) → va_S A s.heap H locs → lv_has ls 7 [(0, .ref (ad q0)), (1, .int (oI x1)), (2, .int (oI x2)), (3, .int (oI x3)), (4, .int (oI x4)), (5, .int (oI x5))] → W p l e (rmK 0 20 0 0) s m args below meth c H locs 0 0 Q (F0 m 18 ls []) := by
  intro fu
  induction fu with
  | zero =>
    intro M x4 x5 t w4 w5 h
    have h : (none : Option (Nat × Int × Int)) = some _ := h
    cases h
  | succ fu ih =>
    intro M x4 x5 t w4 w5 h k1 H locs ls hP hD hS hl
    obtain ⟨⟨t0, w40, w50⟩, g0, h⟩ := bd_e h
    refine b_Lb_solid_18b l z ad E M q0 x1 x2 x3 x4 x5 t0 w40 w50 hx hb hml hts hown hlocks hA hG hZ hL g0 (fun e0 => ?_) (fun e0 => ?_) H locs ls hP hD hS hl
    · subst e0
      have h := ite_t rfl h
      exact ih M w40 w50 t w4 w5 h k1
    · subst e0
      have h := ite_f (by decide) h
      obtain ⟨rfl, rfl, rfl⟩ := in3 h
      exact k1 rfl
set_option maxRecDepth 100000 in
set_option maxHeartbeats 4000000 in
theorem b_Lb_solid_4b (l : Launch) (z : Zz) (ad : Nat → Nat) (E : Ev) (M : Mm) (q0 : Nat) (x1 : Int) (x2 : Int) (x3 : Int) (t : Nat) (w2 : Int) (w3 : Int)  {Q : State → Prop} {p : Program} {e : Env} {s : State} {m : MethodId} {below : List Frame} {meth : Method} {c : Code} {A : Nat → Prop} {args : Array Value} (hx : p.tables.exec = Jvm.exec) (hb : c.code = prog_14_method_4_code) (hml : c.maxLocals = 7) (hts : ∀ w ∈ WG, w.before args s = true) (hown : s.vm.findClass "BallothallLaw$Box" = some m.cls) (hlocks : meth.locks = false) (hA : ∀ q, s.heap.size ≤ q → A q) (hG : KG z s) (hZ : FZ z A s) (hL : Lay E) (h : Lb_solid_4b E M q0 x1 x2 x3 = some (t, w2, w3)) (k0 : t = 0 → ∀ (H : Heap) (locs : List Loc) (ls : Array Slot), va_P z.1 classes (wv z ad E M) H → va_D A (wv z ad E M) → va_S A s.heap H locs → lv_has ls 7 [(0, .ref (ad q0)), (1, .int (oI x1)), (2, .int (oI w2)), (3, .int (oI w3))] → W p l e (rmK 0 20 0 0) s m args below meth c H locs 0 0 Q (F0 m 4 ls [])) (k1 : t = 1 → ∀ (H : Heap) (locs : List Loc) (ls : Array Slot), va_P z.1 classes (wv z ad E M) H → va_D A (wv z ad E M) → va_S A s.heap H locs → lv_has ls 7 [(2, .int (oI w2))] → W p l e (rmK 0 20 0 0) s m args below meth c H locs 0 0 Q (F0 m 127 ls [])) : ∀ (H : Heap) (locs : List Loc) (ls : Array Slot), va_P z.1 classes (wv z ad E M) H → va_D A (wv z ad E M) → va_S A s.heap H locs → lv_has ls 7 [(0, .ref (ad q0)), (1, .int (oI x1)), (2, .int (oI x2)), (3, .int (oI x3))] → W p l e (rmK 0 20 0 0) s m args below meth c H locs 0 0 Q (F0 m 4 ls []) := by
  intro H locs ls hP hD hS hl
  unfold Lb_solid_4b at h
  obtain ⟨h_q0, h⟩ := ck_e h
  refine lv_iload_n hx hb d_14_4_4 rfl (lv_at hl 3 rfl) ?_
  refine lv_aload_n hx hb d_14_4_5 rfl (lv_at hl 0 rfl) ?_
  refine m_gi (C := "BallothallLaw$Box") (T := TX12) (N := 4) (ci := 12) (k := 3) hx hb hts iX12 hown hG hP h_q0.1 h_q0.2 rfl (by decide) w_780 (fun _ h9 => h9) rfl rfl d_14_4_6 ?_
  obtain ⟨ok100, h⟩ := ck_e h
  obtain ⟨ok101, h⟩ := ck_e h
  refine lv_icmp_ge (tgt := 127) hx hb d_14_4_9 (by decide) (fun c9 => ?_) (fun c9 => ?_)
  · have h := ite_t ((oI_le (a := (M q0 3)) (b := x3) ok101 ok100).mp c9) h
    obtain ⟨rfl, rfl, rfl⟩ := in3 h
    exact k1 rfl H locs ls hP hD hS (lv_sub hl [2] rfl)
  · have h := ite_f (fun q => c9 ((oI_le (a := (M q0 3)) (b := x3) ok101 ok100).mpr q)) h
    refine lv_iconst (v := oI 1) hx hb d_14_4_12 (by decide +kernel) ?_
    refine lv_istore (lv' := [(4, .int (oI 1)), (0, .ref (ad q0)), (1, .int (oI x1)), (2, .int (oI x2)), (3, .int (oI x3))]) hx hb d_14_4_13 hl (by decide) rfl (fun ls hl => ?_)
    refine lv_iconst (v := oI 0) hx hb d_14_4_15 (by decide +kernel) ?_
    refine lv_istore (lv' := [(5, .int (oI 0)), (4, .int (oI 1)), (0, .ref (ad q0)), (1, .int (oI x1)), (2, .int (oI x2)), (3, .int (oI x3))]) hx hb d_14_4_16 hl (by decide) rfl (fun ls hl => ?_)
    obtain ⟨⟨t121, v121_4, v121_5⟩, g121, h⟩ := bd_e h
    obtain ⟨ok121, h⟩ := ck_e h
    refine s_Lb_solid_18 l z ad E q0 x1 x2 x3 hx hb hml hts hown hlocks hA hG hZ hL FU M 1 0 t121 v121_4 v121_5 g121 (fun e121 H locs ls hP hD hS hl => ?_) H locs ls hP hD hS (lv_sub hl [2, 3, 4, 5, 1, 0] rfl)
    refine lv_iload_n hx hb d_14_4_103 rfl (lv_at hl 2 rfl) ?_
    refine lv_iload hx hb d_14_4_104 (lv_at hl 4 rfl) ?_
    obtain ⟨ok122, h⟩ := ck_e h
    refine lv_if_eq (tgt := 118) hx hb d_14_4_106 (by decide) (fun c9 => ?_) (fun c9 => ?_)
    · have h := ite_t ((oI_eq0 ok122).mp c9) h
      refine lv_iconst (v := oI 0) hx hb d_14_4_118 (by decide +kernel) ?_
      refine lv_iadd hx hb d_14_4_119 ?_
      refine nrm (oI_add _ _) ?_
      refine lv_istore_n (lv' := [(2, .int (oI (x2 + 0))), (0, .ref (ad q0)), (1, .int (oI x1)), (3, .int (oI x3)), (4, .int (oI v121_4))]) hx hb d_14_4_120 rfl hl (by decide) rfl (fun ls hl => ?_)
      refine lv_iinc (v := oI (x3 + 1)) (lv' := [(3, .int (oI (x3 + 1))), (2, .int (oI (x2 + 0))), (0, .ref (ad q0)), (1, .int (oI x1)), (4, .int (oI v121_4))]) hx hb d_14_4_121 hl (k := 3) rfl (oI_add x3 1) (by decide) rfl (fun ls hl => ?_)
      refine lv_goto (tgt := 4) hx hb d_14_4_124 (by decide) ?_
      obtain ⟨rfl, rfl, rfl⟩ := in3 h
      exact k0 rfl H locs ls hP hD hS (lv_sub hl [2, 3, 1, 0] rfl)
    · have h := ite_f (fun q => c9 ((oI_eq0 ok122).mpr q)) h
      refine lv_aload_n hx hb d_14_4_109 rfl (lv_at hl 0 rfl) ?_
      obtain ⟨p123, g123, h⟩ := bd_e h
      obtain ⟨h_p123, h⟩ := ck_e h
      refine m_gr (j := p123) (C := "BallothallLaw$Box") (T := TX12) (N := 4) (ci := 12) (k := 2) hx hb hts iX12 hown hG hP h_q0.1 h_q0.2 rfl (by decide) w_778 (fun _ h9 => h9) rfl rfl g123 d_14_4_110 ?_
      refine lv_iload_n hx hb d_14_4_113 rfl (lv_at hl 3 rfl) ?_
      obtain ⟨ok124, h⟩ := ck_e h
      refine m_ia hx hb hG hP h_p123.1 (isIA_T h_p123) ok124 d_14_4_114 ?_
      refine lv_goto (tgt := 119) hx hb d_14_4_115 (by decide) ?_
      refine lv_iadd hx hb d_14_4_119 ?_
      refine nrm (oI_add _ _) ?_
      refine lv_istore_n (lv' := [(2, .int (oI (x2 + (M p123 x3.toNat)))), (0, .ref (ad q0)), (1, .int (oI x1)), (3, .int (oI x3)), (4, .int (oI v121_4))]) hx hb d_14_4_120 rfl hl (by decide) rfl (fun ls hl => ?_)
      refine lv_iinc (v := oI (x3 + 1)) (lv' := [(3, .int (oI (x3 + 1))), (2, .int (oI (x2 + (M p123 x3.toNat)))), (0, .ref (ad q0)), (1, .int (oI x1)), (4, .int (oI v121_4))]) hx hb d_14_4_121 hl (k := 3) rfl (oI_add x3 1) (by decide) rfl (fun ls hl => ?_)
      refine lv_goto (tgt := 4) hx hb d_14_4_124 (by decide) ?_
      obtain ⟨rfl, rfl, rfl⟩ := in3 h
      exact k0 rfl H locs ls hP hD hS (lv_sub hl [2, 3, 1, 0] rfl)
set_option maxRecDepth 100000 in
set_option maxHeartbeats 4000000 in
theorem s_Lb_solid_4 (l : Launch) (z : Zz) (ad : Nat → Nat) (E : Ev) (q0 : Nat) (x1 : Int) {Q : State → Prop} {p : Program} {e : Env} {s : State} {m : MethodId} {below : List Frame} {meth : Method} {c : Code} {A : Nat → Prop} {args : Array Value} (hx : p.tables.exec = Jvm.exec) (hb : c.code = prog_14_method_4_code) (hml : c.maxLocals = 7) (hts : ∀ w ∈ WG, w.before args s = true) (hown : s.vm.findClass "BallothallLaw$Box" = some m.cls) (hlocks : meth.locks = false) (hA : ∀ q, s.heap.size ≤ q → A q) (hG : KG z s) (hZ : FZ z A s) (hL : Lay E) : ∀ (fu : Nat) (M : Mm) (x2 : Int) (x3 : Int) (t : Nat) (w2 : Int) (w3 : Int), l_Lb_solid_4 E q0 x1 fu M x2 x3 = some (t, w2, w3) → (t = 1 → ∀ (H : Heap) (locs : List Loc) (ls : Array Slot), va_P z.1 classes (wv z ad E M) H → va_D A (wv z ad E M) → va_S A s.heap H locs → lv_has ls 7 [(2, .int (oI w2))] → W p l e (rmK 0 20 0 0) s m args below meth c H locs 0 0 Q (F0 m 127 ls [])) → ∀ (H : Heap) (locs : List Loc) (ls : Array Slot), va_P z.1 classes (wv z ad E M) H → va_D A (wv z ad E M) → va_S A s.heap H locs → lv_has ls 7 [(0, .ref (ad q0)), (1, .int (oI x1)), (2, .int (oI x2)), (3, .int (oI x3))] → W p l e (rmK 0 20 0 0) s m args below meth c H locs 0 0 Q (F0 m 4 ls []) := by
  intro fu
  induction fu with
  | zero =>
    intro M x2 x3 t w2 w3 h
    have h : (none : Option (Nat × Int × Int)) = some _ := h
    cases h
  | succ fu ih =>
    intro M x2 x3 t w2 w3 h k1 H locs ls hP hD hS hl
    obtain ⟨⟨t0, w20, w30⟩, g0, h⟩ := bd_e h
    refine b_Lb_solid_4b l z ad E M q0 x1 x2 x3 t0 w20 w30 hx hb hml hts hown hlocks hA hG hZ hL g0 (fun e0 => ?_) (fun e0 => ?_) H locs ls hP hD hS hl
    · subst e0
      have h := ite_t rfl h
      exact ih M w20 w30 t w2 w3 h k1
    · subst e0
      have h := ite_f (by decide) h
      obtain ⟨rfl, rfl, rfl⟩ := in3 h
      exact k1 rfl
set_option maxRecDepth 100000 in
set_option maxHeartbeats 4000000 in
theorem s_Lb_solid (l : Launch) (z : Zz) (ad : Nat → Nat) (E : Ev) (M : Mm) (p0 : Nat) (x1 : Int) (r : Int)  (hL : Lay E) (h : f_Lb_solid E M p0 x1 = some r) : CT l z ⟨"BallothallLaw$Box", "solid", "(I)I"⟩ prog_14_method_4_code 7 (some .int) [.ref (ad p0), .int (oI x1)] (wv z ad E M) 0 20 0 0 (fun _ => some (.int (oI r))) (fun _ => (wv z ad E M)) := by
  refine CT.of (own := "BallothallLaw$Box") (by decide +kernel) (Nat.le_of_ble_eq_true rfl) rfl (fun p e s m below meth c A ls hx hb hml hr hts hown hlocks hin hA hG hZ hP hD hS hl => ?_)
  have hl : lv_has ls 7 [(0, .ref (ad p0)), (1, .int (oI x1))] := hl
  have key : ∀ (H : Heap) (locs : List Loc) (args : Array Value), (∀ w ∈ WG, w.before args s = true) → va_P z.1 classes (wv z ad E M) H → va_S A s.heap H locs → W p l e (rmK 0 20 0 0) s m args below meth c H locs 0 0 (MQ below (QK z A (fun _ => some (.int (oI r))) (fun _ => (wv z ad E M))) args s 0 0 A) (F0 m 0 ls []) := by
    intro H locs args hts hP hS
    unfold f_Lb_solid at h
    obtain ⟨h_p0, h⟩ := ck_e h
    refine lv_iconst (v := oI 0) hx hb d_14_4_0 (by decide +kernel) ?_
    refine lv_istore_n (lv' := [(2, .int (oI 0)), (0, .ref (ad p0)), (1, .int (oI x1))]) hx hb d_14_4_1 rfl hl (by decide) rfl (fun ls hl => ?_)
    refine lv_iconst (v := oI 0) hx hb d_14_4_2 (by decide +kernel) ?_
    refine lv_istore_n (lv' := [(3, .int (oI 0)), (2, .int (oI 0)), (0, .ref (ad p0)), (1, .int (oI x1))]) hx hb d_14_4_3 rfl hl (by decide) rfl (fun ls hl => ?_)
    obtain ⟨⟨t125, v125_2, v125_3⟩, g125, h⟩ := bd_e h
    obtain ⟨ok125, h⟩ := ck_e h
    refine s_Lb_solid_4 l z ad E p0 x1 hx hb hml hts hown hlocks hA hG hZ hL FU M 0 0 t125 v125_2 v125_3 g125 (fun e125 H locs ls hP hD hS hl => ?_) H locs ls hP hD hS (lv_sub hl [2, 3, 1, 0] rfl)
    refine lv_iload_n hx hb d_14_4_127 rfl (lv_at hl 0 rfl) ?_
    obtain rfl := in1 h
    exact W.iret hx hb hr (fun t ht hW => qkA hP hD hS (fun k => k) rfl rfl ht) hS.2.2 d_14_4_128
  exact key _ _ _ hts hP hS
set_option maxRecDepth 100000 in
set_option maxHeartbeats 4000000 in
theorem b_Bx_findSupport_23b (l : Launch) (z : Zz) (ad : Nat → Nat) (E : Ev) (M : Mm) (q1 : Nat) (x2 : Int) (x3 : Int) (x4 : Int) (x5 : Int) (x6 : Int) (t : Nat) (w5 : Int) (w6 : Int) (N : Mm) {Q : State → Prop} {p : Program} {e : Env} {s : State} {m : MethodId} {below : List Frame} {meth : Method} {c : Code} {A : Nat → Prop} {args : Array Value} (hx : p.tables.exec = Jvm.exec) (hb : c.code = prog_2_method_15_code) (hml : c.maxLocals = 7) (hts : ∀ w ∈ WG, w.before args s = true) (hown : s.vm.findClass "Ballothall$BallotBox" = some m.cls) (hlocks : meth.locks = false) (hA : ∀ q, s.heap.size ≤ q → A q) (hG : KG z s) (hZ : FZ z A s) (hL : Lay E) (h : Bx_findSupport_23b E M q1 x2 x3 x4 x5 x6 = some (t, w5, w6, N)) (k0 : t = 0 → ∀ (H : Heap) (locs : List Loc) (ls : Array Slot), va_P z.1 classes (wv z ad E N) H → va_D A (wv z ad E N) → va_S A s.heap H locs → lv_has ls 7 [(0, .ref (ad 2)), (1, .ref (ad q1)), (2, .int (oI x2)), (3, .int (oI x3)), (4, .int (oI x4)), (5, .int (oI w5)), (6, .int (oI w6))] → W p l e (rmK 1 44 0 0) s m args below meth c H locs 0 0 Q (F0 m 23 ls [])) (k1 : t = 1 → ∀ (H : Heap) (locs : List Loc) (ls : Array Slot), va_P z.1 classes (wv z ad E N) H → va_D A (wv z ad E N) → va_S A s.heap H locs → lv_has ls 7 [(0, .ref (ad 2)), (1, .ref (ad q1)), (2, .int (oI x2)), (3, .int (oI x3)), (4, .int (oI x4))] → W p l e (rmK 1 44 0 0) s m args below meth c H locs 0 0 Q (F0 m 76 ls [])) : ∀ (H : Heap) (locs : List Loc) (ls : Array Slot), va_P z.1 classes (wv z ad E M) H → va_D A (wv z ad E M) → va_S A s.heap H locs → lv_has ls 7 [(0, .ref (ad 2)), (1, .ref (ad q1)), (2, .int (oI x2)), (3, .int (oI x3)), (4, .int (oI x4)), (5, .int (oI x5)), (6, .int (oI x6))] → W p l e (rmK 1 44 0 0) s m args below meth c H locs 0 0 Q (F0 m 23 ls []) := by
  intro H locs ls hP hD hS hl
  unfold Bx_findSupport_23b at h
  obtain ⟨h_q1, h⟩ := ck_e h
  refine lv_iload hx hb d_2_15_23 (lv_at hl 6 rfl) ?_
  refine lv_aload_n hx hb d_2_15_25 rfl (lv_at hl 0 rfl) ?_
  refine m_gr (j := 7) (C := "Ballothall$BallotBox") (T := TX0) (N := 10) (ci := 0) (k := 7) hx hb hts iX0 hown hG hP (yi_2 hL) (yt_2 hL) rfl (by decide) w_72 (fun _ h9 => h9) rfl rfl (yr_2_7 hL) d_2_15_26 ?_
  refine lv_iload hx hb d_2_15_29 (lv_at hl 4 rfl) ?_
  obtain ⟨ok103, h⟩ := ck_e h
  refine m_ia hx hb hG hP (yi_7 hL) (yt_7 hL) ok103 d_2_15_31 ?_
  obtain ⟨ok104, h⟩ := ck_e h
  obtain ⟨ok105, h⟩ := ck_e h
  refine lv_icmp_ge (tgt := 76) hx hb d_2_15_32 (by decide) (fun c9 => ?_) (fun c9 => ?_)
  · have h := ite_t ((oI_le (a := (M 7 x4.toNat)) (b := x6) ok105 ok104).mp c9) h
    obtain ⟨rfl, rfl, rfl, rfl⟩ := in4 h
    exact k1 rfl H locs ls hP hD hS (lv_sub hl [0, 1, 2, 3, 4] rfl)
  · have h := ite_f (fun q => c9 ((oI_le (a := (M 7 x4.toNat)) (b := x6) ok105 ok104).mpr q)) h
    refine lv_iload hx hb d_2_15_35 (lv_at hl 5 rfl) ?_
    refine lv_aload_n hx hb d_2_15_37 rfl (lv_at hl 0 rfl) ?_
    refine m_gr (j := 8) (C := "Ballothall$BallotBox") (T := TX0) (N := 10) (ci := 0) (k := 8) hx hb hts iX0 hown hG hP (yi_2 hL) (yt_2 hL) rfl (by decide) w_74 (fun _ h9 => h9) rfl rfl (yr_2_8 hL) d_2_15_38 ?_
    refine lv_iload hx hb d_2_15_41 (lv_at hl 4 rfl) ?_
    refine m_ar (k := (9 + x4.toNat)) hx hb hG hP (yi_8 hL) (yt_8 hL) ok103 (ya_8 hL (inb_lt ok103)) d_2_15_43 ?_
    refine lv_iload hx hb d_2_15_44 (lv_at hl 6 rfl) ?_
    obtain ⟨ok106, h⟩ := ck_e h
    refine m_ia hx hb hG hP (yg_8 hL ok103).1 (yg_8 hL ok103).2 ok106 d_2_15_46 ?_
    obtain ⟨ok107, h⟩ := ck_e h
    obtain ⟨ok108, h⟩ := ck_e h
    refine lv_ior hx hb d_2_15_47 ?_
    refine nrm (oI_or (a := x5) (b := (M (9 + x4.toNat) x6.toNat)) ok107.1 ok107.2 ok108.1 ok108.2) ?_
    obtain ⟨v109, e109, h⟩ := nb_e h
    refine nrm (congrArg oI e109.symm) ?_
    refine lv_istore (lv' := [(5, .int (oI v109)), (0, .ref (ad 2)), (1, .ref (ad q1)), (2, .int (oI x2)), (3, .int (oI x3)), (4, .int (oI x4)), (6, .int (oI x6))]) hx hb d_2_15_48 hl (by decide) rfl (fun ls hl => ?_)
    refine lv_iload hx hb d_2_15_50 (lv_at hl 0 rfl) ?_
    refine lv_iload_n hx hb d_2_15_52 rfl (lv_at hl 4 rfl) ?_
    obtain ⟨ok110, h⟩ := ck_e h
    obtain ⟨ok111, h⟩ := ck_e h
    refine lv_icmp_eq (tgt := 70) hx hb d_2_15_53 (by decide) (fun c9 => ?_) (fun c9 => ?_)
    · have h := ite_t ((oI_eq (a := v109) (b := x3) ok110 ok111).mp c9) h
      refine lv_iinc (v := oI (x6 + 1)) (lv' := [(6, .int (oI (x6 + 1))), (5, .int (oI v109)), (0, .ref (ad 2)), (1, .ref (ad q1)), (2, .int (oI x2)), (3, .int (oI x3)), (4, .int (oI x4))]) hx hb d_2_15_70 hl (k := 6) rfl (oI_add x6 1) (by decide) rfl (fun ls hl => ?_)
      refine lv_goto (tgt := 23) hx hb d_2_15_73 (by decide) ?_
      obtain ⟨rfl, rfl, rfl, rfl⟩ := in4 h
      exact k0 rfl H locs ls hP hD hS (lv_sub hl [2, 3, 4, 5, 6, 1, 0] rfl)
    · have h := ite_f (fun q => c9 ((oI_eq (a := v109) (b := x3) ok110 ok111).mpr q)) h
      refine lv_aload_n hx hb d_2_15_56 rfl (lv_at hl 1 rfl) ?_
      refine m_gr (j := 40) (C := "Ballothall$BallotBox") (T := TX0) (N := 10) (ci := 0) (k := 9) hx hb hts iX0 hown hG hP (yi_2 hL) (yt_2 hL) rfl (by decide) w_77 (fun _ h9 => h9) rfl rfl (yr_2_9 hL) d_2_15_57 ?_
      refine lv_iload hx hb d_2_15_60 (lv_at hl 0 rfl) ?_
      refine lv_dup2_11 hx hb d_2_15_62 rfl rfl ?_
      obtain ⟨ok112, h⟩ := ck_e h
      refine m_ia hx hb hG hP (yi_40 hL) (yt_40 hL) ok112 d_2_15_63 ?_
      refine lv_aload_n hx hb d_2_15_64 rfl (lv_at hl 2 rfl) ?_
      refine lv_iload hx hb d_2_15_65 (lv_at hl 5 rfl) ?_
      obtain ⟨ok113, h⟩ := ck_e h
      refine m_ia hx hb hG hP h_q1.1 (isIA_T h_q1) ok113 d_2_15_67 ?_
      refine lv_iadd hx hb d_2_15_68 ?_
      refine nrm (oI_add _ _) ?_
      obtain ⟨v114, e114, h⟩ := nb_e h
      refine nrm (congrArg oI e114.symm) ?_
      refine m_is hx hb hG hP hD hS (yi_40 hL) (yt_40 hL) ok112 d_2_15_69 (fun H locs hP hD hS => ?_)
      have hP : va_P z.1 classes (wv z ad E (u2 M 40 v109.toNat v114)) H := hP
      have hD : va_D A (wv z ad E (u2 M 40 v109.toNat v114)) := hD
      refine lv_iinc (v := oI (x6 + 1)) (lv' := [(6, .int (oI (x6 + 1))), (5, .int (oI v109)), (0, .ref (ad 2)), (1, .ref (ad q1)), (2, .int (oI x2)), (3, .int (oI x3)), (4, .int (oI x4))]) hx hb d_2_15_70 hl (k := 6) rfl (oI_add x6 1) (by decide) rfl (fun ls hl => ?_)
      refine lv_goto (tgt := 23) hx hb d_2_15_73 (by decide) ?_
      obtain ⟨rfl, rfl, rfl, rfl⟩ := in4 h
      exact k0 rfl H locs ls hP hD hS (lv_sub hl [2, 3, 4, 5, 6, 1, 0] rfl)
set_option maxRecDepth 100000 in
set_option maxHeartbeats 4000000 in
theorem s_Bx_findSupport_23 (l : Launch) (z : Zz) (ad : Nat → Nat) (E : Ev) (q1 : Nat) (x2 : Int) (x3 : Int) (x4 : Int) {Q : State → Prop} {p : Program} {e : Env} {s : State} {m : MethodId} {below : List Frame} {meth : Method} {c : Code} {A : Nat → Prop} {args : Array Value} (hx : p.tables.exec = Jvm.exec) (hb : c.code = prog_2_method_15_code) (hml : c.maxLocals = 7) (hts : ∀ w ∈ WG, w.before args s = true) (hown : s.vm.findClass "Ballothall$BallotBox" = some m.cls) (hlocks : meth.locks = false) (hA : ∀ q, s.heap.size ≤ q → A q) (hG : KG z s) (hZ : FZ z A s) (hL : Lay E) : ∀ (fu : Nat) (M : Mm) (x5 : Int) (x6 : Int) (t : Nat) (w5 : Int) (w6 : Int) (N : Mm), l_Bx_findSupport_23 E q1 x2 x3 x4 fu M x5 x6 = some (t, w5, w6, N) → (t = 1 → ∀ (H : Heap) (locs : List Loc) (ls : Array Slot), va_P z.1 classes (wv z ad E N) H → va_D A (wv z ad E N) → va_S A s.heap H locs → lv_has ls 7 [(0, .ref (ad 2)), (1, .ref (ad q1)), (2, .int (oI x2)), (3, .int (oI x3)), (4, .int (oI x4))] → W p l e (rmK 1 44 0 0) s m args below meth c H locs 0 0 Q (F0 m 76 ls [])) → ∀ (H : Heap) (locs : List Loc) (ls : Array Slot), va_P z.1 classes (wv z ad E M) H → va_D A (wv z ad E M) → va_S A s.heap H locs → lv_has ls 7 [(0, .ref (ad 2)), (1, .ref (ad q1)), (2, .int (oI x2)), (3, .int (oI x3)), (4, .int (oI x4)), (5, .int (oI x5)), (6, .int (oI x6))] → W p l e (rmK 1 44 0 0) s m args below meth c H locs 0 0 Q (F0 m 23 ls []) := by
  intro fu
  induction fu with
  | zero =>
    intro M x5 x6 t w5 w6 N h
    have h : (none : Option (Nat × Int × Int × Mm)) = some _ := h
    cases h
  | succ fu ih =>
    intro M x5 x6 t w5 w6 N h k1 H locs ls hP hD hS hl
    obtain ⟨⟨t0, w50, w60, N9⟩, g0, h⟩ := bd_e h
    refine b_Bx_findSupport_23b l z ad E M q1 x2 x3 x4 x5 x6 t0 w50 w60 N9 hx hb hml hts hown hlocks hA hG hZ hL g0 (fun e0 => ?_) (fun e0 => ?_) H locs ls hP hD hS hl
    · subst e0
      have h := ite_t rfl h
      exact ih N9 w50 w60 t w5 w6 N h k1
    · subst e0
      have h := ite_f (by decide) h
      obtain ⟨rfl, rfl, rfl, rfl⟩ := in4 h
      exact k1 rfl
set_option maxRecDepth 100000 in
set_option maxHeartbeats 4000000 in
theorem b_Bx_findSupport_11b (l : Launch) (z : Zz) (ad : Nat → Nat) (E : Ev) (M : Mm) (q1 : Nat) (x2 : Int) (x3 : Int) (x4 : Int) (t : Nat) (w4 : Int) (N : Mm) {Q : State → Prop} {p : Program} {e : Env} {s : State} {m : MethodId} {below : List Frame} {meth : Method} {c : Code} {A : Nat → Prop} {args : Array Value} (hx : p.tables.exec = Jvm.exec) (hb : c.code = prog_2_method_15_code) (hml : c.maxLocals = 7) (hts : ∀ w ∈ WG, w.before args s = true) (hown : s.vm.findClass "Ballothall$BallotBox" = some m.cls) (hlocks : meth.locks = false) (hA : ∀ q, s.heap.size ≤ q → A q) (hG : KG z s) (hZ : FZ z A s) (hL : Lay E) (h : Bx_findSupport_11b E M q1 x2 x3 x4 = some (t, w4, N)) (k0 : t = 0 → ∀ (H : Heap) (locs : List Loc) (ls : Array Slot), va_P z.1 classes (wv z ad E N) H → va_D A (wv z ad E N) → va_S A s.heap H locs → lv_has ls 7 [(0, .ref (ad 2)), (1, .ref (ad q1)), (2, .int (oI x2)), (3, .int (oI x3)), (4, .int (oI w4))] → W p l e (rmK 1 44 0 0) s m args below meth c H locs 0 0 Q (F0 m 11 ls [])) (k1 : t = 1 → ∀ (H : Heap) (locs : List Loc) (ls : Array Slot), va_P z.1 classes (wv z ad E N) H → va_D A (wv z ad E N) → va_S A s.heap H locs → lv_has ls 7 [(0, .ref (ad 2)), (1, .ref (ad q1)), (2, .int (oI x2)), (3, .int (oI x3))] → W p l e (rmK 1 44 0 0) s m args below meth c H locs 0 0 Q (F0 m 82 ls [])) : ∀ (H : Heap) (locs : List Loc) (ls : Array Slot), va_P z.1 classes (wv z ad E M) H → va_D A (wv z ad E M) → va_S A s.heap H locs → lv_has ls 7 [(0, .ref (ad 2)), (1, .ref (ad q1)), (2, .int (oI x2)), (3, .int (oI x3)), (4, .int (oI x4))] → W p l e (rmK 1 44 0 0) s m args below meth c H locs 0 0 Q (F0 m 11 ls []) := by
  intro H locs ls hP hD hS hl
  unfold Bx_findSupport_11b at h
  obtain ⟨h_q1, h⟩ := ck_e h
  refine lv_iload hx hb d_2_15_11 (lv_at hl 4 rfl) ?_
  refine lv_iload_n hx hb d_2_15_13 rfl (lv_at hl 2 rfl) ?_
  obtain ⟨ok101, h⟩ := ck_e h
  obtain ⟨ok102, h⟩ := ck_e h
  refine lv_icmp_ge (tgt := 82) hx hb d_2_15_14 (by decide) (fun c9 => ?_) (fun c9 => ?_)
  · have h := ite_t ((oI_le (a := x2) (b := x4) ok102 ok101).mp c9) h
    obtain ⟨rfl, rfl, rfl⟩ := in3 h
    exact k1 rfl H locs ls hP hD hS (lv_sub hl [0, 1, 2, 3] rfl)
  · have h := ite_f (fun q => c9 ((oI_le (a := x2) (b := x4) ok102 ok101).mpr q)) h
    refine lv_iconst (v := oI 0) hx hb d_2_15_17 (by decide +kernel) ?_
    refine lv_istore (lv' := [(5, .int (oI 0)), (0, .ref (ad 2)), (1, .ref (ad q1)), (2, .int (oI x2)), (3, .int (oI x3)), (4, .int (oI x4))]) hx hb d_2_15_18 hl (by decide) rfl (fun ls hl => ?_)
    refine lv_iconst (v := oI 0) hx hb d_2_15_20 (by decide +kernel) ?_
    refine lv_istore (lv' := [(6, .int (oI 0)), (5, .int (oI 0)), (0, .ref (ad 2)), (1, .ref (ad q1)), (2, .int (oI x2)), (3, .int (oI x3)), (4, .int (oI x4))]) hx hb d_2_15_21 hl (by decide) rfl (fun ls hl => ?_)
    obtain ⟨⟨t115, v115_5, v115_6, M115⟩, g115, h⟩ := bd_e h
    obtain ⟨ok115, h⟩ := ck_e h
    refine s_Bx_findSupport_23 l z ad E q1 x2 x3 x4 hx hb hml hts hown hlocks hA hG hZ hL FU M 0 0 t115 v115_5 v115_6 M115 g115 (fun e115 H locs ls hP hD hS hl => ?_) H locs ls hP hD hS (lv_sub hl [2, 3, 4, 5, 6, 1, 0] rfl)
    refine lv_iinc (v := oI (x4 + 1)) (lv' := [(4, .int (oI (x4 + 1))), (0, .ref (ad 2)), (1, .ref (ad q1)), (2, .int (oI x2)), (3, .int (oI x3))]) hx hb d_2_15_76 hl (k := 4) rfl (oI_add x4 1) (by decide) rfl (fun ls hl => ?_)
    refine lv_goto (tgt := 11) hx hb d_2_15_79 (by decide) ?_
    obtain ⟨rfl, rfl, rfl⟩ := in3 h
    exact k0 rfl H locs ls hP hD hS (lv_sub hl [1, 2, 3, 4, 0] rfl)
set_option maxRecDepth 100000 in
set_option maxHeartbeats 4000000 in
theorem s_Bx_findSupport_11 (l : Launch) (z : Zz) (ad : Nat → Nat) (E : Ev) (q1 : Nat) (x2 : Int) (x3 : Int) {Q : State → Prop} {p : Program} {e : Env} {s : State} {m : MethodId} {below : List Frame} {meth : Method} {c : Code} {A : Nat → Prop} {args : Array Value} (hx : p.tables.exec = Jvm.exec) (hb : c.code = prog_2_method_15_code) (hml : c.maxLocals = 7) (hts : ∀ w ∈ WG, w.before args s = true) (hown : s.vm.findClass "Ballothall$BallotBox" = some m.cls) (hlocks : meth.locks = false) (hA : ∀ q, s.heap.size ≤ q → A q) (hG : KG z s) (hZ : FZ z A s) (hL : Lay E) : ∀ (fu : Nat) (M : Mm) (x4 : Int) (t : Nat) (w4 : Int) (N : Mm), l_Bx_findSupport_11 E q1 x2 x3 fu M x4 = some (t, w4, N) → (t = 1 → ∀ (H : Heap) (locs : List Loc) (ls : Array Slot), va_P z.1 classes (wv z ad E N) H → va_D A (wv z ad E N) → va_S A s.heap H locs → lv_has ls 7 [(0, .ref (ad 2)), (1, .ref (ad q1)), (2, .int (oI x2)), (3, .int (oI x3))] → W p l e (rmK 1 44 0 0) s m args below meth c H locs 0 0 Q (F0 m 82 ls [])) → ∀ (H : Heap) (locs : List Loc) (ls : Array Slot), va_P z.1 classes (wv z ad E M) H → va_D A (wv z ad E M) → va_S A s.heap H locs → lv_has ls 7 [(0, .ref (ad 2)), (1, .ref (ad q1)), (2, .int (oI x2)), (3, .int (oI x3)), (4, .int (oI x4))] → W p l e (rmK 1 44 0 0) s m args below meth c H locs 0 0 Q (F0 m 11 ls []) := by
  intro fu
  induction fu with
  | zero =>
    intro M x4 t w4 N h
    have h : (none : Option (Nat × Int × Mm)) = some _ := h
    cases h
  | succ fu ih =>
    intro M x4 t w4 N h k1 H locs ls hP hD hS hl
    obtain ⟨⟨t0, w40, N9⟩, g0, h⟩ := bd_e h
    refine b_Bx_findSupport_11b l z ad E M q1 x2 x3 x4 t0 w40 N9 hx hb hml hts hown hlocks hA hG hZ hL g0 (fun e0 => ?_) (fun e0 => ?_) H locs ls hP hD hS hl
    · subst e0
      have h := ite_t rfl h
      exact ih N9 w40 t w4 N h k1
    · subst e0
      have h := ite_f (by decide) h
      obtain ⟨rfl, rfl, rfl⟩ := in3 h
      exact k1 rfl
set_option maxRecDepth 100000 in
set_option maxHeartbeats 4000000 in
theorem s_Bx_findSupport (l : Launch) (z : Zz) (ad : Nat → Nat) (E : Ev) (M : Mm) (p1 : Nat) (x2 : Int) (x3 : Int) (N : Mm) (hL : Lay E) (h : f_Bx_findSupport E M p1 x2 x3 = some N) : CT l z ⟨"Ballothall$BallotBox", "findSupport", "([III)V"⟩ prog_2_method_15_code 7 none [.ref (ad 2), .ref (ad p1), .int (oI x2), .int (oI x3)] (wv z ad E M) 1 44 0 0 (fun _ => none) (fun _ => (wv z ad E N)) := by
  refine CT.of (own := "Ballothall$BallotBox") (by decide +kernel) (Nat.le_of_ble_eq_true rfl) rfl (fun p e s m below meth c A ls hx hb hml hr hts hown hlocks hin hA hG hZ hP hD hS hl => ?_)
  have hl : lv_has ls 7 [(0, .ref (ad 2)), (1, .ref (ad p1)), (2, .int (oI x2)), (3, .int (oI x3))] := hl
  have key : ∀ (H : Heap) (locs : List Loc) (args : Array Value), (∀ w ∈ WG, w.before args s = true) → va_P z.1 classes (wv z ad E M) H → va_S A s.heap H locs → W p l e (rmK 1 44 0 0) s m args below meth c H locs 0 0 (MQ below (QK z A (fun _ => none) (fun _ => (wv z ad E N))) args s 0 0 A) (F0 m 0 ls []) := by
    intro H locs args hts hP hS
    unfold f_Bx_findSupport at h
    obtain ⟨h_p1, h⟩ := ck_e h
    refine lv_aload_n hx hb d_2_15_0 rfl (lv_at hl 0 rfl) ?_
    refine m_gr (j := 40) (C := "Ballothall$BallotBox") (T := TX0) (N := 10) (ci := 0) (k := 9) hx hb hts iX0 hown hG hP (yi_2 hL) (yt_2 hL) rfl (by decide) w_77 (fun _ h9 => h9) rfl rfl (yr_2_9 hL) d_2_15_1 ?_
    refine lv_iconst (v := oI 0) hx hb d_2_15_4 (by decide +kernel) ?_
    obtain ⟨M100, g100, h⟩ := bd_e h
    refine kS (As := [.ref (ad 40), .int (oI 0)]) (rest := []) (s_Ar_fillI l z ad E M 40 0 M100 hL g100) hx hb hml hown hts w_653 w_651 w_652 w_23 md_e8f65d ⟨Nat.le_of_ble_eq_true rfl, Nat.le_of_ble_eq_true rfl⟩ hG hZ hP hD hS hA rfl hl.1 rfl (Nat.le_of_ble_eq_true rfl) d_2_15_5 ⟨Nat.le_of_ble_eq_true rfl, Nat.le_of_ble_eq_true rfl⟩ (fun _ H locs hP hD hS => ?_)
    have hP : va_P z.1 classes (wv z ad E M100) H := hP
    have hD : va_D A (wv z ad E M100) := hD
    refine W.eq (g2 := F0 m 8 ls []) rfl ?_
    refine lv_iconst (v := oI 0) hx hb d_2_15_8 (by decide +kernel) ?_
    refine lv_istore (lv' := [(4, .int (oI 0)), (0, .ref (ad 2)), (1, .ref (ad p1)), (2, .int (oI x2)), (3, .int (oI x3))]) hx hb d_2_15_9 hl (by decide) rfl (fun ls hl => ?_)
    obtain ⟨⟨t116, v116_4, M116⟩, g116, h⟩ := bd_e h
    obtain ⟨ok116, h⟩ := ck_e h
    refine s_Bx_findSupport_11 l z ad E p1 x2 x3 hx hb hml hts hown hlocks hA hG hZ hL FU M100 0 t116 v116_4 M116 g116 (fun e116 H locs ls hP hD hS hl => ?_) H locs ls hP hD hS (lv_sub hl [1, 2, 3, 4, 0] rfl)
    refine lv_aload_n hx hb d_2_15_82 rfl (lv_at hl 0 rfl) ?_
    refine m_gr (j := 40) (C := "Ballothall$BallotBox") (T := TX0) (N := 10) (ci := 0) (k := 9) hx hb hts iX0 hown hG hP (yi_2 hL) (yt_2 hL) rfl (by decide) w_77 (fun _ h9 => h9) rfl rfl (yr_2_9 hL) d_2_15_83 ?_
    refine lv_iload_n hx hb d_2_15_86 rfl (lv_at hl 3 rfl) ?_
    refine lv_aload_n hx hb d_2_15_87 rfl (lv_at hl 0 rfl) ?_
    refine lv_aload_n hx hb d_2_15_88 rfl (lv_at hl 1 rfl) ?_
    refine lv_iload_n hx hb d_2_15_89 rfl (lv_at hl 2 rfl) ?_
    obtain ⟨r117, g117, h⟩ := bd_e h
    refine kV (As := [.ref (ad p1), .int (oI x2)]) (rest := [.int (oI x3), .ref (ad 40)]) (s_Bx_ballotsOf l z ad E M116 p1 x2 r117 hL g117) hx hb hml hown hts w_572 w_654 w_571 w_s_fcecd2 w_2 md_ebdc38 ⟨Nat.le_of_ble_eq_true rfl, Nat.le_of_ble_eq_true rfl⟩ hG hZ hP hD hS hA 2 (wv_o (ci := 0) (yi_2 hL) (yt_2 hL)) rfl rfl rfl hl.1 rfl (Nat.le_of_ble_eq_true rfl) d_2_15_90 ⟨Nat.le_of_ble_eq_true rfl, Nat.le_of_ble_eq_true rfl⟩ (fun _ H locs hP hD hS => ?_)
    have hP : va_P z.1 classes (wv z ad E M116) H := hP
    have hD : va_D A (wv z ad E M116) := hD
    refine W.eq (g2 := F0 m 93 ls [.int (oI r117), .int (oI x3), .ref (ad 40)]) rfl ?_
    obtain ⟨ok118, h⟩ := ck_e h
    refine m_is hx hb hG hP hD hS (yi_40 hL) (yt_40 hL) ok118 d_2_15_93 (fun H locs hP hD hS => ?_)
    have hP : va_P z.1 classes (wv z ad E (u2 M116 40 x3.toNat r117)) H := hP
    have hD : va_D A (wv z ad E (u2 M116 40 x3.toNat r117)) := hD
    obtain rfl := in1 h
    exact W.vret hx hb hr (fun t ht hW => qkA hP hD hS (fun k => k) rfl rfl ht) hS.2.2 d_2_15_94
  exact key _ _ _ hts hP hS
set_option maxRecDepth 100000 in
set_option maxHeartbeats 4000000 in
theorem s_B_solidQuotas (l : Launch) (z : Zz) (ad : Nat → Nat) (E : Ev) (M : Mm) (x1 : Int) (r : Int) (N : Mm) (hL : Lay E) (h : f_B_solidQuotas E M x1 = some (r, N)) : CT l z ⟨"Ballothall", "solidQuotas", "(I)I"⟩ prog_1_method_24_code 3 (some .int) [.ref (ad 1), .int (oI x1)] (wv z ad E M) 2 70 0 0 (fun _ => some (.int (oI r))) (fun _ => (wv z ad E N)) := by
  refine CT.of (own := "Ballothall") (by decide +kernel) (Nat.le_of_ble_eq_true rfl) rfl (fun p e s m below meth c A ls hx hb hml hr hts hown hlocks hin hA hG hZ hP hD hS hl => ?_)
  have hl : lv_has ls 3 [(0, .ref (ad 1)), (1, .int (oI x1))] := hl
  have key : ∀ (H : Heap) (locs : List Loc) (args : Array Value), (∀ w ∈ WG, w.before args s = true) → va_P z.1 classes (wv z ad E M) H → va_S A s.heap H locs → W p l e (rmK 2 70 0 0) s m args below meth c H locs 0 0 (MQ below (QK z A (fun _ => some (.int (oI r))) (fun _ => (wv z ad E N))) args s 0 0 A) (F0 m 0 ls []) := by
    intro H locs args hts hP hS
    unfold f_B_solidQuotas at h
    refine lv_iload_n hx hb d_1_24_0 rfl (lv_at hl 1 rfl) ?_
    refine lv_iconst (v := oI 1) hx hb d_1_24_1 (by decide +kernel) ?_
    refine lv_aload_n hx hb d_1_24_2 rfl (lv_at hl 0 rfl) ?_
    refine m_gr (j := 2) (C := "Ballothall") (T := TX11) (N := 14) (ci := 11) (k := 0) hx hb hts iX11 hown hG hP (yi_1 hL) (yt_1 hL) rfl (by decide) w_397 (fun _ h9 => h9) rfl rfl (yr_1_0 hL) d_1_24_3 ?_
    obtain ⟨r100, g100, h⟩ := bd_e h
    refine kVN (As := []) (rest := [.int (oI 1), .int (oI x1)]) (s_Bx_everybody l z ad E M r100 hL g100) hx hb hml hown hts w_668 n_665 w_667 w_s_8b8b67 w_2 md_b59579 ⟨Nat.le_of_ble_eq_true rfl, Nat.le_of_ble_eq_true rfl⟩ hG hZ hP hD hS hA 2 (wv_o (ci := 0) (yi_2 hL) (yt_2 hL)) rfl rfl rfl hl.1 rfl (Nat.le_of_ble_eq_true rfl) d_1_24_6 ⟨Nat.le_of_ble_eq_true rfl, Nat.le_of_ble_eq_true rfl⟩ (fun _ H locs hP hD hS => ?_)
    have hP : va_P z.1 classes (wv z ad E M) H := hP
    have hD : va_D A (wv z ad E M) := hD
    refine W.eq (g2 := F0 m 9 ls [.int (oI r100), .int (oI 1), .int (oI x1)]) rfl ?_
    obtain ⟨_, g101, h⟩ := bd_e h
    refine kS (As := [.int (oI x1), .int (oI 1), .int (oI r100)]) (rest := []) (s_B_needRange l z ad E M x1 1 r100 hL g101) hx hb hml hown hts w_548 w_546 w_547 w_1 md_519134 ⟨Nat.le_of_ble_eq_true rfl, Nat.le_of_ble_eq_true rfl⟩ hG hZ hP hD hS hA rfl hl.1 rfl (Nat.le_of_ble_eq_true rfl) d_1_24_9 ⟨Nat.le_of_ble_eq_true rfl, Nat.le_of_ble_eq_true rfl⟩ (fun _ H locs hP hD hS => ?_)
    have hP : va_P z.1 classes (wv z ad E M) H := hP
    have hD : va_D A (wv z ad E M) := hD
    refine W.eq (g2 := F0 m 12 ls []) rfl ?_
    refine lv_aload_n hx hb d_1_24_12 rfl (lv_at hl 0 rfl) ?_
    refine m_gr (j := 179) (C := "Ballothall") (T := TX11) (N := 14) (ci := 11) (k := 4) hx hb hts iX11 hown hG hP (yi_1 hL) (yt_1 hL) rfl (by decide) w_401 (fun _ h9 => h9) rfl rfl (yr_1_4 hL) d_1_24_13 ?_
    obtain ⟨r102, g102, h⟩ := bd_e h
    refine kVN (As := []) (rest := []) (s_Co_latest l z ad E M r102 hL g102) hx hb hml hown hts w_596 n_593 w_595 w_s_ad1675 w_8 md_6f7cc1 ⟨Nat.le_of_ble_eq_true rfl, Nat.le_of_ble_eq_true rfl⟩ hG hZ hP hD hS hA 179 (wv_o (ci := 3) (yi_179 hL) (yt_179 hL)) rfl rfl rfl hl.1 rfl (Nat.le_of_ble_eq_true rfl) d_1_24_16 ⟨Nat.le_of_ble_eq_true rfl, Nat.le_of_ble_eq_true rfl⟩ (fun _ H locs hP hD hS => ?_)
    have hP : va_P z.1 classes (wv z ad E M) H := hP
    have hD : va_D A (wv z ad E M) := hD
    cases r102 with
    | none =>
      refine W.eq (g2 := F0 m 19 ls [.null]) rfl ?_
      refine lv_astore_nN (lv' := [(2, .null), (0, .ref (ad 1)), (1, .int (oI x1))]) hx hb d_1_24_19 rfl hl (by decide) rfl (fun ls hl => ?_)
      refine lv_aload_nN hx hb d_1_24_20 rfl (lv_at hl 0 rfl) ?_
      refine lv_ifnullN (tgt := 32) hx hb d_1_24_21 (by decide) ?_
      cases h
    | some p102 =>
      obtain ⟨h_p102, h⟩ := ck_e h
      refine W.eq (g2 := F0 m 19 ls [.ref (ad p102)]) rfl ?_
      refine lv_astore_n (lv' := [(2, .ref (ad p102)), (0, .ref (ad 1)), (1, .int (oI x1))]) hx hb d_1_24_19 rfl hl (by decide) rfl (fun ls hl => ?_)
      refine lv_aload_n hx hb d_1_24_20 rfl (lv_at hl 0 rfl) ?_
      refine lv_ifnull hx hb d_1_24_21 ?_
      refine lv_aload_n hx hb d_1_24_24 rfl (lv_at hl 0 rfl) ?_
      refine m_giN (C := "Ballothall$Count") (T := TX2) (N := 10) (ci := 2) (k := 0) hx hb hts iX2 hown hG hP (isCt_i h_p102) (isCt_T h_p102) rfl (by decide) n_1080 rfl (fun _ h9 => h9) rfl rfl d_1_24_25 ?_
      refine lv_iconst (v := oI 1) hx hb d_1_24_28 (by decide +kernel) ?_
      obtain ⟨ok103, h⟩ := ck_e h
      refine lv_icmp_ge (tgt := 42) hx hb d_1_24_29 (by decide) (fun c9 => ?_) (fun c9 => ?_)
      · have h := ite_t ((oI_le (a := (1 : Int)) (b := (M p102 0)) (by decide) ok103).mp c9) h
        refine lv_aload_n hx hb d_1_24_42 rfl (lv_at hl 1 rfl) ?_
        refine m_gr (j := 2) (C := "Ballothall") (T := TX11) (N := 14) (ci := 11) (k := 0) hx hb hts iX11 hown hG hP (yi_1 hL) (yt_1 hL) rfl (by decide) w_397 (fun _ h9 => h9) rfl rfl (yr_1_0 hL) d_1_24_43 ?_
        refine lv_aload_n hx hb d_1_24_46 rfl (lv_at hl 1 rfl) ?_
        refine m_gr (j := 2) (C := "Ballothall") (T := TX11) (N := 14) (ci := 11) (k := 0) hx hb hts iX11 hown hG hP (yi_1 hL) (yt_1 hL) rfl (by decide) w_397 (fun _ h9 => h9) rfl rfl (yr_1_0 hL) d_1_24_47 ?_
        refine m_grN (j := 5) (C := "Ballothall$BallotBox") (T := TX0) (N := 10) (ci := 0) (k := 5) hx hb hts iX0 hown hG hP (yi_2 hL) (yt_2 hL) rfl (by decide) n_66 rfl (fun _ h9 => h9) rfl rfl (yr_2_5 hL) d_1_24_50 ?_
        refine lv_aload_n hx hb d_1_24_53 rfl (lv_at hl 1 rfl) ?_
        refine m_gr (j := 2) (C := "Ballothall") (T := TX11) (N := 14) (ci := 11) (k := 0) hx hb hts iX11 hown hG hP (yi_1 hL) (yt_1 hL) rfl (by decide) w_397 (fun _ h9 => h9) rfl rfl (yr_1_0 hL) d_1_24_54 ?_
        refine m_giN (C := "Ballothall$BallotBox") (T := TX0) (N := 10) (ci := 0) (k := 3) hx hb hts iX0 hown hG hP (yi_2 hL) (yt_2 hL) rfl (by decide) n_58 rfl (fun _ h9 => h9) rfl rfl d_1_24_57 ?_
        refine lv_aload_n hx hb d_1_24_60 rfl (lv_at hl 1 rfl) ?_
        refine m_gr (j := 2) (C := "Ballothall") (T := TX11) (N := 14) (ci := 11) (k := 0) hx hb hts iX11 hown hG hP (yi_1 hL) (yt_1 hL) rfl (by decide) w_397 (fun _ h9 => h9) rfl rfl (yr_1_0 hL) d_1_24_61 ?_
        obtain ⟨r104, g104, h⟩ := bd_e h
        refine kVN (As := []) (rest := [.int (oI (M 2 3)), .ref (ad 5), .ref (ad 2)]) (s_Bx_everybody l z ad E M r104 hL g104) hx hb hml hown hts w_668 n_665 w_667 w_s_8b8b67 w_2 md_b59579 ⟨Nat.le_of_ble_eq_true rfl, Nat.le_of_ble_eq_true rfl⟩ hG hZ hP hD hS hA 2 (wv_o (ci := 0) (yi_2 hL) (yt_2 hL)) rfl rfl rfl hl.1 rfl (Nat.le_of_ble_eq_true rfl) d_1_24_64 ⟨Nat.le_of_ble_eq_true rfl, Nat.le_of_ble_eq_true rfl⟩ (fun _ H locs hP hD hS => ?_)
        have hP : va_P z.1 classes (wv z ad E M) H := hP
        have hD : va_D A (wv z ad E M) := hD
        refine W.eq (g2 := F0 m 67 ls [.int (oI r104), .int (oI (M 2 3)), .ref (ad 5), .ref (ad 2)]) rfl ?_
        obtain ⟨M105, g105, h⟩ := bd_e h
        refine kVN (As := [.ref (ad 5), .int (oI (M 2 3)), .int (oI r104)]) (rest := []) (s_Bx_findSupport l z ad E M 5 (M 2 3) r104 M105 hL g105) hx hb hml hown hts w_650 n_647 w_649 w_s_0b6f71 w_2 md_c007fa ⟨Nat.le_of_ble_eq_true rfl, Nat.le_of_ble_eq_true rfl⟩ hG hZ hP hD hS hA 2 (wv_o (ci := 0) (yi_2 hL) (yt_2 hL)) rfl rfl rfl hl.1 rfl (Nat.le_of_ble_eq_true rfl) d_1_24_67 ⟨Nat.le_of_ble_eq_true rfl, Nat.le_of_ble_eq_true rfl⟩ (fun _ H locs hP hD hS => ?_)
        have hP : va_P z.1 classes (wv z ad E M105) H := hP
        have hD : va_D A (wv z ad E M105) := hD
        refine W.eq (g2 := F0 m 70 ls []) rfl ?_
        refine lv_aload_n hx hb d_1_24_70 rfl (lv_at hl 1 rfl) ?_
        refine m_gr (j := 2) (C := "Ballothall") (T := TX11) (N := 14) (ci := 11) (k := 0) hx hb hts iX11 hown hG hP (yi_1 hL) (yt_1 hL) rfl (by decide) w_397 (fun _ h9 => h9) rfl rfl (yr_1_0 hL) d_1_24_71 ?_
        refine m_grN (j := 40) (C := "Ballothall$BallotBox") (T := TX0) (N := 10) (ci := 0) (k := 9) hx hb hts iX0 hown hG hP (yi_2 hL) (yt_2 hL) rfl (by decide) n_78 rfl (fun _ h9 => h9) rfl rfl (yr_2_9 hL) d_1_24_74 ?_
        refine lv_iload_n hx hb d_1_24_77 rfl (lv_at hl 2 rfl) ?_
        obtain ⟨ok106, h⟩ := ck_e h
        refine m_ia hx hb hG hP (yi_40 hL) (yt_40 hL) ok106 d_1_24_78 ?_
        refine lv_aload_n hx hb d_1_24_79 rfl (lv_at hl 0 rfl) ?_
        refine m_giN (C := "Ballothall$Count") (T := TX2) (N := 10) (ci := 2) (k := 0) hx hb hts iX2 hown hG hP (isCt_i h_p102) (isCt_T h_p102) rfl (by decide) n_1080 rfl (fun _ h9 => h9) rfl rfl d_1_24_80 ?_
        obtain ⟨ok107, h⟩ := ck_e h
        obtain ⟨ok108, h⟩ := ck_e h
        refine lv_idiv hx hb d_1_24_83 (oI_nz ok108.1 ok108.2) ?_
        refine nrm (oI_div (a := (M105 40 x1.toNat)) (b := (M105 p102 0)) ok107.1 ok107.2 ok108.1 ok108.2) ?_
        refine lv_iload_n hx hb d_1_24_84 rfl (lv_at hl 2 rfl) ?_
        obtain ⟨r109, g109, h⟩ := bd_e h
        refine kS (As := [.int (oI x1)]) (rest := [.int (oI ((M105 40 x1.toNat) / (M105 p102 0)))]) (s_In_bitCount l z ad E M105 x1 r109 hL g109) hx hb hml hown hts w_657 w_655 w_656 w_30 md_eafe8c ⟨Nat.le_of_ble_eq_true rfl, Nat.le_of_ble_eq_true rfl⟩ hG hZ hP hD hS hA rfl hl.1 rfl (Nat.le_of_ble_eq_true rfl) d_1_24_85 ⟨Nat.le_of_ble_eq_true rfl, Nat.le_of_ble_eq_true rfl⟩ (fun _ H locs hP hD hS => ?_)
        have hP : va_P z.1 classes (wv z ad E M105) H := hP
        have hD : va_D A (wv z ad E M105) := hD
        refine W.eq (g2 := F0 m 88 ls [.int (oI r109), .int (oI ((M105 40 x1.toNat) / (M105 p102 0)))]) rfl ?_
        obtain ⟨ok110, h⟩ := ck_e h
        obtain ⟨ok111, h⟩ := ck_e h
        refine va_mmin hx hb (by rw [hml]; exact hl.1.symm) hown (hts _ w_520) (hts _ w_521) (hts _ w_17) (hts _ w_min) (Nat.le_of_ble_eq_true rfl) (Nat.le_of_ble_eq_true rfl) (Nat.le_of_ble_eq_true rfl) (Nat.le_of_ble_eq_true rfl) d_1_24_88 ?_
        refine nrm (mn_oI (a := ((M105 40 x1.toNat) / (M105 p102 0))) (b := r109) ok110 ok111) ?_
        obtain ⟨v112, e112, h⟩ := nb_e h
        refine nrm (congrArg oI e112.symm) ?_
        obtain ⟨rfl, rfl⟩ := in2 h
        exact W.iret hx hb hr (fun t ht hW => qkA hP hD hS (fun k => k) rfl rfl ht) hS.2.2 d_1_24_91
      · have h := ite_f (fun q => c9 ((oI_le (a := (1 : Int)) (b := (M p102 0)) (by decide) ok103).mpr q)) h
        cases h
  exact key _ _ _ hts hP hS
set_option maxRecDepth 100000 in
set_option maxHeartbeats 4000000 in
theorem s_Na_load (l : Launch) (z : Zz) (ad : Nat → Nat) (E : Ev) (M : Mm) (p0 : Nat) (p1 : Nat) (x2 : Int) (N : Mm) (hL : Lay E) (h : f_Na_load E M p0 p1 x2 = some N) : CT l z ⟨"Ballothall$Natural", "load", "([II)V"⟩ prog_10_method_5_code 3 none [.ref (ad p0), .ref (ad p1), .int (oI x2)] (wv z ad E M) 2 61 0 0 (fun _ => none) (fun _ => (wv z ad E N)) := by
  refine CT.of (own := "Ballothall$Natural") (by decide +kernel) (Nat.le_of_ble_eq_true rfl) rfl (fun p e s m below meth c A ls hx hb hml hr hts hown hlocks hin hA hG hZ hP hD hS hl => ?_)
  have hl : lv_has ls 3 [(0, .ref (ad p0)), (1, .ref (ad p1)), (2, .int (oI x2))] := hl
  have key : ∀ (H : Heap) (locs : List Loc) (args : Array Value), (∀ w ∈ WG, w.before args s = true) → va_P z.1 classes (wv z ad E M) H → va_S A s.heap H locs → W p l e (rmK 2 61 0 0) s m args below meth c H locs 0 0 (MQ below (QK z A (fun _ => none) (fun _ => (wv z ad E N))) args s 0 0 A) (F0 m 0 ls []) := by
    intro H locs args hts hP hS
    unfold f_Na_load at h
    obtain ⟨h_p0, h⟩ := ck_e h
    obtain ⟨h_p1, h⟩ := ck_e h
    refine lv_aload_n hx hb d_10_5_0 rfl (lv_at hl 1 rfl) ?_
    refine lv_iload_n hx hb d_10_5_1 rfl (lv_at hl 2 rfl) ?_
    refine lv_aload_n hx hb d_10_5_2 rfl (lv_at hl 0 rfl) ?_
    refine m_gr (j := (p0 + 1)) (C := "Ballothall$Natural") (T := TX8) (N := 2) (ci := 8) (k := 0) hx hb hts iX8 hown hG hP (isNa_i h_p0) (isNa_T h_p0) rfl (by decide) w_294 (fun _ h9 => h9) rfl rfl (isNa_r0 h_p0) d_10_5_3 ?_
    refine lv_iconst (v := oI 0) hx hb d_10_5_6 (by decide +kernel) ?_
    refine lv_bipush (v := oI 13) hx hb d_10_5_7 (by decide +kernel) ?_
    obtain ⟨ok100, h⟩ := ck_e h
    refine m_cpy hx hb (by rw [hml]; exact hl.1.symm) hown (hts _ w_619) (hts _ w_621) (hts _ w_620) (hts _ w_24) hG hP hD hS h_p1.1 (isIA_T h_p1) (isNa_i1 h_p0) (isNa_t1 h_p0) ok100 (Nat.le_of_ble_eq_true rfl) (Nat.le_of_ble_eq_true rfl) d_10_5_9 (fun H locs hP hD hS => ?_)
    have hP : va_P z.1 classes (wv z ad E (uA M (p0 + 1) (va_cpy (M p1) (M (p0 + 1)) x2.toNat 0 13))) H := hP
    have hD : va_D A (wv z ad E (uA M (p0 + 1) (va_cpy (M p1) (M (p0 + 1)) x2.toNat 0 13))) := hD
    refine lv_aload_n hx hb d_10_5_12 rfl (lv_at hl 0 rfl) ?_
    refine lv_bipush (v := oI 13) hx hb d_10_5_13 (by decide +kernel) ?_
    obtain ⟨M101, g101, h⟩ := bd_e h
    refine kV (As := [.int (oI 13)]) (rest := []) (s_Na_trimTo l z ad E (uA M (p0 + 1) (va_cpy (M p1) (M (p0 + 1)) x2.toNat 0 13)) p0 13 M101 hL g101) hx hb hml hown hts w_625 w_622 w_624 w_s_8e7085 w_9 md_0a866a ⟨Nat.le_of_ble_eq_true rfl, Nat.le_of_ble_eq_true rfl⟩ hG hZ hP hD hS hA p0 (wv_o (ci := 8) (isNa_i h_p0) (isNa_T h_p0)) rfl rfl rfl hl.1 rfl (Nat.le_of_ble_eq_true rfl) d_10_5_15 ⟨Nat.le_of_ble_eq_true rfl, Nat.le_of_ble_eq_true rfl⟩ (fun _ H locs hP hD hS => ?_)
    have hP : va_P z.1 classes (wv z ad E M101) H := hP
    have hD : va_D A (wv z ad E M101) := hD
    refine W.eq (g2 := F0 m 18 ls []) rfl ?_
    obtain rfl := in1 h
    exact W.vret hx hb hr (fun t ht hW => qkA hP hD hS (fun k => k) rfl rfl ht) hS.2.2 d_10_5_18
  exact key _ _ _ hts hP hS
set_option maxRecDepth 100000 in
set_option maxHeartbeats 4000000 in
theorem s_Co_loadPile (l : Launch) (z : Zz) (ad : Nat → Nat) (E : Ev) (M : Mm) (p1 : Nat) (x2 : Int) (x3 : Int) (N : Mm) (hL : Lay E) (h : f_Co_loadPile E M p1 x2 x3 = some N) : CT l z ⟨"Ballothall$Counting", "loadPile", "(LBallothall$Count;II)V"⟩ prog_5_method_18_code 4 none [.ref (ad 179), .ref (ad p1), .int (oI x2), .int (oI x3)] (wv z ad E M) 3 83 0 0 (fun _ => none) (fun _ => (wv z ad E N)) := by
  refine CT.of (own := "Ballothall$Counting") (by decide +kernel) (Nat.le_of_ble_eq_true rfl) rfl (fun p e s m below meth c A ls hx hb hml hr hts hown hlocks hin hA hG hZ hP hD hS hl => ?_)
  have hl : lv_has ls 4 [(0, .ref (ad 179)), (1, .ref (ad p1)), (2, .int (oI x2)), (3, .int (oI x3))] := hl
  have key : ∀ (H : Heap) (locs : List Loc) (args : Array Value), (∀ w ∈ WG, w.before args s = true) → va_P z.1 classes (wv z ad E M) H → va_S A s.heap H locs → W p l e (rmK 3 83 0 0) s m args below meth c H locs 0 0 (MQ below (QK z A (fun _ => none) (fun _ => (wv z ad E N))) args s 0 0 A) (F0 m 0 ls []) := by
    intro H locs args hts hP hS
    unfold f_Co_loadPile at h
    obtain ⟨h_p1, h⟩ := ck_e h
    refine lv_aload_n hx hb d_5_18_0 rfl (lv_at hl 0 rfl) ?_
    refine m_gr (j := 189) (C := "Ballothall$Counting") (T := TX3) (N := 15) (ci := 3) (k := 9) hx hb hts iX3 hown hG hP (yi_179 hL) (yt_179 hL) rfl (by decide) w_312 (fun _ h9 => h9) rfl rfl (yr_179_9 hL) d_5_18_1 ?_
    refine lv_aload_n hx hb d_5_18_4 rfl (lv_at hl 1 rfl) ?_
    refine m_grN (j := (p1 + 4)) (C := "Ballothall$Count") (T := TX2) (N := 10) (ci := 2) (k := 9) hx hb hts iX2 hown hG hP (isCt_i h_p1) (isCt_T h_p1) rfl (by decide) n_1099 rfl (fun _ h9 => h9) rfl rfl (isCt_r9 h_p1) d_5_18_5 ?_
    refine lv_aload_n hx hb d_5_18_8 rfl (lv_at hl 1 rfl) ?_
    refine lv_iload_n hx hb d_5_18_9 rfl (lv_at hl 2 rfl) ?_
    refine lv_iload_n hx hb d_5_18_10 rfl (lv_at hl 3 rfl) ?_
    obtain ⟨r100, g100, h⟩ := bd_e h
    refine kVN (As := [.int (oI x2), .int (oI x3)]) (rest := [.ref (ad (p1 + 4)), .ref (ad 189)]) (s_Ct_placeOf l z ad E M p1 x2 x3 r100 hL g100) hx hb hml hown hts w_614 n_610 w_612 w_s_4a352f w_29 md_4ba11b ⟨Nat.le_of_ble_eq_true rfl, Nat.le_of_ble_eq_true rfl⟩ hG hZ hP hD hS hA p1 (wv_o (ci := 2) (isCt_i h_p1) (isCt_T h_p1)) rfl rfl rfl hl.1 rfl (Nat.le_of_ble_eq_true rfl) d_5_18_11 ⟨Nat.le_of_ble_eq_true rfl, Nat.le_of_ble_eq_true rfl⟩ (fun _ H locs hP hD hS => ?_)
    have hP : va_P z.1 classes (wv z ad E M) H := hP
    have hD : va_D A (wv z ad E M) := hD
    refine W.eq (g2 := F0 m 14 ls [.int (oI r100), .ref (ad (p1 + 4)), .ref (ad 189)]) rfl ?_
    obtain ⟨M101, g101, h⟩ := bd_e h
    refine kVN (As := [.ref (ad (p1 + 4)), .int (oI r100)]) (rest := []) (s_Na_load l z ad E M 189 (p1 + 4) r100 M101 hL g101) hx hb hml hown hts w_618 n_615 w_617 w_s_37d15a w_9 md_9916ed ⟨Nat.le_of_ble_eq_true rfl, Nat.le_of_ble_eq_true rfl⟩ hG hZ hP hD hS hA 189 (wv_o (ci := 8) (yi_189 hL) (yt_189 hL)) rfl rfl rfl hl.1 rfl (Nat.le_of_ble_eq_true rfl) d_5_18_14 ⟨Nat.le_of_ble_eq_true rfl, Nat.le_of_ble_eq_true rfl⟩ (fun _ H locs hP hD hS => ?_)
    have hP : va_P z.1 classes (wv z ad E M101) H := hP
    have hD : va_D A (wv z ad E M101) := hD
    refine W.eq (g2 := F0 m 17 ls []) rfl ?_
    refine lv_aload_n hx hb d_5_18_17 rfl (lv_at hl 0 rfl) ?_
    refine m_gr (j := 191) (C := "Ballothall$Counting") (T := TX3) (N := 15) (ci := 3) (k := 10) hx hb hts iX3 hown hG hP (yi_179 hL) (yt_179 hL) rfl (by decide) w_314 (fun _ h9 => h9) rfl rfl (yr_179_10 hL) d_5_18_18 ?_
    refine lv_aload_n hx hb d_5_18_21 rfl (lv_at hl 1 rfl) ?_
    refine m_grN (j := (p1 + 4)) (C := "Ballothall$Count") (T := TX2) (N := 10) (ci := 2) (k := 9) hx hb hts iX2 hown hG hP (isCt_i h_p1) (isCt_T h_p1) rfl (by decide) n_1099 rfl (fun _ h9 => h9) rfl rfl (isCt_r9 h_p1) d_5_18_22 ?_
    refine lv_aload_n hx hb d_5_18_25 rfl (lv_at hl 1 rfl) ?_
    refine lv_iload_n hx hb d_5_18_26 rfl (lv_at hl 2 rfl) ?_
    refine lv_bipush (v := oI 9) hx hb d_5_18_27 (by decide +kernel) ?_
    obtain ⟨r102, g102, h⟩ := bd_e h
    refine kVN (As := [.int (oI x2), .int (oI 9)]) (rest := [.ref (ad (p1 + 4)), .ref (ad 191)]) (s_Ct_placeOf l z ad E M101 p1 x2 9 r102 hL g102) hx hb hml hown hts w_614 n_610 w_612 w_s_4a352f w_29 md_4ba11b ⟨Nat.le_of_ble_eq_true rfl, Nat.le_of_ble_eq_true rfl⟩ hG hZ hP hD hS hA p1 (wv_o (ci := 2) (isCt_i h_p1) (isCt_T h_p1)) rfl rfl rfl hl.1 rfl (Nat.le_of_ble_eq_true rfl) d_5_18_29 ⟨Nat.le_of_ble_eq_true rfl, Nat.le_of_ble_eq_true rfl⟩ (fun _ H locs hP hD hS => ?_)
    have hP : va_P z.1 classes (wv z ad E M101) H := hP
    have hD : va_D A (wv z ad E M101) := hD
    refine W.eq (g2 := F0 m 32 ls [.int (oI r102), .ref (ad (p1 + 4)), .ref (ad 191)]) rfl ?_
    obtain ⟨M103, g103, h⟩ := bd_e h
    refine kVN (As := [.ref (ad (p1 + 4)), .int (oI r102)]) (rest := []) (s_Na_load l z ad E M101 191 (p1 + 4) r102 M103 hL g103) hx hb hml hown hts w_618 n_615 w_617 w_s_37d15a w_9 md_9916ed ⟨Nat.le_of_ble_eq_true rfl, Nat.le_of_ble_eq_true rfl⟩ hG hZ hP hD hS hA 191 (wv_o (ci := 8) (yi_191 hL) (yt_191 hL)) rfl rfl rfl hl.1 rfl (Nat.le_of_ble_eq_true rfl) d_5_18_32 ⟨Nat.le_of_ble_eq_true rfl, Nat.le_of_ble_eq_true rfl⟩ (fun _ H locs hP hD hS => ?_)
    have hP : va_P z.1 classes (wv z ad E M103) H := hP
    have hD : va_D A (wv z ad E M103) := hD
    refine W.eq (g2 := F0 m 35 ls []) rfl ?_
    obtain rfl := in1 h
    exact W.vret hx hb hr (fun t ht hW => qkA hP hD hS (fun k => k) rfl rfl ht) hS.2.2 d_5_18_35
  exact key _ _ _ hts hP hS
set_option maxRecDepth 100000 in
set_option maxHeartbeats 4000000 in
theorem s_B_appendByte (l : Launch) (z : Zz) (ad : Nat → Nat) (E : Ev) (M : Mm) (x1 : Int) (N : Mm) (hL : Lay E) (h : f_B_appendByte E M x1 = some N) : CT l z ⟨"Ballothall", "appendByte", "(I)V"⟩ prog_1_method_63_code 2 none [.ref (ad 1), .int (oI x1)] (wv z ad E M) 0 20 0 0 (fun _ => none) (fun _ => (wv z ad E N)) := by
  refine CT.of (own := "Ballothall") (by decide +kernel) (Nat.le_of_ble_eq_true rfl) rfl (fun p e s m below meth c A ls hx hb hml hr hts hown hlocks hin hA hG hZ hP hD hS hl => ?_)
  have hl : lv_has ls 2 [(0, .ref (ad 1)), (1, .int (oI x1))] := hl
  have key : ∀ (H : Heap) (locs : List Loc) (args : Array Value), (∀ w ∈ WG, w.before args s = true) → va_P z.1 classes (wv z ad E M) H → va_S A s.heap H locs → W p l e (rmK 0 20 0 0) s m args below meth c H locs 0 0 (MQ below (QK z A (fun _ => none) (fun _ => (wv z ad E N))) args s 0 0 A) (F0 m 0 ls []) := by
    intro H locs args hts hP hS
    unfold f_B_appendByte at h
    refine lv_aload_n hx hb d_1_63_0 rfl (lv_at hl 0 rfl) ?_
    refine m_gi (C := "Ballothall") (T := TX11) (N := 14) (ci := 11) (k := 13) hx hb hts iX11 hown hG hP (yi_1 hL) (yt_1 hL) rfl (by decide) w_410 (fun _ h9 => h9) rfl rfl d_1_63_1 ?_
    refine lv_aload_n hx hb d_1_63_4 rfl (lv_at hl 0 rfl) ?_
    refine m_gr (j := 249) (C := "Ballothall") (T := TX11) (N := 14) (ci := 11) (k := 12) hx hb hts iX11 hown hG hP (yi_1 hL) (yt_1 hL) rfl (by decide) w_409 (fun _ h9 => h9) rfl rfl (yr_1_12 hL) d_1_63_5 ?_
    refine m_len (v := 240) hx hb hG hP (yi_249 hL) (yt_249 hL) (by decide +kernel) d_1_63_8 ?_
    obtain ⟨ok100, h⟩ := ck_e h
    refine lv_icmp_ge (tgt := 32) hx hb d_1_63_9 (by decide) (fun c9 => ?_) (fun c9 => ?_)
    · have h := ite_t ((oI_le (a := (240 : Int)) (b := (M 1 13)) (by decide) ok100).mp c9) h
      obtain rfl := in1 h
      exact W.vret hx hb hr (fun t ht hW => qkA hP hD hS (fun k => k) rfl rfl ht) hS.2.2 d_1_63_32
    · have h := ite_f (fun q => c9 ((oI_le (a := (240 : Int)) (b := (M 1 13)) (by decide) ok100).mpr q)) h
      refine lv_aload_n hx hb d_1_63_12 rfl (lv_at hl 0 rfl) ?_
      refine m_gr (j := 249) (C := "Ballothall") (T := TX11) (N := 14) (ci := 11) (k := 12) hx hb hts iX11 hown hG hP (yi_1 hL) (yt_1 hL) rfl (by decide) w_409 (fun _ h9 => h9) rfl rfl (yr_1_12 hL) d_1_63_13 ?_
      refine lv_aload_n hx hb d_1_63_16 rfl (lv_at hl 0 rfl) ?_
      refine m_gi (C := "Ballothall") (T := TX11) (N := 14) (ci := 11) (k := 13) hx hb hts iX11 hown hG hP (yi_1 hL) (yt_1 hL) rfl (by decide) w_410 (fun _ h9 => h9) rfl rfl d_1_63_17 ?_
      refine lv_iload_n hx hb d_1_63_20 rfl (lv_at hl 1 rfl) ?_
      obtain ⟨ok101, h⟩ := ck_e h
      refine m_is hx hb hG hP hD hS (yi_249 hL) (yt_249 hL) ok101 d_1_63_21 (fun H locs hP hD hS => ?_)
      have hP : va_P z.1 classes (wv z ad E (u2 M 249 (M 1 13).toNat x1)) H := hP
      have hD : va_D A (wv z ad E (u2 M 249 (M 1 13).toNat x1)) := hD
      refine lv_aload_n hx hb d_1_63_22 rfl (lv_at hl 0 rfl) ?_
      refine lv_dup hx hb d_1_63_23 rfl ?_
      refine m_gi (C := "Ballothall") (T := TX11) (N := 14) (ci := 11) (k := 13) hx hb hts iX11 hown hG hP (yi_1 hL) (yt_1 hL) rfl (by decide) w_410 (fun _ h9 => h9) rfl rfl d_1_63_24 ?_
      refine lv_iconst (v := oI 1) hx hb d_1_63_27 (by decide +kernel) ?_
      refine lv_iadd hx hb d_1_63_28 ?_
      refine nrm (oI_add _ _) ?_
      refine m_pi (C := "Ballothall") (T := TX11) (N := 14) (ci := 11) (k := 13) (ty := .int) hx hb hts iX11 hown hG hP hD hS (yi_1 hL) (yt_1 hL) rfl (by decide) w_410 (fun _ h9 => h9) rfl rfl tyX11_ok nmX11 rfl (by decide +kernel) rfl rfl d_1_63_29 (fun H locs hP hD hS => ?_)
      have hP : va_P z.1 classes (wv z ad E (u2 (u2 M 249 (M 1 13).toNat x1) 1 13 (((u2 M 249 (M 1 13).toNat x1) 1 13) + 1))) H := hP
      have hD : va_D A (wv z ad E (u2 (u2 M 249 (M 1 13).toNat x1) 1 13 (((u2 M 249 (M 1 13).toNat x1) 1 13) + 1))) := hD
      obtain rfl := in1 h
      exact W.vret hx hb hr (fun t ht hW => qkA hP hD hS (fun k => k) rfl rfl ht) hS.2.2 d_1_63_32
  exact key _ _ _ hts hP hS
set_option maxRecDepth 100000 in
set_option maxHeartbeats 4000000 in
theorem b_B_appendNumber_20b (l : Launch) (z : Zz) (ad : Nat → Nat) (E : Ev) (M : Mm) (q1 : Nat) (x2 : Int) (x3 : Int) (t : Nat) (w3 : Int) (N : Mm) {Q : State → Prop} {p : Program} {e : Env} {s : State} {m : MethodId} {below : List Frame} {meth : Method} {c : Code} {A : Nat → Prop} {args : Array Value} (hx : p.tables.exec = Jvm.exec) (hb : c.code = prog_1_method_64_code) (hml : c.maxLocals = 6) (hts : ∀ w ∈ WG, w.before args s = true) (hown : s.vm.findClass "Ballothall" = some m.cls) (hlocks : meth.locks = false) (hA : ∀ q, s.heap.size ≤ q → A q) (hG : KG z s) (hZ : FZ z A s) (hL : Lay E) (h : B_appendNumber_20b E M q1 x2 x3 = some (t, w3, N)) (k0 : t = 0 → ∀ (H : Heap) (locs : List Loc) (ls : Array Slot), va_P z.1 classes (wv z ad E N) H → va_D A (wv z ad E N) → va_S A s.heap H locs → lv_has ls 6 [(0, .ref (ad 1)), (1, .ref (ad q1)), (2, .int (oI x2)), (3, .int (oI w3))] → W p l e (rmK 3 87 0 0) s m args below meth c H locs 0 0 Q (F0 m 20 ls [])) (k1 : t = 1 → ∀ (H : Heap) (locs : List Loc) (ls : Array Slot), va_P z.1 classes (wv z ad E N) H → va_D A (wv z ad E N) → va_S A s.heap H locs → lv_has ls 6 [(0, .ref (ad 1)), (2, .int (oI x2))] → W p l e (rmK 3 87 0 0) s m args below meth c H locs 0 0 Q (F0 m 53 ls [])) : ∀ (H : Heap) (locs : List Loc) (ls : Array Slot), va_P z.1 classes (wv z ad E M) H → va_D A (wv z ad E M) → va_S A s.heap H locs → lv_has ls 6 [(0, .ref (ad 1)), (1, .ref (ad q1)), (2, .int (oI x2)), (3, .int (oI x3))] → W p l e (rmK 3 87 0 0) s m args below meth c H locs 0 0 Q (F0 m 20 ls []) := by
  intro H locs ls hP hD hS hl
  unfold B_appendNumber_20b at h
  obtain ⟨h_q1, h⟩ := ck_e h
  refine lv_iload_n hx hb d_1_64_20 rfl (lv_at hl 3 rfl) ?_
  refine lv_sipush (v := oI 240) hx hb d_1_64_21 (by decide +kernel) ?_
  obtain ⟨ok102, h⟩ := ck_e h
  refine lv_icmp_ge (tgt := 53) hx hb d_1_64_24 (by decide) (fun c9 => ?_) (fun c9 => ?_)
  · have h := ite_t ((oI_le (a := (240 : Int)) (b := x3) (by decide) ok102).mp c9) h
    obtain ⟨rfl, rfl, rfl⟩ := in3 h
    exact k1 rfl H locs ls hP hD hS (lv_sub hl [0, 2] rfl)
  · have h := ite_f (fun q => c9 ((oI_le (a := (240 : Int)) (b := x3) (by decide) ok102).mpr q)) h
    refine lv_aload_n hx hb d_1_64_27 rfl (lv_at hl 1 rfl) ?_
    refine m_giN (C := "Ballothall$Natural") (T := TX8) (N := 2) (ci := 8) (k := 1) hx hb hts iX8 hown hG hP (isNa_i h_q1) (isNa_T h_q1) rfl (by decide) n_297 rfl (fun _ h9 => h9) rfl rfl d_1_64_28 ?_
    obtain ⟨ok103, h⟩ := ck_e h
    refine lv_if_le (tgt := 53) hx hb d_1_64_31 (by decide) (fun c9 => ?_) (fun c9 => ?_)
    · have h := ite_t ((oI_le0 ok103).mp c9) h
      obtain ⟨rfl, rfl, rfl⟩ := in3 h
      exact k1 rfl H locs ls hP hD hS (lv_sub hl [0, 2] rfl)
    · have h := ite_f (fun q => c9 ((oI_le0 ok103).mpr q)) h
      refine lv_aload_n hx hb d_1_64_34 rfl (lv_at hl 0 rfl) ?_
      refine lv_bipush (v := oI 48) hx hb d_1_64_35 (by decide +kernel) ?_
      refine lv_aload_n hx hb d_1_64_37 rfl (lv_at hl 1 rfl) ?_
      refine lv_bipush (v := oI 10) hx hb d_1_64_38 (by decide +kernel) ?_
      obtain ⟨⟨r104, M104⟩, g104, h⟩ := bd_e h
      refine kVN (As := [.int (oI 10)]) (rest := [.int (oI 48), .ref (ad 1)]) (s_Na_divideSmall l z ad E M q1 10 r104 M104 hL g104) hx hb hml hown hts w_1142 n_1277 w_1141 w_s_b783c0 w_9 md_e931a9 ⟨Nat.le_of_ble_eq_true rfl, Nat.le_of_ble_eq_true rfl⟩ hG hZ hP hD hS hA q1 (wv_o (ci := 8) (isNa_i h_q1) (isNa_T h_q1)) rfl rfl rfl hl.1 rfl (Nat.le_of_ble_eq_true rfl) d_1_64_40 ⟨Nat.le_of_ble_eq_true rfl, Nat.le_of_ble_eq_true rfl⟩ (fun _ H locs hP hD hS => ?_)
      have hP : va_P z.1 classes (wv z ad E M104) H := hP
      have hD : va_D A (wv z ad E M104) := hD
      refine W.eq (g2 := F0 m 43 ls [.int (oI r104), .int (oI 48), .ref (ad 1)]) rfl ?_
      refine lv_iadd hx hb d_1_64_43 ?_
      refine nrm (oI_add _ _) ?_
      obtain ⟨M105, g105, h⟩ := bd_e h
      refine kV (As := [.int (oI (48 + r104))]) (rest := []) (s_B_appendByte l z ad E M104 (48 + r104) M105 hL g105) hx hb hml hown hts w_1281 w_1278 w_1280 w_s_8ff029 w_1 md_b238c2 ⟨Nat.le_of_ble_eq_true rfl, Nat.le_of_ble_eq_true rfl⟩ hG hZ hP hD hS hA 1 (wv_o (ci := 11) (yi_1 hL) (yt_1 hL)) rfl rfl rfl hl.1 rfl (Nat.le_of_ble_eq_true rfl) d_1_64_44 ⟨Nat.le_of_ble_eq_true rfl, Nat.le_of_ble_eq_true rfl⟩ (fun _ H locs hP hD hS => ?_)
      have hP : va_P z.1 classes (wv z ad E M105) H := hP
      have hD : va_D A (wv z ad E M105) := hD
      refine W.eq (g2 := F0 m 47 ls []) rfl ?_
      refine lv_iinc (v := oI (x3 + 1)) (lv' := [(3, .int (oI (x3 + 1))), (0, .ref (ad 1)), (1, .ref (ad q1)), (2, .int (oI x2))]) hx hb d_1_64_47 hl (k := 3) rfl (oI_add x3 1) (by decide) rfl (fun ls hl => ?_)
      refine lv_goto (tgt := 20) hx hb d_1_64_50 (by decide) ?_
      obtain ⟨rfl, rfl, rfl⟩ := in3 h
      exact k0 rfl H locs ls hP hD hS (lv_sub hl [1, 2, 3, 0] rfl)
set_option maxRecDepth 100000 in
set_option maxHeartbeats 4000000 in
theorem s_B_appendNumber_20 (l : Launch) (z : Zz) (ad : Nat → Nat) (E : Ev) (q1 : Nat) (x2 : Int) {Q : State → Prop} {p : Program} {e : Env} {s : State} {m : MethodId} {below : List Frame} {meth : Method} {c : Code} {A : Nat → Prop} {args : Array Value} (hx : p.tables.exec = Jvm.exec) (hb : c.code = prog_1_method_64_code) (hml : c.maxLocals = 6) (hts : ∀ w ∈ WG, w.before args s = true) (hown : s.vm.findClass "Ballothall" = some m.cls) (hlocks : meth.locks = false) (hA : ∀ q, s.heap.size ≤ q → A q) (hG : KG z s) (hZ : FZ z A s) (hL : Lay E) : ∀ (fu : Nat) (M : Mm) (x3 : Int) (t : Nat) (w3 : Int) (N : Mm), l_B_appendNumber_20 E q1 x2 fu M x3 = some (t, w3, N) → (t = 1 → ∀ (H : Heap) (locs : List Loc) (ls : Array Slot), va_P z.1 classes (wv z ad E N) H → va_D A (wv z ad E N) → va_S A s.heap H locs → lv_has ls 6 [(0, .ref (ad 1)), (2, .int (oI x2))] → W p l e (rmK 3 87 0 0) s m args below meth c H locs 0 0 Q (F0 m 53 ls [])) → ∀ (H : Heap) (locs : List Loc) (ls : Array Slot), va_P z.1 classes (wv z ad E M) H → va_D A (wv z ad E M) → va_S A s.heap H locs → lv_has ls 6 [(0, .ref (ad 1)), (1, .ref (ad q1)), (2, .int (oI x2)), (3, .int (oI x3))] → W p l e (rmK 3 87 0 0) s m args below meth c H locs 0 0 Q (F0 m 20 ls []) := by
  intro fu
  induction fu with
  | zero =>
    intro M x3 t w3 N h
    have h : (none : Option (Nat × Int × Mm)) = some _ := h
    cases h
  | succ fu ih =>
    intro M x3 t w3 N h k1 H locs ls hP hD hS hl
    obtain ⟨⟨t0, w30, N9⟩, g0, h⟩ := bd_e h
    refine b_B_appendNumber_20b l z ad E M q1 x2 x3 t0 w30 N9 hx hb hml hts hown hlocks hA hG hZ hL g0 (fun e0 => ?_) (fun e0 => ?_) H locs ls hP hD hS hl
    · subst e0
      have h := ite_t rfl h
      exact ih N9 w30 t w3 N h k1
    · subst e0
      have h := ite_f (by decide) h
      obtain ⟨rfl, rfl, rfl⟩ := in3 h
      exact k1 rfl
set_option maxRecDepth 100000 in
set_option maxHeartbeats 4000000 in
theorem b_B_appendNumber_63b (l : Launch) (z : Zz) (ad : Nat → Nat) (E : Ev) (M : Mm) (x3 : Int) (x4 : Int) (t : Nat) (w3 : Int) (w4 : Int) (N : Mm) {Q : State → Prop} {p : Program} {e : Env} {s : State} {m : MethodId} {below : List Frame} {meth : Method} {c : Code} {A : Nat → Prop} {args : Array Value} (hx : p.tables.exec = Jvm.exec) (hb : c.code = prog_1_method_64_code) (hml : c.maxLocals = 6) (hts : ∀ w ∈ WG, w.before args s = true) (hown : s.vm.findClass "Ballothall" = some m.cls) (hlocks : meth.locks = false) (hA : ∀ q, s.heap.size ≤ q → A q) (hG : KG z s) (hZ : FZ z A s) (hL : Lay E) (h : B_appendNumber_63b E M x3 x4 = some (t, w3, w4, N)) (k0 : t = 0 → ∀ (H : Heap) (locs : List Loc) (ls : Array Slot), va_P z.1 classes (wv z ad E N) H → va_D A (wv z ad E N) → va_S A s.heap H locs → lv_has ls 6 [(0, .ref (ad 1)), (3, .int (oI w3)), (4, .int (oI w4))] → W p l e (rmK 3 87 0 0) s m args below meth c H locs 0 0 Q (F0 m 63 ls [])) (k1 : t = 1 → ∀ (H : Heap) (locs : List Loc) (ls : Array Slot), va_P z.1 classes (wv z ad E N) H → va_D A (wv z ad E N) → va_S A s.heap H locs → lv_has ls 6 [] → W p l e (rmK 3 87 0 0) s m args below meth c H locs 0 0 Q (F0 m 108 ls [])) : ∀ (H : Heap) (locs : List Loc) (ls : Array Slot), va_P z.1 classes (wv z ad E M) H → va_D A (wv z ad E M) → va_S A s.heap H locs → lv_has ls 6 [(0, .ref (ad 1)), (3, .int (oI x3)), (4, .int (oI x4))] → W p l e (rmK 3 87 0 0) s m args below meth c H locs 0 0 Q (F0 m 63 ls []) := by
  intro H locs ls hP hD hS hl
  unfold B_appendNumber_63b at h
  refine lv_iload_n hx hb d_1_64_63 rfl (lv_at hl 1 rfl) ?_
  refine lv_iload hx hb d_1_64_64 (lv_at hl 2 rfl) ?_
  obtain ⟨ok107, h⟩ := ck_e h
  obtain ⟨ok108, h⟩ := ck_e h
  refine lv_icmp_ge (tgt := 108) hx hb d_1_64_66 (by decide) (fun c9 => ?_) (fun c9 => ?_)
  · have h := ite_t ((oI_le (a := x4) (b := x3) ok108 ok107).mp c9) h
    obtain ⟨rfl, rfl, rfl, rfl⟩ := in4 h
    exact k1 rfl H locs ls hP hD hS (lv_sub hl [] rfl)
  · have h := ite_f (fun q => c9 ((oI_le (a := x4) (b := x3) ok108 ok107).mpr q)) h
    refine lv_aload_n hx hb d_1_64_69 rfl (lv_at hl 0 rfl) ?_
    refine m_gr (j := 249) (C := "Ballothall") (T := TX11) (N := 14) (ci := 11) (k := 12) hx hb hts iX11 hown hG hP (yi_1 hL) (yt_1 hL) rfl (by decide) w_409 (fun _ h9 => h9) rfl rfl (yr_1_12 hL) d_1_64_70 ?_
    refine lv_iload_n hx hb d_1_64_73 rfl (lv_at hl 1 rfl) ?_
    obtain ⟨ok109, h⟩ := ck_e h
    refine m_ia hx hb hG hP (yi_249 hL) (yt_249 hL) ok109 d_1_64_74 ?_
    refine lv_istore (lv' := [(5, .int (oI (M 249 x3.toNat))), (0, .ref (ad 1)), (3, .int (oI x3)), (4, .int (oI x4))]) hx hb d_1_64_75 hl (by decide) rfl (fun ls hl => ?_)
    refine lv_aload_n hx hb d_1_64_77 rfl (lv_at hl 1 rfl) ?_
    refine m_gr (j := 249) (C := "Ballothall") (T := TX11) (N := 14) (ci := 11) (k := 12) hx hb hts iX11 hown hG hP (yi_1 hL) (yt_1 hL) rfl (by decide) w_409 (fun _ h9 => h9) rfl rfl (yr_1_12 hL) d_1_64_78 ?_
    refine lv_iload_n hx hb d_1_64_81 rfl (lv_at hl 2 rfl) ?_
    refine lv_aload_n hx hb d_1_64_82 rfl (lv_at hl 1 rfl) ?_
    refine m_gr (j := 249) (C := "Ballothall") (T := TX11) (N := 14) (ci := 11) (k := 12) hx hb hts iX11 hown hG hP (yi_1 hL) (yt_1 hL) rfl (by decide) w_409 (fun _ h9 => h9) rfl rfl (yr_1_12 hL) d_1_64_83 ?_
    refine lv_iload hx hb d_1_64_86 (lv_at hl 3 rfl) ?_
    obtain ⟨ok110, h⟩ := ck_e h
    refine m_ia hx hb hG hP (yi_249 hL) (yt_249 hL) ok110 d_1_64_88 ?_
    refine m_is hx hb hG hP hD hS (yi_249 hL) (yt_249 hL) ok109 d_1_64_89 (fun H locs hP hD hS => ?_)
    have hP : va_P z.1 classes (wv z ad E (u2 M 249 x3.toNat (M 249 x4.toNat))) H := hP
    have hD : va_D A (wv z ad E (u2 M 249 x3.toNat (M 249 x4.toNat))) := hD
    refine lv_aload_n hx hb d_1_64_90 rfl (lv_at hl 1 rfl) ?_
    refine m_gr (j := 249) (C := "Ballothall") (T := TX11) (N := 14) (ci := 11) (k := 12) hx hb hts iX11 hown hG hP (yi_1 hL) (yt_1 hL) rfl (by decide) w_409 (fun _ h9 => h9) rfl rfl (yr_1_12 hL) d_1_64_91 ?_
    refine lv_iload hx hb d_1_64_94 (lv_at hl 3 rfl) ?_
    refine lv_iload hx hb d_1_64_96 (lv_at hl 0 rfl) ?_
    refine m_is hx hb hG hP hD hS (yi_249 hL) (yt_249 hL) ok110 d_1_64_98 (fun H locs hP hD hS => ?_)
    have hP : va_P z.1 classes (wv z ad E (u2 (u2 M 249 x3.toNat (M 249 x4.toNat)) 249 x4.toNat (M 249 x3.toNat))) H := hP
    have hD : va_D A (wv z ad E (u2 (u2 M 249 x3.toNat (M 249 x4.toNat)) 249 x4.toNat (M 249 x3.toNat))) := hD
    refine lv_iinc (v := oI (x3 + 1)) (lv' := [(3, .int (oI (x3 + 1))), (5, .int (oI (M 249 x3.toNat))), (0, .ref (ad 1)), (4, .int (oI x4))]) hx hb d_1_64_99 hl (k := 2) rfl (oI_add x3 1) (by decide) rfl (fun ls hl => ?_)
    refine lv_iinc (v := oI (x4 + (-1))) (lv' := [(4, .int (oI (x4 + (-1)))), (3, .int (oI (x3 + 1))), (5, .int (oI (M 249 x3.toNat))), (0, .ref (ad 1))]) hx hb d_1_64_102 hl (k := 3) rfl (oI_add x4 (-1)) (by decide) rfl (fun ls hl => ?_)
    refine lv_goto (tgt := 63) hx hb d_1_64_105 (by decide) ?_
    obtain ⟨rfl, rfl, rfl, rfl⟩ := in4 h
    exact k0 rfl H locs ls hP hD hS (lv_sub hl [3, 1, 0] rfl)
set_option maxRecDepth 100000 in
set_option maxHeartbeats 4000000 in
theorem s_B_appendNumber_63 (l : Launch) (z : Zz) (ad : Nat → Nat) (E : Ev) {Q : State → Prop} {p : Program} {e : Env} {s : State} {m : MethodId} {below : List Frame} {meth : Method} {c : Code} {A : Nat → Prop} {args : Array Value} (hx : p.tables.exec = Jvm.exec) (hb : c.code = prog_1_method_64_code) (hml : c.maxLocals = 6) (hts : ∀ w ∈ WG, w.before args s = true) (hown : s.vm.findClass "Ballothall" = some m.cls) (hlocks : meth.locks = false) (hA : ∀ q, s.heap.size ≤ q → A q) (hG : KG z s) (hZ : FZ z A s) (hL : Lay E) : ∀ (fu : Nat) (M : Mm) (x3 : Int) (x4 : Int) (t : Nat) (w3 : Int) (w4 : Int) (N : Mm), l_B_appendNumber_63 E fu M x3 x4 = some (t, w3, w4, N) → (t = 1 → ∀ (H : Heap) (locs : List Loc) (ls : Array Slot), va_P z.1 classes (wv z ad E N) H → va_D A (wv z ad E N) → va_S A s.heap H locs → lv_has ls 6 [] → W p l e (rmK 3 87 0 0) s m args below meth c H locs 0 0 Q (F0 m 108 ls [])) → ∀ (H : Heap) (locs : List Loc) (ls : Array Slot), va_P z.1 classes (wv z ad E M) H → va_D A (wv z ad E M) → va_S A s.heap H locs → lv_has ls 6 [(0, .ref (ad 1)), (3, .int (oI x3)), (4, .int (oI x4))] → W p l e (rmK 3 87 0 0) s m args below meth c H locs 0 0 Q (F0 m 63 ls []) := by
  intro fu
  induction fu with
  | zero =>
    intro M x3 x4 t w3 w4 N h
    have h : (none : Option (Nat × Int × Int × Mm)) = some _ := h
    cases h
  | succ fu ih =>
    intro M x3 x4 t w3 w4 N h k1 H locs ls hP hD hS hl
    obtain ⟨⟨t0, w30, w40, N9⟩, g0, h⟩ := bd_e h
    refine b_B_appendNumber_63b l z ad E M x3 x4 t0 w30 w40 N9 hx hb hml hts hown hlocks hA hG hZ hL g0 (fun e0 => ?_) (fun e0 => ?_) H locs ls hP hD hS hl
    · subst e0
      have h := ite_t rfl h
      exact ih N9 w30 w40 t w3 w4 N h k1
    · subst e0
      have h := ite_f (by decide) h
      obtain ⟨rfl, rfl, rfl, rfl⟩ := in4 h
      exact k1 rfl
set_option maxRecDepth 100000 in
set_option maxHeartbeats 4000000 in
theorem s_B_appendNumber (l : Launch) (z : Zz) (ad : Nat → Nat) (E : Ev) (M : Mm) (p1 : Nat) (N : Mm) (hL : Lay E) (h : f_B_appendNumber E M p1 = some N) : CT l z ⟨"Ballothall", "appendNumber", "(LBallothall$Natural;)V"⟩ prog_1_method_64_code 6 none [.ref (ad 1), .ref (ad p1)] (wv z ad E M) 3 87 0 0 (fun _ => none) (fun _ => (wv z ad E N)) := by
  refine CT.of (own := "Ballothall") (by decide +kernel) (Nat.le_of_ble_eq_true rfl) rfl (fun p e s m below meth c A ls hx hb hml hr hts hown hlocks hin hA hG hZ hP hD hS hl => ?_)
  have hl : lv_has ls 6 [(0, .ref (ad 1)), (1, .ref (ad p1))] := hl
  have key : ∀ (H : Heap) (locs : List Loc) (args : Array Value), (∀ w ∈ WG, w.before args s = true) → va_P z.1 classes (wv z ad E M) H → va_S A s.heap H locs → W p l e (rmK 3 87 0 0) s m args below meth c H locs 0 0 (MQ below (QK z A (fun _ => none) (fun _ => (wv z ad E N))) args s 0 0 A) (F0 m 0 ls []) := by
    intro H locs args hts hP hS
    unfold f_B_appendNumber at h
    obtain ⟨h_p1, h⟩ := ck_e h
    refine lv_aload_n hx hb d_1_64_0 rfl (lv_at hl 0 rfl) ?_
    refine m_gi (C := "Ballothall") (T := TX11) (N := 14) (ci := 11) (k := 13) hx hb hts iX11 hown hG hP (yi_1 hL) (yt_1 hL) rfl (by decide) w_410 (fun _ h9 => h9) rfl rfl d_1_64_1 ?_
    refine lv_istore_n (lv' := [(2, .int (oI (M 1 13))), (0, .ref (ad 1)), (1, .ref (ad p1))]) hx hb d_1_64_4 rfl hl (by decide) rfl (fun ls hl => ?_)
    refine lv_aload_n hx hb d_1_64_5 rfl (lv_at hl 1 rfl) ?_
    refine lv_bipush (v := oI 48) hx hb d_1_64_6 (by decide +kernel) ?_
    refine lv_aload_n hx hb d_1_64_8 rfl (lv_at hl 2 rfl) ?_
    refine lv_bipush (v := oI 10) hx hb d_1_64_9 (by decide +kernel) ?_
    obtain ⟨⟨r100, M100⟩, g100, h⟩ := bd_e h
    refine kVN (As := [.int (oI 10)]) (rest := [.int (oI 48), .ref (ad 1)]) (s_Na_divideSmall l z ad E M p1 10 r100 M100 hL g100) hx hb hml hown hts w_1142 n_1277 w_1141 w_s_b783c0 w_9 md_e931a9 ⟨Nat.le_of_ble_eq_true rfl, Nat.le_of_ble_eq_true rfl⟩ hG hZ hP hD hS hA p1 (wv_o (ci := 8) (isNa_i h_p1) (isNa_T h_p1)) rfl rfl rfl hl.1 rfl (Nat.le_of_ble_eq_true rfl) d_1_64_11 ⟨Nat.le_of_ble_eq_true rfl, Nat.le_of_ble_eq_true rfl⟩ (fun _ H locs hP hD hS => ?_)
    have hP : va_P z.1 classes (wv z ad E M100) H := hP
    have hD : va_D A (wv z ad E M100) := hD
    refine W.eq (g2 := F0 m 14 ls [.int (oI r100), .int (oI 48), .ref (ad 1)]) rfl ?_
    refine lv_iadd hx hb d_1_64_14 ?_
    refine nrm (oI_add _ _) ?_
    obtain ⟨M101, g101, h⟩ := bd_e h
    refine kV (As := [.int (oI (48 + r100))]) (rest := []) (s_B_appendByte l z ad E M100 (48 + r100) M101 hL g101) hx hb hml hown hts w_1281 w_1278 w_1280 w_s_8ff029 w_1 md_b238c2 ⟨Nat.le_of_ble_eq_true rfl, Nat.le_of_ble_eq_true rfl⟩ hG hZ hP hD hS hA 1 (wv_o (ci := 11) (yi_1 hL) (yt_1 hL)) rfl rfl rfl hl.1 rfl (Nat.le_of_ble_eq_true rfl) d_1_64_15 ⟨Nat.le_of_ble_eq_true rfl, Nat.le_of_ble_eq_true rfl⟩ (fun _ H locs hP hD hS => ?_)
    have hP : va_P z.1 classes (wv z ad E M101) H := hP
    have hD : va_D A (wv z ad E M101) := hD
    refine W.eq (g2 := F0 m 18 ls []) rfl ?_
    refine lv_iconst (v := oI 1) hx hb d_1_64_18 (by decide +kernel) ?_
    refine lv_istore_n (lv' := [(3, .int (oI 1)), (2, .int (oI (M 1 13))), (0, .ref (ad 1)), (1, .ref (ad p1))]) hx hb d_1_64_19 rfl hl (by decide) rfl (fun ls hl => ?_)
    obtain ⟨⟨t106, v106_3, M106⟩, g106, h⟩ := bd_e h
    obtain ⟨ok106, h⟩ := ck_e h
    refine s_B_appendNumber_20 l z ad E p1 (M 1 13) hx hb hml hts hown hlocks hA hG hZ hL FU M101 1 t106 v106_3 M106 g106 (fun e106 H locs ls hP hD hS hl => ?_) H locs ls hP hD hS (lv_sub hl [2, 3, 1, 0] rfl)
    refine lv_iload_n hx hb d_1_64_53 rfl (lv_at hl 1 rfl) ?_
    refine lv_istore_n (lv' := [(3, .int (oI (M 1 13))), (0, .ref (ad 1)), (2, .int (oI (M 1 13)))]) hx hb d_1_64_54 rfl hl (by decide) rfl (fun ls hl => ?_)
    refine lv_aload_n hx hb d_1_64_55 rfl (lv_at hl 1 rfl) ?_
    refine m_gi (C := "Ballothall") (T := TX11) (N := 14) (ci := 11) (k := 13) hx hb hts iX11 hown hG hP (yi_1 hL) (yt_1 hL) rfl (by decide) w_410 (fun _ h9 => h9) rfl rfl d_1_64_56 ?_
    refine lv_iconst (v := oI 1) hx hb d_1_64_59 (by decide +kernel) ?_
    refine lv_isub hx hb d_1_64_60 ?_
    refine nrm (oI_sub _ _) ?_
    refine lv_istore (lv' := [(4, .int (oI ((M106 1 13) - 1))), (3, .int (oI (M 1 13))), (0, .ref (ad 1)), (2, .int (oI (M 1 13)))]) hx hb d_1_64_61 hl (by decide) rfl (fun ls hl => ?_)
    obtain ⟨⟨t111, v111_3, v111_4, M111⟩, g111, h⟩ := bd_e h
    obtain ⟨ok111, h⟩ := ck_e h
    refine s_B_appendNumber_63 l z ad E hx hb hml hts hown hlocks hA hG hZ hL FU M106 (M 1 13) ((M106 1 13) - 1) t111 v111_3 v111_4 M111 g111 (fun e111 H locs ls hP hD hS hl => ?_) H locs ls hP hD hS (lv_sub hl [2, 1, 0] rfl)
    obtain rfl := in1 h
    exact W.vret hx hb hr (fun t ht hW => qkA hP hD hS (fun k => k) rfl rfl ht) hS.2.2 d_1_64_108
  exact key _ _ _ hts hP hS
set_option maxRecDepth 100000 in
set_option maxHeartbeats 4000000 in
theorem b_B_writePile_j72 (l : Launch) (z : Zz) (ad : Nat → Nat) (E : Ev) (M : Mm) (y0 : Int) (y1 : Int) (y2 : Nat) (r : Int) (N : Mm) {p : Program} {e : Env} {s : State} {m : MethodId} {below : List Frame} {meth : Method} {c : Code} {A : Nat → Prop} {args : Array Value} (hx : p.tables.exec = Jvm.exec) (hb : c.code = prog_1_method_22_code) (hml : c.maxLocals = 4) (hts : ∀ w ∈ WG, w.before args s = true) (hown : s.vm.findClass "Ballothall" = some m.cls) (hlocks : meth.locks = false) (hA : ∀ q, s.heap.size ≤ q → A q) (hG : KG z s) (hZ : FZ z A s) (hL : Lay E) (hr : meth.sig.returnType = (some .int)) (h : B_writePile_j72 E M y0 y1 y2 = some (r, N)) : ∀ (H : Heap) (locs : List Loc) (ls : Array Slot), va_P z.1 classes (wv z ad E M) H → va_D A (wv z ad E M) → va_S A s.heap H locs → lv_has ls 4 [(0, .ref (ad 1))] → W p l e (rmK 5 136 0 0) s m args below meth c H locs 0 0 (MQ below (QK z A (fun _ => some (.int (oI r))) (fun _ => (wv z ad E N))) args s 0 0 A) (F0 m 72 ls [.int (oI y0), .int (oI y1), .ref (ad y2), .ref (ad 179)]) := by
  intro H locs ls hP hD hS hl
  unfold B_writePile_j72 at h
  obtain ⟨h_y2, h⟩ := ck_e h
  obtain ⟨M105, g105, h⟩ := bd_e h
  refine kVN (As := [.ref (ad y2), .int (oI y1), .int (oI y0)]) (rest := []) (s_Co_loadPile l z ad E M y2 y1 y0 M105 hL g105) hx hb hml hown hts w_609 n_1271 w_608 w_s_1f7bc1 w_8 md_01358e ⟨Nat.le_of_ble_eq_true rfl, Nat.le_of_ble_eq_true rfl⟩ hG hZ hP hD hS hA 179 (wv_o (ci := 3) (yi_179 hL) (yt_179 hL)) rfl rfl rfl hl.1 rfl (Nat.le_of_ble_eq_true rfl) d_1_22_72 ⟨Nat.le_of_ble_eq_true rfl, Nat.le_of_ble_eq_true rfl⟩ (fun _ H locs hP hD hS => ?_)
  have hP : va_P z.1 classes (wv z ad E M105) H := hP
  have hD : va_D A (wv z ad E M105) := hD
  refine W.eq (g2 := F0 m 75 ls []) rfl ?_
  refine lv_aload_n hx hb d_1_22_75 rfl (lv_at hl 0 rfl) ?_
  refine m_gr (j := 179) (C := "Ballothall") (T := TX11) (N := 14) (ci := 11) (k := 4) hx hb hts iX11 hown hG hP (yi_1 hL) (yt_1 hL) rfl (by decide) w_401 (fun _ h9 => h9) rfl rfl (yr_1_4 hL) d_1_22_76 ?_
  obtain ⟨M106, g106, h⟩ := bd_e h
  refine kVN (As := []) (rest := []) (s_Co_reduce l z ad E M105 M106 hL g106) hx hb hml hown hts w_1195 n_1272 w_1194 w_s_393b57 w_8 md_3faff7 ⟨Nat.le_of_ble_eq_true rfl, Nat.le_of_ble_eq_true rfl⟩ hG hZ hP hD hS hA 179 (wv_o (ci := 3) (yi_179 hL) (yt_179 hL)) rfl rfl rfl hl.1 rfl (Nat.le_of_ble_eq_true rfl) d_1_22_79 ⟨Nat.le_of_ble_eq_true rfl, Nat.le_of_ble_eq_true rfl⟩ (fun _ H locs hP hD hS => ?_)
  have hP : va_P z.1 classes (wv z ad E M106) H := hP
  have hD : va_D A (wv z ad E M106) := hD
  refine W.eq (g2 := F0 m 82 ls []) rfl ?_
  refine lv_aload_n hx hb d_1_22_82 rfl (lv_at hl 0 rfl) ?_
  refine lv_iconst (v := oI 0) hx hb d_1_22_83 (by decide +kernel) ?_
  refine m_pi (C := "Ballothall") (T := TX11) (N := 14) (ci := 11) (k := 13) (ty := .int) hx hb hts iX11 hown hG hP hD hS (yi_1 hL) (yt_1 hL) rfl (by decide) w_410 (fun _ h9 => h9) rfl rfl tyX11_ok nmX11 rfl (by decide +kernel) rfl rfl d_1_22_84 (fun H locs hP hD hS => ?_)
  have hP : va_P z.1 classes (wv z ad E (u2 M106 1 13 0)) H := hP
  have hD : va_D A (wv z ad E (u2 M106 1 13 0)) := hD
  refine lv_aload_n hx hb d_1_22_87 rfl (lv_at hl 0 rfl) ?_
  refine lv_aload_n hx hb d_1_22_88 rfl (lv_at hl 0 rfl) ?_
  refine m_gr (j := 179) (C := "Ballothall") (T := TX11) (N := 14) (ci := 11) (k := 4) hx hb hts iX11 hown hG hP (yi_1 hL) (yt_1 hL) rfl (by decide) w_401 (fun _ h9 => h9) rfl rfl (yr_1_4 hL) d_1_22_89 ?_
  refine m_grN (j := 189) (C := "Ballothall$Counting") (T := TX3) (N := 15) (ci := 3) (k := 9) hx hb hts iX3 hown hG hP (yi_179 hL) (yt_179 hL) rfl (by decide) n_313 rfl (fun _ h9 => h9) rfl rfl (yr_179_9 hL) d_1_22_92 ?_
  obtain ⟨M107, g107, h⟩ := bd_e h
  refine kV (As := [.ref (ad 189)]) (rest := []) (s_B_appendNumber l z ad E (u2 M106 1 13 0) 189 M107 hL g107) hx hb hml hown hts w_1276 w_1273 w_1275 w_s_684333 w_1 md_60fcd1 ⟨Nat.le_of_ble_eq_true rfl, Nat.le_of_ble_eq_true rfl⟩ hG hZ hP hD hS hA 1 (wv_o (ci := 11) (yi_1 hL) (yt_1 hL)) rfl rfl rfl hl.1 rfl (Nat.le_of_ble_eq_true rfl) d_1_22_95 ⟨Nat.le_of_ble_eq_true rfl, Nat.le_of_ble_eq_true rfl⟩ (fun _ H locs hP hD hS => ?_)
  have hP : va_P z.1 classes (wv z ad E M107) H := hP
  have hD : va_D A (wv z ad E M107) := hD
  refine W.eq (g2 := F0 m 98 ls []) rfl ?_
  refine lv_aload_n hx hb d_1_22_98 rfl (lv_at hl 0 rfl) ?_
  refine m_gr (j := 179) (C := "Ballothall") (T := TX11) (N := 14) (ci := 11) (k := 4) hx hb hts iX11 hown hG hP (yi_1 hL) (yt_1 hL) rfl (by decide) w_401 (fun _ h9 => h9) rfl rfl (yr_1_4 hL) d_1_22_99 ?_
  refine m_grN (j := 191) (C := "Ballothall$Counting") (T := TX3) (N := 15) (ci := 3) (k := 10) hx hb hts iX3 hown hG hP (yi_179 hL) (yt_179 hL) rfl (by decide) n_315 rfl (fun _ h9 => h9) rfl rfl (yr_179_10 hL) d_1_22_102 ?_
  obtain ⟨r108, g108, h⟩ := bd_e h
  refine kVN (As := []) (rest := []) (s_Na_isOne l z ad E M107 191 r108 hL g108) hx hb hml hown hts w_1218 n_1282 w_1217 w_s_3d0b7a w_9 md_e57826 ⟨Nat.le_of_ble_eq_true rfl, Nat.le_of_ble_eq_true rfl⟩ hG hZ hP hD hS hA 191 (wv_o (ci := 8) (yi_191 hL) (yt_191 hL)) rfl rfl rfl hl.1 rfl (Nat.le_of_ble_eq_true rfl) d_1_22_105 ⟨Nat.le_of_ble_eq_true rfl, Nat.le_of_ble_eq_true rfl⟩ (fun _ H locs hP hD hS => ?_)
  have hP : va_P z.1 classes (wv z ad E M107) H := hP
  have hD : va_D A (wv z ad E M107) := hD
  refine W.eq (g2 := F0 m 108 ls [.int (oI r108)]) rfl ?_
  obtain ⟨ok109, h⟩ := ck_e h
  refine lv_if_ne (tgt := 128) hx hb d_1_22_108 (by decide) (fun c9 => ?_) (fun c9 => ?_)
  · have h := ite_f (fun q => c9 ((oI_eq0 ok109).mpr q)) h
    refine lv_aload_n hx hb d_1_22_128 rfl (lv_at hl 0 rfl) ?_
    refine m_gi (C := "Ballothall") (T := TX11) (N := 14) (ci := 11) (k := 13) hx hb hts iX11 hown hG hP (yi_1 hL) (yt_1 hL) rfl (by decide) w_410 (fun _ h9 => h9) rfl rfl d_1_22_129 ?_
    obtain ⟨rfl, rfl⟩ := in2 h
    exact W.iret hx hb hr (fun t ht hW => qkA hP hD hS (fun k => k) rfl rfl ht) hS.2.2 d_1_22_132
  · have h := ite_t ((oI_eq0 ok109).mp c9) h
    refine lv_aload_n hx hb d_1_22_111 rfl (lv_at hl 0 rfl) ?_
    refine lv_bipush (v := oI 47) hx hb d_1_22_112 (by decide +kernel) ?_
    obtain ⟨M110, g110, h⟩ := bd_e h
    refine kV (As := [.int (oI 47)]) (rest := []) (s_B_appendByte l z ad E M107 47 M110 hL g110) hx hb hml hown hts w_1281 w_1278 w_1280 w_s_8ff029 w_1 md_b238c2 ⟨Nat.le_of_ble_eq_true rfl, Nat.le_of_ble_eq_true rfl⟩ hG hZ hP hD hS hA 1 (wv_o (ci := 11) (yi_1 hL) (yt_1 hL)) rfl rfl rfl hl.1 rfl (Nat.le_of_ble_eq_true rfl) d_1_22_114 ⟨Nat.le_of_ble_eq_true rfl, Nat.le_of_ble_eq_true rfl⟩ (fun _ H locs hP hD hS => ?_)
    have hP : va_P z.1 classes (wv z ad E M110) H := hP
    have hD : va_D A (wv z ad E M110) := hD
    refine W.eq (g2 := F0 m 117 ls []) rfl ?_
    refine lv_aload_n hx hb d_1_22_117 rfl (lv_at hl 0 rfl) ?_
    refine lv_aload_n hx hb d_1_22_118 rfl (lv_at hl 0 rfl) ?_
    refine m_gr (j := 179) (C := "Ballothall") (T := TX11) (N := 14) (ci := 11) (k := 4) hx hb hts iX11 hown hG hP (yi_1 hL) (yt_1 hL) rfl (by decide) w_401 (fun _ h9 => h9) rfl rfl (yr_1_4 hL) d_1_22_119 ?_
    refine m_grN (j := 191) (C := "Ballothall$Counting") (T := TX3) (N := 15) (ci := 3) (k := 10) hx hb hts iX3 hown hG hP (yi_179 hL) (yt_179 hL) rfl (by decide) n_315 rfl (fun _ h9 => h9) rfl rfl (yr_179_10 hL) d_1_22_122 ?_
    obtain ⟨M111, g111, h⟩ := bd_e h
    refine kV (As := [.ref (ad 191)]) (rest := []) (s_B_appendNumber l z ad E M110 191 M111 hL g111) hx hb hml hown hts w_1276 w_1273 w_1275 w_s_684333 w_1 md_60fcd1 ⟨Nat.le_of_ble_eq_true rfl, Nat.le_of_ble_eq_true rfl⟩ hG hZ hP hD hS hA 1 (wv_o (ci := 11) (yi_1 hL) (yt_1 hL)) rfl rfl rfl hl.1 rfl (Nat.le_of_ble_eq_true rfl) d_1_22_125 ⟨Nat.le_of_ble_eq_true rfl, Nat.le_of_ble_eq_true rfl⟩ (fun _ H locs hP hD hS => ?_)
    have hP : va_P z.1 classes (wv z ad E M111) H := hP
    have hD : va_D A (wv z ad E M111) := hD
    refine W.eq (g2 := F0 m 128 ls []) rfl ?_
    refine lv_aload_n hx hb d_1_22_128 rfl (lv_at hl 0 rfl) ?_
    refine m_gi (C := "Ballothall") (T := TX11) (N := 14) (ci := 11) (k := 13) hx hb hts iX11 hown hG hP (yi_1 hL) (yt_1 hL) rfl (by decide) w_410 (fun _ h9 => h9) rfl rfl d_1_22_129 ?_
    obtain ⟨rfl, rfl⟩ := in2 h
    exact W.iret hx hb hr (fun t ht hW => qkA hP hD hS (fun k => k) rfl rfl ht) hS.2.2 d_1_22_132
set_option maxRecDepth 100000 in
set_option maxHeartbeats 4000000 in
theorem b_B_writePile_j16 (l : Launch) (z : Zz) (ad : Nat → Nat) (E : Ev) (M : Mm) (x1 : Int) (x2 : Int) (r : Int) (N : Mm) {p : Program} {e : Env} {s : State} {m : MethodId} {below : List Frame} {meth : Method} {c : Code} {A : Nat → Prop} {args : Array Value} (hx : p.tables.exec = Jvm.exec) (hb : c.code = prog_1_method_22_code) (hml : c.maxLocals = 4) (hts : ∀ w ∈ WG, w.before args s = true) (hown : s.vm.findClass "Ballothall" = some m.cls) (hlocks : meth.locks = false) (hA : ∀ q, s.heap.size ≤ q → A q) (hG : KG z s) (hZ : FZ z A s) (hL : Lay E) (hr : meth.sig.returnType = (some .int)) (h : B_writePile_j16 E M x1 x2 = some (r, N)) : ∀ (H : Heap) (locs : List Loc) (ls : Array Slot), va_P z.1 classes (wv z ad E M) H → va_D A (wv z ad E M) → va_S A s.heap H locs → lv_has ls 4 [(0, .ref (ad 1)), (1, .int (oI x1)), (2, .int (oI x2))] → W p l e (rmK 5 136 0 0) s m args below meth c H locs 0 0 (MQ below (QK z A (fun _ => some (.int (oI r))) (fun _ => (wv z ad E N))) args s 0 0 A) (F0 m 16 ls []) := by
  intro H locs ls hP hD hS hl
  unfold B_writePile_j16 at h
  refine lv_aload_n hx hb d_1_22_16 rfl (lv_at hl 0 rfl) ?_
  refine m_gr (j := 179) (C := "Ballothall") (T := TX11) (N := 14) (ci := 11) (k := 4) hx hb hts iX11 hown hG hP (yi_1 hL) (yt_1 hL) rfl (by decide) w_401 (fun _ h9 => h9) rfl rfl (yr_1_4 hL) d_1_22_17 ?_
  obtain ⟨r101, g101, h⟩ := bd_e h
  refine kVN (As := []) (rest := []) (s_Co_latest l z ad E M r101 hL g101) hx hb hml hown hts w_596 n_593 w_595 w_s_ad1675 w_8 md_6f7cc1 ⟨Nat.le_of_ble_eq_true rfl, Nat.le_of_ble_eq_true rfl⟩ hG hZ hP hD hS hA 179 (wv_o (ci := 3) (yi_179 hL) (yt_179 hL)) rfl rfl rfl hl.1 rfl (Nat.le_of_ble_eq_true rfl) d_1_22_20 ⟨Nat.le_of_ble_eq_true rfl, Nat.le_of_ble_eq_true rfl⟩ (fun _ H locs hP hD hS => ?_)
  have hP : va_P z.1 classes (wv z ad E M) H := hP
  have hD : va_D A (wv z ad E M) := hD
  cases r101 with
  | none =>
    refine W.eq (g2 := F0 m 23 ls [.null]) rfl ?_
    refine lv_astore_nN (lv' := [(3, .null), (0, .ref (ad 1)), (1, .int (oI x1)), (2, .int (oI x2))]) hx hb d_1_22_23 rfl hl (by decide) rfl (fun ls hl => ?_)
    refine lv_aload_nN hx hb d_1_22_24 rfl (lv_at hl 0 rfl) ?_
    refine lv_ifnullN (tgt := 45) hx hb d_1_22_25 (by decide) ?_
    cases h
  | some p101 =>
    obtain ⟨h_p101, h⟩ := ck_e h
    refine W.eq (g2 := F0 m 23 ls [.ref (ad p101)]) rfl ?_
    refine lv_astore_n (lv' := [(3, .ref (ad p101)), (0, .ref (ad 1)), (1, .int (oI x1)), (2, .int (oI x2))]) hx hb d_1_22_23 rfl hl (by decide) rfl (fun ls hl => ?_)
    refine lv_aload_n hx hb d_1_22_24 rfl (lv_at hl 0 rfl) ?_
    refine lv_ifnull hx hb d_1_22_25 ?_
    refine lv_iload_n hx hb d_1_22_28 rfl (lv_at hl 2 rfl) ?_
    obtain ⟨ok102, h⟩ := ck_e h
    refine lv_if_lt (tgt := 45) hx hb d_1_22_29 (by decide) (fun c9 => ?_) (fun c9 => ?_)
    · have h := ite_t ((oI_lt0 ok102).mp c9) h
      cases h
    · have h := ite_f (fun q => c9 ((oI_lt0 ok102).mpr q)) h
      refine lv_iload_n hx hb d_1_22_32 rfl (lv_at hl 2 rfl) ?_
      refine lv_aload_n hx hb d_1_22_33 rfl (lv_at hl 0 rfl) ?_
      refine m_giN (C := "Ballothall$Count") (T := TX2) (N := 10) (ci := 2) (k := 4) hx hb hts iX2 hown hG hP (isCt_i h_p101) (isCt_T h_p101) rfl (by decide) n_1087 rfl (fun _ h9 => h9) rfl rfl d_1_22_34 ?_
      refine lv_aload_n hx hb d_1_22_37 rfl (lv_at hl 0 rfl) ?_
      refine m_giN (C := "Ballothall$Count") (T := TX2) (N := 10) (ci := 2) (k := 5) hx hb hts iX2 hown hG hP (isCt_i h_p101) (isCt_T h_p101) rfl (by decide) n_1089 rfl (fun _ h9 => h9) rfl rfl d_1_22_38 ?_
      refine lv_iadd hx hb d_1_22_41 ?_
      refine nrm (oI_add _ _) ?_
      obtain ⟨ok103, h⟩ := ck_e h
      refine lv_icmp_le (tgt := 55) hx hb d_1_22_42 (by decide) (fun c9 => ?_) (fun c9 => ?_)
      · have h := ite_t ((oI_le (a := x1) (b := ((M p101 4) + (M p101 5))) ok102 ok103).mp c9) h
        refine lv_aload_n hx hb d_1_22_55 rfl (lv_at hl 1 rfl) ?_
        refine m_gr (j := 179) (C := "Ballothall") (T := TX11) (N := 14) (ci := 11) (k := 4) hx hb hts iX11 hown hG hP (yi_1 hL) (yt_1 hL) rfl (by decide) w_401 (fun _ h9 => h9) rfl rfl (yr_1_4 hL) d_1_22_56 ?_
        refine lv_aload_n hx hb d_1_22_59 rfl (lv_at hl 0 rfl) ?_
        refine lv_iload_n hx hb d_1_22_60 rfl (lv_at hl 2 rfl) ?_
        refine lv_iload_n hx hb d_1_22_61 rfl (lv_at hl 3 rfl) ?_
        refine lv_iconst (v := oI (-1)) hx hb d_1_22_62 (by decide +kernel) ?_
        obtain ⟨ok104, h⟩ := ck_e h
        refine lv_icmp_ne (tgt := 71) hx hb d_1_22_63 (by decide) (fun c9 => ?_) (fun c9 => ?_)
        · have h := ite_f (fun q => c9 ((oI_eq (a := x2) (b := (-1 : Int)) ok104 (by decide)).mpr q)) h
          refine lv_iload_n hx hb d_1_22_71 rfl (lv_at hl 3 rfl) ?_
          exact b_B_writePile_j72 l z ad E M x2 x1 p101 r N hx hb hml hts hown hlocks hA hG hZ hL hr h H locs ls hP hD hS (lv_sub hl [1] rfl)
        · have h := ite_t ((oI_eq (a := x2) (b := (-1 : Int)) ok104 (by decide)).mp c9) h
          refine lv_bipush (v := oI 8) hx hb d_1_22_66 (by decide +kernel) ?_
          refine lv_goto (tgt := 72) hx hb d_1_22_68 (by decide) ?_
          exact b_B_writePile_j72 l z ad E M 8 x1 p101 r N hx hb hml hts hown hlocks hA hG hZ hL hr h H locs ls hP hD hS (lv_sub hl [1] rfl)
      · have h := ite_f (fun q => c9 ((oI_le (a := x1) (b := ((M p101 4) + (M p101 5))) ok102 ok103).mpr q)) h
        cases h
set_option maxRecDepth 100000 in
set_option maxHeartbeats 4000000 in
theorem s_B_writePile (l : Launch) (z : Zz) (ad : Nat → Nat) (E : Ev) (M : Mm) (x1 : Int) (x2 : Int) (r : Int) (N : Mm) (hL : Lay E) (h : f_B_writePile E M x1 x2 = some (r, N)) : CT l z ⟨"Ballothall", "writePile", "(II)I"⟩ prog_1_method_22_code 4 (some .int) [.ref (ad 1), .int (oI x1), .int (oI x2)] (wv z ad E M) 5 136 0 0 (fun _ => some (.int (oI r))) (fun _ => (wv z ad E N)) := by
  refine CT.of (own := "Ballothall") (by decide +kernel) (Nat.le_of_ble_eq_true rfl) rfl (fun p e s m below meth c A ls hx hb hml hr hts hown hlocks hin hA hG hZ hP hD hS hl => ?_)
  have hl : lv_has ls 4 [(0, .ref (ad 1)), (1, .int (oI x1)), (2, .int (oI x2))] := hl
  have key : ∀ (H : Heap) (locs : List Loc) (args : Array Value), (∀ w ∈ WG, w.before args s = true) → va_P z.1 classes (wv z ad E M) H → va_S A s.heap H locs → W p l e (rmK 5 136 0 0) s m args below meth c H locs 0 0 (MQ below (QK z A (fun _ => some (.int (oI r))) (fun _ => (wv z ad E N))) args s 0 0 A) (F0 m 0 ls []) := by
    intro H locs args hts hP hS
    unfold f_B_writePile at h
    refine lv_iload_n hx hb d_1_22_0 rfl (lv_at hl 2 rfl) ?_
    refine lv_iconst (v := oI (-1)) hx hb d_1_22_1 (by decide +kernel) ?_
    obtain ⟨ok100, h⟩ := ck_e h
    refine lv_icmp_eq (tgt := 16) hx hb d_1_22_2 (by decide) (fun c9 => ?_) (fun c9 => ?_)
    · have h := ite_t ((oI_eq (a := x2) (b := (-1 : Int)) ok100 (by decide)).mp c9) h
      exact b_B_writePile_j16 l z ad E M x1 x2 r N hx hb hml hts hown hlocks hA hG hZ hL hr h H locs ls hP hD hS (lv_sub hl [0, 1, 2] rfl)
    · have h := ite_f (fun q => c9 ((oI_eq (a := x2) (b := (-1 : Int)) ok100 (by decide)).mpr q)) h
      refine lv_iload_n hx hb d_1_22_5 rfl (lv_at hl 2 rfl) ?_
      refine lv_aload_n hx hb d_1_22_6 rfl (lv_at hl 0 rfl) ?_
      refine m_gr (j := 2) (C := "Ballothall") (T := TX11) (N := 14) (ci := 11) (k := 0) hx hb hts iX11 hown hG hP (yi_1 hL) (yt_1 hL) rfl (by decide) w_397 (fun _ h9 => h9) rfl rfl (yr_1_0 hL) d_1_22_7 ?_
      refine m_giN (C := "Ballothall$BallotBox") (T := TX0) (N := 10) (ci := 0) (k := 2) hx hb hts iX0 hown hG hP (yi_2 hL) (yt_2 hL) rfl (by decide) n_52 rfl (fun _ h9 => h9) rfl rfl d_1_22_10 ?_
      obtain ⟨_, g112, h⟩ := bd_e h
      refine kS (As := [.int (oI x2), .int (oI (M 2 2))]) (rest := []) (s_B_needIndex l z ad E M x2 (M 2 2) hL g112) hx hb hml hown hts w_529 w_527 w_528 w_1 md_6cb26b ⟨Nat.le_of_ble_eq_true rfl, Nat.le_of_ble_eq_true rfl⟩ hG hZ hP hD hS hA rfl hl.1 rfl (Nat.le_of_ble_eq_true rfl) d_1_22_13 ⟨Nat.le_of_ble_eq_true rfl, Nat.le_of_ble_eq_true rfl⟩ (fun _ H locs hP hD hS => ?_)
      have hP : va_P z.1 classes (wv z ad E M) H := hP
      have hD : va_D A (wv z ad E M) := hD
      refine W.eq (g2 := F0 m 16 ls []) rfl ?_
      exact b_B_writePile_j16 l z ad E M x1 x2 r N hx hb hml hts hown hlocks hA hG hZ hL hr h H locs ls hP hD hS (lv_sub hl [0, 1, 2] rfl)
  exact key _ _ _ hts hP hS
set_option maxRecDepth 100000 in
set_option maxHeartbeats 4000000 in
theorem s_B_outputByte (l : Launch) (z : Zz) (ad : Nat → Nat) (E : Ev) (M : Mm) (x1 : Int) (r : Int)  (hL : Lay E) (h : f_B_outputByte E M x1 = some r) : CT l z ⟨"Ballothall", "outputByte", "(I)I"⟩ prog_1_method_23_code 2 (some .int) [.ref (ad 1), .int (oI x1)] (wv z ad E M) 0 20 0 0 (fun _ => some (.int (oI r))) (fun _ => (wv z ad E M)) := by
  refine CT.of (own := "Ballothall") (by decide +kernel) (Nat.le_of_ble_eq_true rfl) rfl (fun p e s m below meth c A ls hx hb hml hr hts hown hlocks hin hA hG hZ hP hD hS hl => ?_)
  have hl : lv_has ls 2 [(0, .ref (ad 1)), (1, .int (oI x1))] := hl
  have key : ∀ (H : Heap) (locs : List Loc) (args : Array Value), (∀ w ∈ WG, w.before args s = true) → va_P z.1 classes (wv z ad E M) H → va_S A s.heap H locs → W p l e (rmK 0 20 0 0) s m args below meth c H locs 0 0 (MQ below (QK z A (fun _ => some (.int (oI r))) (fun _ => (wv z ad E M))) args s 0 0 A) (F0 m 0 ls []) := by
    intro H locs args hts hP hS
    unfold f_B_outputByte at h
    refine lv_iload_n hx hb d_1_23_0 rfl (lv_at hl 1 rfl) ?_
    obtain ⟨ok100, h⟩ := ck_e h
    refine lv_if_lt (tgt := 12) hx hb d_1_23_1 (by decide) (fun c9 => ?_) (fun c9 => ?_)
    · have h := ite_t ((oI_lt0 ok100).mp c9) h
      refine lv_iconst (v := oI (-1)) hx hb d_1_23_12 (by decide +kernel) ?_
      refine lv_goto (tgt := 22) hx hb d_1_23_13 (by decide) ?_
      obtain rfl := in1 h
      exact W.iret hx hb hr (fun t ht hW => qkA hP hD hS (fun k => k) rfl rfl ht) hS.2.2 d_1_23_22
    · have h := ite_f (fun q => c9 ((oI_lt0 ok100).mpr q)) h
      refine lv_iload_n hx hb d_1_23_4 rfl (lv_at hl 1 rfl) ?_
      refine lv_aload_n hx hb d_1_23_5 rfl (lv_at hl 0 rfl) ?_
      refine m_gi (C := "Ballothall") (T := TX11) (N := 14) (ci := 11) (k := 13) hx hb hts iX11 hown hG hP (yi_1 hL) (yt_1 hL) rfl (by decide) w_410 (fun _ h9 => h9) rfl rfl d_1_23_6 ?_
      obtain ⟨ok101, h⟩ := ck_e h
      refine lv_icmp_lt (tgt := 16) hx hb d_1_23_9 (by decide) (fun c9 => ?_) (fun c9 => ?_)
      · have h := ite_t ((oI_lt (a := x1) (b := (M 1 13)) ok100 ok101).mp c9) h
        refine lv_aload_n hx hb d_1_23_16 rfl (lv_at hl 0 rfl) ?_
        refine m_gr (j := 249) (C := "Ballothall") (T := TX11) (N := 14) (ci := 11) (k := 12) hx hb hts iX11 hown hG hP (yi_1 hL) (yt_1 hL) rfl (by decide) w_409 (fun _ h9 => h9) rfl rfl (yr_1_12 hL) d_1_23_17 ?_
        refine lv_iload_n hx hb d_1_23_20 rfl (lv_at hl 1 rfl) ?_
        obtain ⟨ok102, h⟩ := ck_e h
        refine m_ia hx hb hG hP (yi_249 hL) (yt_249 hL) ok102 d_1_23_21 ?_
        obtain rfl := in1 h
        exact W.iret hx hb hr (fun t ht hW => qkA hP hD hS (fun k => k) rfl rfl ht) hS.2.2 d_1_23_22
      · have h := ite_f (fun q => c9 ((oI_lt (a := x1) (b := (M 1 13)) ok100 ok101).mpr q)) h
        refine lv_iconst (v := oI (-1)) hx hb d_1_23_12 (by decide +kernel) ?_
        refine lv_goto (tgt := 22) hx hb d_1_23_13 (by decide) ?_
        obtain rfl := in1 h
        exact W.iret hx hb hr (fun t ht hW => qkA hP hD hS (fun k => k) rfl rfl ht) hS.2.2 d_1_23_22
  exact key _ _ _ hts hP hS
set_option maxRecDepth 100000 in
set_option maxHeartbeats 4000000 in
theorem b_La_reads_19b (l : Launch) (z : Zz) (ad : Nat → Nat) (E : Ev) (M : Mm) (x1 : Int) (x2 : Int) (x4 : Int) (x6 : Int) (x7 : Int) (t : Nat) (w2 : Int) (w4 : Int) (w6 : Int) (w7 : Int)  {Q : State → Prop} {p : Program} {e : Env} {s : State} {m : MethodId} {below : List Frame} {meth : Method} {c : Code} {A : Nat → Prop} {args : Array Value} (hx : p.tables.exec = Jvm.exec) (hb : c.code = method_6_code) (hml : c.maxLocals = 9) (hts : ∀ w ∈ WG, w.before args s = true) (hown : s.vm.findClass "BallothallLaw" = some m.cls) (hlocks : meth.locks = false) (hA : ∀ q, s.heap.size ≤ q → A q) (hG : KG z s) (hZ : FZ z A s) (hL : Lay E) (h : La_reads_19b E M x1 x2 x4 x6 x7 = some (t, w2, w4, w6, w7)) (k0 : t = 0 → ∀ (H : Heap) (locs : List Loc) (ls : Array Slot), va_P z.1 classes (wv z ad E M) H → va_D A (wv z ad E M) → va_S A s.heap H locs → lv_has ls 9 [(0, .ref (ad 1)), (1, .int (oI x1)), (2, .long (oJ w2)), (4, .long (oJ w4)), (6, .int (oI w6)), (7, .int (oI w7))] → W p l e (rmK 1 41 0 0) s m args below meth c H locs 0 0 Q (F0 m 19 ls [])) (k1 : t = 1 → ∀ (H : Heap) (locs : List Loc) (ls : Array Slot), va_P z.1 classes (wv z ad E M) H → va_D A (wv z ad E M) → va_S A s.heap H locs → lv_has ls 9 [(2, .long (oJ w2)), (4, .long (oJ w4)), (6, .int (oI w6))] → W p l e (rmK 1 41 0 0) s m args below meth c H locs 0 0 Q (F0 m 90 ls [])) : ∀ (H : Heap) (locs : List Loc) (ls : Array Slot), va_P z.1 classes (wv z ad E M) H → va_D A (wv z ad E M) → va_S A s.heap H locs → lv_has ls 9 [(0, .ref (ad 1)), (1, .int (oI x1)), (2, .long (oJ x2)), (4, .long (oJ x4)), (6, .int (oI x6)), (7, .int (oI x7))] → W p l e (rmK 1 41 0 0) s m args below meth c H locs 0 0 Q (F0 m 19 ls []) := by
  intro H locs ls hP hD hS hl
  unfold La_reads_19b at h
  refine lv_iload hx hb d_L6_19 (lv_at hl 5 rfl) ?_
  refine lv_iload_n hx hb d_L6_21 rfl (lv_at hl 1 rfl) ?_
  obtain ⟨ok101, h⟩ := ck_e h
  obtain ⟨ok102, h⟩ := ck_e h
  refine lv_icmp_ge (tgt := 90) hx hb d_L6_22 (by decide) (fun c9 => ?_) (fun c9 => ?_)
  · have h := ite_t ((oI_le (a := x1) (b := x7) ok102 ok101).mp c9) h
    obtain ⟨rfl, rfl, rfl, rfl, rfl⟩ := in5 h
    exact k1 rfl H locs ls hP hD hS (lv_sub hl [2, 3, 4] rfl)
  · have h := ite_f (fun q => c9 ((oI_le (a := x1) (b := x7) ok102 ok101).mpr q)) h
    refine lv_aload_n hx hb d_L6_25 rfl (lv_at hl 0 rfl) ?_
    refine lv_iload hx hb d_L6_26 (lv_at hl 5 rfl) ?_
    obtain ⟨r103, g103, h⟩ := bd_e h
    refine kV (As := [.int (oI x7)]) (rest := []) (s_B_outputByte l z ad E M x7 r103 hL g103) hx hb hml hown hts w_1289 w_1286 w_1287 w_1288 w_1 md_fa5ec4 ⟨Nat.le_of_ble_eq_true rfl, Nat.le_of_ble_eq_true rfl⟩ hG hZ hP hD hS hA 1 (wv_o (ci := 11) (yi_1 hL) (yt_1 hL)) rfl rfl rfl hl.1 rfl (Nat.le_of_ble_eq_true rfl) d_L6_28 ⟨Nat.le_of_ble_eq_true rfl, Nat.le_of_ble_eq_true rfl⟩ (fun _ H locs hP hD hS => ?_)
    have hP : va_P z.1 classes (wv z ad E M) H := hP
    have hD : va_D A (wv z ad E M) := hD
    refine W.eq (g2 := F0 m 31 ls [.int (oI r103)]) rfl ?_
    refine lv_istore (lv' := [(8, .int (oI r103)), (0, .ref (ad 1)), (1, .int (oI x1)), (2, .long (oJ x2)), (4, .long (oJ x4)), (6, .int (oI x6)), (7, .int (oI x7))]) hx hb d_L6_31 hl (by decide) rfl (fun ls hl => ?_)
    refine lv_iload hx hb d_L6_33 (lv_at hl 0 rfl) ?_
    refine lv_bipush (v := oI 47) hx hb d_L6_35 (by decide +kernel) ?_
    obtain ⟨ok104, h⟩ := ck_e h
    refine lv_icmp_ne (tgt := 46) hx hb d_L6_37 (by decide) (fun c9 => ?_) (fun c9 => ?_)
    · have h := ite_f (fun q => c9 ((oI_eq (a := r103) (b := (47 : Int)) ok104 (by decide)).mpr q)) h
      refine lv_iload hx hb d_L6_46 (lv_at hl 5 rfl) ?_
      obtain ⟨ok105, h⟩ := ck_e h
      refine lv_if_eq (tgt := 70) hx hb d_L6_48 (by decide) (fun c9 => ?_) (fun c9 => ?_)
      · have h := ite_t ((oI_eq0 ok105).mp c9) h
        refine lv_ldc2 hx hb hown (hts _ w_1290) d_L6_70 ?_
        refine nrmL (x1 := oJ 10) (by decide +kernel) ?_
        refine lv_lload_n hx hb d_L6_73 rfl (lv_at hl 3 rfl) ?_
        refine lv_lmul hx hb d_L6_74 ?_
        refine nrmL (oJ_mul _ _) ?_
        refine lv_iload hx hb d_L6_75 (lv_at hl 0 rfl) ?_
        refine lv_i2l (v := oJ r103) hx hb d_L6_77 (oI_l ok104) ?_
        refine lv_ladd hx hb d_L6_78 ?_
        refine nrmL (oJ_add _ _) ?_
        refine lv_ldc2 hx hb hown (hts _ w_1291) d_L6_79 ?_
        refine nrmL (x1 := oJ 48) (by decide +kernel) ?_
        refine lv_lsub hx hb d_L6_82 ?_
        refine nrmL (oJ_sub _ _) ?_
        refine lv_lstore_n (lv' := [(2, .long (oJ (((10 * x2) + r103) - 48))), (8, .int (oI r103)), (0, .ref (ad 1)), (1, .int (oI x1)), (4, .long (oJ x4)), (6, .int (oI x6)), (7, .int (oI x7))]) hx hb d_L6_83 rfl hl (by decide) rfl (fun ls hl => ?_)
        refine lv_iinc (v := oI (x7 + 1)) (lv' := [(7, .int (oI (x7 + 1))), (2, .long (oJ (((10 * x2) + r103) - 48))), (8, .int (oI r103)), (0, .ref (ad 1)), (1, .int (oI x1)), (4, .long (oJ x4)), (6, .int (oI x6))]) hx hb d_L6_84 hl (k := 6) rfl (oI_add x7 1) (by decide) rfl (fun ls hl => ?_)
        refine lv_goto (tgt := 19) hx hb d_L6_87 (by decide) ?_
        obtain ⟨rfl, rfl, rfl, rfl, rfl⟩ := in5 h
        exact k0 rfl H locs ls hP hD hS (lv_sub hl [3, 4, 1, 5, 6, 0] rfl)
      · have h := ite_f (fun q => c9 ((oI_eq0 ok105).mpr q)) h
        refine lv_ldc2 hx hb hown (hts _ w_1290) d_L6_51 ?_
        refine nrmL (x1 := oJ 10) (by decide +kernel) ?_
        refine lv_lload hx hb d_L6_54 (lv_at hl 4 rfl) ?_
        refine lv_lmul hx hb d_L6_56 ?_
        refine nrmL (oJ_mul _ _) ?_
        refine lv_iload hx hb d_L6_57 (lv_at hl 0 rfl) ?_
        refine lv_i2l (v := oJ r103) hx hb d_L6_59 (oI_l ok104) ?_
        refine lv_ladd hx hb d_L6_60 ?_
        refine nrmL (oJ_add _ _) ?_
        refine lv_ldc2 hx hb hown (hts _ w_1291) d_L6_61 ?_
        refine nrmL (x1 := oJ 48) (by decide +kernel) ?_
        refine lv_lsub hx hb d_L6_64 ?_
        refine nrmL (oJ_sub _ _) ?_
        refine lv_lstore (lv' := [(4, .long (oJ (((10 * x4) + r103) - 48))), (8, .int (oI r103)), (0, .ref (ad 1)), (1, .int (oI x1)), (2, .long (oJ x2)), (6, .int (oI x6)), (7, .int (oI x7))]) hx hb d_L6_65 hl (by decide) rfl (fun ls hl => ?_)
        refine lv_goto (tgt := 84) hx hb d_L6_67 (by decide) ?_
        refine lv_iinc (v := oI (x7 + 1)) (lv' := [(7, .int (oI (x7 + 1))), (4, .long (oJ (((10 * x4) + r103) - 48))), (8, .int (oI r103)), (0, .ref (ad 1)), (1, .int (oI x1)), (2, .long (oJ x2)), (6, .int (oI x6))]) hx hb d_L6_84 hl (k := 6) rfl (oI_add x7 1) (by decide) rfl (fun ls hl => ?_)
        refine lv_goto (tgt := 19) hx hb d_L6_87 (by decide) ?_
        obtain ⟨rfl, rfl, rfl, rfl, rfl⟩ := in5 h
        exact k0 rfl H locs ls hP hD hS (lv_sub hl [3, 4, 5, 1, 6, 0] rfl)
    · have h := ite_t ((oI_eq (a := r103) (b := (47 : Int)) ok104 (by decide)).mp c9) h
      refine lv_iconst (v := oI 1) hx hb d_L6_40 (by decide +kernel) ?_
      refine lv_istore (lv' := [(6, .int (oI 1)), (8, .int (oI r103)), (0, .ref (ad 1)), (1, .int (oI x1)), (2, .long (oJ x2)), (4, .long (oJ x4)), (7, .int (oI x7))]) hx hb d_L6_41 hl (by decide) rfl (fun ls hl => ?_)
      refine lv_goto (tgt := 84) hx hb d_L6_43 (by decide) ?_
      refine lv_iinc (v := oI (x7 + 1)) (lv' := [(7, .int (oI (x7 + 1))), (6, .int (oI 1)), (8, .int (oI r103)), (0, .ref (ad 1)), (1, .int (oI x1)), (2, .long (oJ x2)), (4, .long (oJ x4))]) hx hb d_L6_84 hl (k := 6) rfl (oI_add x7 1) (by decide) rfl (fun ls hl => ?_)
      refine lv_goto (tgt := 19) hx hb d_L6_87 (by decide) ?_
      obtain ⟨rfl, rfl, rfl, rfl, rfl⟩ := in5 h
      exact k0 rfl H locs ls hP hD hS (lv_sub hl [3, 4, 5, 6, 1, 0] rfl)
set_option maxRecDepth 100000 in
set_option maxHeartbeats 4000000 in
theorem s_La_reads_19 (l : Launch) (z : Zz) (ad : Nat → Nat) (E : Ev) (x1 : Int) {Q : State → Prop} {p : Program} {e : Env} {s : State} {m : MethodId} {below : List Frame} {meth : Method} {c : Code} {A : Nat → Prop} {args : Array Value} (hx : p.tables.exec = Jvm.exec) (hb : c.code = method_6_code) (hml : c.maxLocals = 9) (hts : ∀ w ∈ WG, w.before args s = true) (hown : s.vm.findClass "BallothallLaw" = some m.cls) (hlocks : meth.locks = false) (hA : ∀ q, s.heap.size ≤ q → A q) (hG : KG z s) (hZ : FZ z A s) (hL : Lay E) : ∀ (fu : Nat) (M : Mm) (x2 : Int) (x4 : Int) (x6 : Int) (x7 : Int) (t : Nat) (w2 : Int) (w4 : Int) (w6 : Int) (w7 : Int), l_La_reads_19 E x1 fu M x2 x4 x6 x7 = some (t, w2, w4, w6, w7) → (t = 1 → ∀ (H : Heap) (locs : List Loc) (ls : Array Slot), va_P z.1 classes (wv z ad E M) H → va_D A (wv z ad E M) → va_S A s.heap H locs → lv_has ls 9 [(2, .long (oJ w2)), (4, .long (oJ w4)), (6, .int (oI w6))] → W p l e (rmK 1 41 0 0) s m args below meth c H locs 0 0 Q (F0 m 90 ls [])) → ∀ (H : Heap) (locs : List Loc) (ls : Array Slot), va_P z.1 classes (wv z ad E M) H → va_D A (wv z ad E M) → va_S A s.heap H locs → lv_has ls 9 [(0, .ref (ad 1)), (1, .int (oI x1)), (2, .long (oJ x2)), (4, .long (oJ x4)), (6, .int (oI x6)), (7, .int (oI x7))] → W p l e (rmK 1 41 0 0) s m args below meth c H locs 0 0 Q (F0 m 19 ls []) := by
  intro fu
  induction fu with
  | zero =>
    intro M x2 x4 x6 x7 t w2 w4 w6 w7 h
    have h : (none : Option (Nat × Int × Int × Int × Int)) = some _ := h
    cases h
  | succ fu ih =>
    intro M x2 x4 x6 x7 t w2 w4 w6 w7 h k1 H locs ls hP hD hS hl
    obtain ⟨⟨t0, w20, w40, w60, w70⟩, g0, h⟩ := bd_e h
    refine b_La_reads_19b l z ad E M x1 x2 x4 x6 x7 t0 w20 w40 w60 w70 hx hb hml hts hown hlocks hA hG hZ hL g0 (fun e0 => ?_) (fun e0 => ?_) H locs ls hP hD hS hl
    · subst e0
      have h := ite_t rfl h
      exact ih M w20 w40 w60 w70 t w2 w4 w6 w7 h k1
    · subst e0
      have h := ite_f (by decide) h
      obtain ⟨rfl, rfl, rfl, rfl, rfl⟩ := in5 h
      exact k1 rfl
set_option maxRecDepth 100000 in
set_option maxHeartbeats 4000000 in
theorem s_La_reads (l : Launch) (z : Zz) (ad : Nat → Nat) (E : Ev) (M : Mm) (x1 : Int) (r : Int)  (hL : Lay E) (h : f_La_reads E M x1 = some r) : CT l z ⟨"BallothallLaw", "reads", "(LBallothall;I)J"⟩ method_6_code 9 (some .long) [.ref (ad 1), .int (oI x1)] (wv z ad E M) 1 41 0 0 (fun _ => some (.long (oJ r))) (fun _ => (wv z ad E M)) := by
  refine CT.of (own := "BallothallLaw") (by decide +kernel) (Nat.le_of_ble_eq_true rfl) rfl (fun p e s m below meth c A ls hx hb hml hr hts hown hlocks hin hA hG hZ hP hD hS hl => ?_)
  have hl : lv_has ls 9 [(0, .ref (ad 1)), (1, .int (oI x1))] := hl
  have key : ∀ (H : Heap) (locs : List Loc) (args : Array Value), (∀ w ∈ WG, w.before args s = true) → va_P z.1 classes (wv z ad E M) H → va_S A s.heap H locs → W p l e (rmK 1 41 0 0) s m args below meth c H locs 0 0 (MQ below (QK z A (fun _ => some (.long (oJ r))) (fun _ => (wv z ad E M))) args s 0 0 A) (F0 m 0 ls []) := by
    intro H locs args hts hP hS
    unfold f_La_reads at h
    refine lv_lconst (v := oJ 0) hx hb d_L6_0 (by decide +kernel) ?_
    refine lv_lstore_n (lv' := [(2, .long (oJ 0)), (0, .ref (ad 1)), (1, .int (oI x1))]) hx hb d_L6_1 rfl hl (by decide) rfl (fun ls hl => ?_)
    refine lv_lconst (v := oJ 0) hx hb d_L6_2 (by decide +kernel) ?_
    refine lv_lstore (lv' := [(4, .long (oJ 0)), (2, .long (oJ 0)), (0, .ref (ad 1)), (1, .int (oI x1))]) hx hb d_L6_3 hl (by decide) rfl (fun ls hl => ?_)
    refine lv_iconst (v := oI 0) hx hb d_L6_5 (by decide +kernel) ?_
    refine lv_istore (lv' := [(6, .int (oI 0)), (4, .long (oJ 0)), (2, .long (oJ 0)), (0, .ref (ad 1)), (1, .int (oI x1))]) hx hb d_L6_6 hl (by decide) rfl (fun ls hl => ?_)
    refine lv_iload_n hx hb d_L6_8 rfl (lv_at hl 4 rfl) ?_
    refine lv_bipush (v := oI 16) hx hb d_L6_9 (by decide +kernel) ?_
    obtain ⟨ok100, h⟩ := ck_e h
    refine lv_icmp_le (tgt := 16) hx hb d_L6_11 (by decide) (fun c9 => ?_) (fun c9 => ?_)
    · have h := ite_t ((oI_le (a := x1) (b := (16 : Int)) ok100 (by decide)).mp c9) h
      refine lv_iconst (v := oI 0) hx hb d_L6_16 (by decide +kernel) ?_
      refine lv_istore (lv' := [(7, .int (oI 0)), (6, .int (oI 0)), (4, .long (oJ 0)), (2, .long (oJ 0)), (0, .ref (ad 1)), (1, .int (oI x1))]) hx hb d_L6_17 hl (by decide) rfl (fun ls hl => ?_)
      obtain ⟨⟨t106, v106_2, v106_4, v106_6, v106_7⟩, g106, h⟩ := bd_e h
      obtain ⟨ok106, h⟩ := ck_e h
      refine s_La_reads_19 l z ad E x1 hx hb hml hts hown hlocks hA hG hZ hL FU M 0 0 0 0 t106 v106_2 v106_4 v106_6 v106_7 g106 (fun e106 H locs ls hP hD hS hl => ?_) H locs ls hP hD hS (lv_sub hl [4, 5, 3, 2, 1, 0] rfl)
      refine lv_iload hx hb d_L6_90 (lv_at hl 2 rfl) ?_
      obtain ⟨ok107, h⟩ := ck_e h
      refine lv_if_eq (tgt := 121) hx hb d_L6_92 (by decide) (fun c9 => ?_) (fun c9 => ?_)
      · have h := ite_t ((oI_eq0 ok107).mp c9) h
        refine lv_lload_n hx hb d_L6_121 rfl (lv_at hl 0 rfl) ?_
        refine lv_ldc2 hx hb hown (hts _ w_1292) d_L6_122 ?_
        refine nrmL (x1 := oJ 840) (by decide +kernel) ?_
        refine lv_lmul hx hb d_L6_125 ?_
        refine nrmL (oJ_mul _ _) ?_
        obtain rfl := in1 h
        exact W.lret hx hb hr (fun t ht hW => qkA hP hD hS (fun k => k) rfl rfl ht) hS.2.2 d_L6_126
      · have h := ite_f (fun q => c9 ((oI_eq0 ok107).mpr q)) h
        refine lv_ldc2 hx hb hown (hts _ w_1292) d_L6_95 ?_
        refine nrmL (x1 := oJ 840) (by decide +kernel) ?_
        refine lv_lload hx hb d_L6_98 (lv_at hl 1 rfl) ?_
        obtain ⟨ok108, h⟩ := ck_e h
        refine lv_lrem hx hb d_L6_100 (oJ_nz ok108.1 ok108.2) ?_
        refine nrmL (oJ_rem (a := (840 : Int)) (b := v106_4) (show nnJ 840 by decide).1 (show nnJ 840 by decide).2 ok108.1 ok108.2) ?_
        refine lv_lconst (v := oJ 0) hx hb d_L6_101 (by decide +kernel) ?_
        obtain ⟨ok109, h⟩ := ck_e h
        refine W.lcmp hx hb d_L6_102 ?_
        refine nrm (cmp_val (a := ((840 : Int) % v106_4)) (b := (0 : Int)) ok109 (by decide)) ?_
        refine lv_if_ne (tgt := 117) hx hb d_L6_103 (by decide) (fun c9 => ?_) (fun c9 => ?_)
        · have h := ite_f (fun q => c9 ((cmp_eq ((840 : Int) % v106_4) (0 : Int)).mpr q)) h
          refine lv_lconst (v := oJ 0) hx hb d_L6_117 (by decide +kernel) ?_
          refine lv_goto (tgt := 126) hx hb d_L6_118 (by decide) ?_
          obtain rfl := in1 h
          exact W.lret hx hb hr (fun t ht hW => qkA hP hD hS (fun k => k) rfl rfl ht) hS.2.2 d_L6_126
        · have h := ite_t ((cmp_eq ((840 : Int) % v106_4) (0 : Int)).mp c9) h
          refine lv_lload_n hx hb d_L6_106 rfl (lv_at hl 0 rfl) ?_
          refine lv_ldc2 hx hb hown (hts _ w_1292) d_L6_107 ?_
          refine nrmL (x1 := oJ 840) (by decide +kernel) ?_
          refine lv_lload hx hb d_L6_110 (lv_at hl 1 rfl) ?_
          obtain ⟨ok110, h⟩ := ck_e h
          refine lv_ldiv hx hb d_L6_112 (oJ_nz ok110.1 ok110.2) ?_
          refine nrmL (oJ_div (a := (840 : Int)) (b := v106_4) (show nnJ 840 by decide).1 (show nnJ 840 by decide).2 ok110.1 ok110.2) ?_
          refine lv_lmul hx hb d_L6_113 ?_
          refine nrmL (oJ_mul _ _) ?_
          refine lv_goto (tgt := 126) hx hb d_L6_114 (by decide) ?_
          obtain rfl := in1 h
          exact W.lret hx hb hr (fun t ht hW => qkA hP hD hS (fun k => k) rfl rfl ht) hS.2.2 d_L6_126
    · have h := ite_f (fun q => c9 ((oI_le (a := x1) (b := (16 : Int)) ok100 (by decide)).mpr q)) h
      refine lv_lconst (v := oJ 0) hx hb d_L6_14 (by decide +kernel) ?_
      obtain rfl := in1 h
      exact W.lret hx hb hr (fun t ht hW => qkA hP hD hS (fun k => k) rfl rfl ht) hS.2.2 d_L6_15
  exact key _ _ _ hts hP hS
