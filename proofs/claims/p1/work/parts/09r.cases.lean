set_option maxRecDepth 100000 in
set_option maxHeartbeats 4000000 in
theorem c399_BModel_consensus (l : Launch) (z : Zz) (a0 a1 a2 a3 a4 a5 a6 a7 a8 a9 a10 a11 a12 a13 : Nat) : CT l z ⟨"BallothallModel", "consensus", "()V"⟩ prog_14_method_63_code 6 none [.ref a0] [(a0, .inr (18, [.ref a1, .ref a2, .int 0, .ref a3, .int 0, .ref a4, .int 0, .null, .int 0, .null, .long 0, .int 0, .null])), (a1, .inr (17, [.int 0, .ref a5, .ref a6, .int 0, .ref a7, .ref a8, .ref a9, .null, .null, .int 0, .ref a10, .ref a11, .ref a12, .int 0, .ref a13, .int 1]))] 3 98 6 23 (fun u => none) (fun u => [(a0, .inr (18, [.ref a1, .ref a2, .int 0, .ref a3, .int 0, .ref a4, .int 0, .null, .int 0, .ref (u.1 0), .long 0, .int 0, .null])), (a1, .inr (17, [.int 0, .ref a5, .ref a6, .int 0, .ref a7, .ref a8, .ref a9, .null, .null, .int 0, .ref a10, .ref a11, .ref a12, .int 0, .ref a13, .int 1])), ((u.1 0), .inl (z.2 0, 0, .inl (fun _ => 0)))]) := by
  refine CT.of (own := "BallothallModel") (by decide +kernel) (Nat.le_of_ble_eq_true rfl) rfl (fun p e s m below meth c A ls hx hb hml hr hts hown hlocks hin hA hG hZ hP hD hS hl => ?_)
  have hl : lv_has ls 6 [(0, .ref a0)] := hl
  refine lv_aload_n hx hb d_14_63_0 rfl (lv_at hl 0 rfl) ?_
  refine va_get (D := z.1) (ci := 18) (v := .ref a1) (C := "BallothallModel") (T := TX18) (N := 13) hx hb hts iX18 hown hG.1 hP 0 rfl rfl 0 (by decide) (hts _ w_1645) (fun _ h9 => h9) rfl d_14_63_1 ?_
  refine va_getN (D := z.1) (ci := 17) (v := .int 0) (C := "BallothallModel$State") (T := TX17) (N := 16) hx hb hts iX17 hown hG.1 hP 1 rfl rfl 0 (by decide) (va_Nw.use rfl (hG.2.1 _ n_1580 rfl)) (fun _ h9 => h9) rfl d_14_63_4 ?_
  refine lv_istore_n (lv' := [(1, .int 0), (0, .ref a0)]) hx hb d_14_63_7 rfl hl (by decide) rfl (fun ls hl => ?_)
  refine lv_iload_n hx hb d_14_63_8 rfl (lv_at hl 0 rfl) ?_
  refine lv_iload_n hx hb d_14_63_9 rfl (lv_at hl 0 rfl) ?_
  refine k_mna (N := 0) (K := 0) hx hb hown (hts _ w_2194) hG.2.2.2.1 (hts _ w_105) hG.1 hP hD hS hA (by decide +kernel) (by decide +kernel) (by decide +kernel) (by decide +kernel) (Nat.le_of_ble_eq_true rfl) (Nat.le_of_ble_eq_true rfl) (Nat.le_of_ble_eq_true rfl) (Nat.le_of_ble_eq_true rfl) (Nat.le_of_ble_eq_true rfl) d_14_63_10 (fun q0 r1 g91 H hg9 hP hD hS => ?_)
  clear hg9
  have hP := hP.sub (ws' := [(a0, .inr (18, [.ref a1, .ref a2, .int 0, .ref a3, .int 0, .ref a4, .int 0, .null, .int 0, .null, .long 0, .int 0, .null])), (a1, .inr (17, [.int 0, .ref a5, .ref a6, .int 0, .ref a7, .ref a8, .ref a9, .null, .null, .int 0, .ref a10, .ref a11, .ref a12, .int 0, .ref a13, .int 1])), (q0, .inl (z.2 8, 0, .inr (.inr (.inr (.inr g91)))))]) [0, 1, 2] rfl
  have hD := hD.sub (ws' := [(a0, .inr (18, [.ref a1, .ref a2, .int 0, .ref a3, .int 0, .ref a4, .int 0, .null, .int 0, .null, .long 0, .int 0, .null])), (a1, .inr (17, [.int 0, .ref a5, .ref a6, .int 0, .ref a7, .ref a8, .ref a9, .null, .null, .int 0, .ref a10, .ref a11, .ref a12, .int 0, .ref a13, .int 1])), (q0, .inl (z.2 8, 0, .inr (.inr (.inr (.inr g91)))))]) [0, 1, 2] rfl rfl
  refine W.eq (g2 := F0 m 14 ls [.ref q0]) rfl ?_
  refine lv_astore_n (lv' := [(2, .ref q0), (1, .int 0), (0, .ref a0)]) hx hb d_14_63_14 rfl hl (by decide) rfl (fun ls hl => ?_)
  refine lv_aload_n hx hb d_14_63_15 rfl (lv_at hl 2 rfl) ?_
  refine kV (As := []) (rest := []) (wr := [(q0, .inl (z.2 8, 0, .inr (.inr (.inr (.inr g91)))))]) (c290_BModel_poll l z a0 a1 a2 a3 a4 a5 a6 a7 a8 a9 a10 a11 a12 a13) hx hb hml hown hts w_2246 w_2243 w_2245 w_s_14a2f1 w_12 md_55febb ⟨Nat.le_of_ble_eq_true rfl, Nat.le_of_ble_eq_true rfl⟩ hG hZ hP hD hS hA 0 rfl rfl rfl [0, 1] [2] rfl rfl rfl rfl rfl hl.1 rfl (Nat.le_of_ble_eq_true rfl) d_14_63_16 ⟨Nat.le_of_ble_eq_true rfl, Nat.le_of_ble_eq_true rfl⟩ (fun u0 H locs hP hD hS => ?_)
  have hP : va_P z.1 classes [(q0, .inl (z.2 8, 0, .inr (.inr (.inr (.inr g91))))), (a0, .inr (18, [.ref a1, .ref a2, .int 0, .ref a3, .int 0, .ref a4, .int 0, .null, .int 0, .null, .long 0, .int 0, .null])), (a1, .inr (17, [.int 0, .ref a5, .ref a6, .int 0, .ref a7, .ref a8, .ref a9, .null, .null, .int 0, .ref a10, .ref a11, .ref a12, .int 0, .ref a13, .int 1]))] H := hP
  have hD : va_D A [(q0, .inl (z.2 8, 0, .inr (.inr (.inr (.inr g91))))), (a0, .inr (18, [.ref a1, .ref a2, .int 0, .ref a3, .int 0, .ref a4, .int 0, .null, .int 0, .null, .long 0, .int 0, .null])), (a1, .inr (17, [.int 0, .ref a5, .ref a6, .int 0, .ref a7, .ref a8, .ref a9, .null, .null, .int 0, .ref a10, .ref a11, .ref a12, .int 0, .ref a13, .int 1]))] := hD
  refine W.eq (g2 := F0 m 19 ls [.ref (u0.1 0)]) rfl ?_
  refine lv_astore_n (lv' := [(3, .ref (u0.1 0)), (2, .ref q0), (1, .int 0), (0, .ref a0)]) hx hb d_14_63_19 rfl hl (by decide) rfl (fun ls hl => ?_)
  refine lv_iconst (v := 0) hx hb d_14_63_20 (by decide +kernel) ?_
  refine lv_istore (lv' := [(4, .int 0), (3, .ref (u0.1 0)), (2, .ref q0), (1, .int 0), (0, .ref a0)]) hx hb d_14_63_21 hl (by decide) rfl (fun ls hl => ?_)
  refine lv_iload hx hb d_14_63_23 (lv_at hl 0 rfl) ?_
  refine lv_iload_n hx hb d_14_63_25 rfl (lv_at hl 3 rfl) ?_
  refine lv_icmp_ge (tgt := 76) hx hb d_14_63_26 (by decide) (fun _ => ?_) (fun c9 => absurd (by decide +kernel) c9)
  refine lv_aload_n hx hb d_14_63_76 rfl (lv_at hl 4 rfl) ?_
  refine lv_null hx hb d_14_63_77 ?_
  refine va_put (D := z.1) (ci := 18) (v := .null) (ty := .array .int) (C := "BallothallModel") (T := TX18) (N := 13) hx hb hts iX18 tyX18 tyX18_ok nmX18 hown hG.1 hP hD hS 1 rfl rfl 9 (by decide) (hts _ w_1654) (fun _ h9 => h9) rfl (by decide +kernel) rfl rfl (Nat.le_of_ble_eq_true rfl) d_14_63_78 (fun H locs hP hD hS => ?_)
  have hP : va_P z.1 classes [(q0, .inl (z.2 8, 0, .inr (.inr (.inr (.inr g91))))), (a0, .inr (18, [.ref a1, .ref a2, .int 0, .ref a3, .int 0, .ref a4, .int 0, .null, .int 0, .null, .long 0, .int 0, .null])), (a1, .inr (17, [.int 0, .ref a5, .ref a6, .int 0, .ref a7, .ref a8, .ref a9, .null, .null, .int 0, .ref a10, .ref a11, .ref a12, .int 0, .ref a13, .int 1]))] H := hP
  have hD : va_D A [(q0, .inl (z.2 8, 0, .inr (.inr (.inr (.inr g91))))), (a0, .inr (18, [.ref a1, .ref a2, .int 0, .ref a3, .int 0, .ref a4, .int 0, .null, .int 0, .null, .long 0, .int 0, .null])), (a1, .inr (17, [.int 0, .ref a5, .ref a6, .int 0, .ref a7, .ref a8, .ref a9, .null, .null, .int 0, .ref a10, .ref a11, .ref a12, .int 0, .ref a13, .int 1]))] := hD
  refine lv_aload_n hx hb d_14_63_81 rfl (lv_at hl 4 rfl) ?_
  refine lv_lconst (v := 0) hx hb d_14_63_82 (by decide +kernel) ?_
  refine va_put (D := z.1) (ci := 18) (v := .long 0) (ty := .long) (C := "BallothallModel") (T := TX18) (N := 13) hx hb hts iX18 tyX18 tyX18_ok nmX18 hown hG.1 hP hD hS 1 rfl rfl 10 (by decide) (hts _ w_1655) (fun _ h9 => h9) rfl (by decide +kernel) rfl rfl (Nat.le_of_ble_eq_true rfl) d_14_63_83 (fun H locs hP hD hS => ?_)
  have hP : va_P z.1 classes [(q0, .inl (z.2 8, 0, .inr (.inr (.inr (.inr g91))))), (a0, .inr (18, [.ref a1, .ref a2, .int 0, .ref a3, .int 0, .ref a4, .int 0, .null, .int 0, .null, .long 0, .int 0, .null])), (a1, .inr (17, [.int 0, .ref a5, .ref a6, .int 0, .ref a7, .ref a8, .ref a9, .null, .null, .int 0, .ref a10, .ref a11, .ref a12, .int 0, .ref a13, .int 1]))] H := hP
  have hD : va_D A [(q0, .inl (z.2 8, 0, .inr (.inr (.inr (.inr g91))))), (a0, .inr (18, [.ref a1, .ref a2, .int 0, .ref a3, .int 0, .ref a4, .int 0, .null, .int 0, .null, .long 0, .int 0, .null])), (a1, .inr (17, [.int 0, .ref a5, .ref a6, .int 0, .ref a7, .ref a8, .ref a9, .null, .null, .int 0, .ref a10, .ref a11, .ref a12, .int 0, .ref a13, .int 1]))] := hD
  refine lv_aload_n hx hb d_14_63_86 rfl (lv_at hl 4 rfl) ?_
  refine lv_aload_n hx hb d_14_63_87 rfl (lv_at hl 2 rfl) ?_
  refine lv_iload_n hx hb d_14_63_88 rfl (lv_at hl 3 rfl) ?_
  refine va_newa (atype := .int) (N' := 0) (a0 := (0, .inl (fun _ => 0))) hx hb (hts _ w_105) rfl hG.1 hP hD hS hA (fun _ => rfl) (by decide +kernel) (by decide +kernel) (Nat.le_of_ble_eq_true rfl) (Nat.le_of_ble_eq_true rfl) (Nat.le_of_ble_eq_true rfl) d_14_63_89 (fun q1 cA9 H hK9 hP hD hS => ?_)
  obtain rfl := ty_eq0 hK9
  clear hK9
  have hP : va_P z.1 classes [(q0, .inl (z.2 8, 0, .inr (.inr (.inr (.inr g91))))), (a0, .inr (18, [.ref a1, .ref a2, .int 0, .ref a3, .int 0, .ref a4, .int 0, .null, .int 0, .null, .long 0, .int 0, .null])), (a1, .inr (17, [.int 0, .ref a5, .ref a6, .int 0, .ref a7, .ref a8, .ref a9, .null, .null, .int 0, .ref a10, .ref a11, .ref a12, .int 0, .ref a13, .int 1])), (q1, .inl (z.2 0, 0, .inl (fun _ => 0)))] H := hP
  have hD : va_D A [(q0, .inl (z.2 8, 0, .inr (.inr (.inr (.inr g91))))), (a0, .inr (18, [.ref a1, .ref a2, .int 0, .ref a3, .int 0, .ref a4, .int 0, .null, .int 0, .null, .long 0, .int 0, .null])), (a1, .inr (17, [.int 0, .ref a5, .ref a6, .int 0, .ref a7, .ref a8, .ref a9, .null, .null, .int 0, .ref a10, .ref a11, .ref a12, .int 0, .ref a13, .int 1])), (q1, .inl (z.2 0, 0, .inl (fun _ => 0)))] := hD
  refine lv_iconst (v := 0) hx hb d_14_63_91 (by decide +kernel) ?_
  refine lv_iconst (v := 0) hx hb d_14_63_92 (by decide +kernel) ?_
  refine lv_lconst (v := 0) hx hb d_14_63_93 (by decide +kernel) ?_
  refine kV (As := [.ref q0, .ref q1, .int 0, .int 0, .long 0]) (rest := []) (wr := [(q0, .inl (z.2 8, 0, .inr (.inr (.inr (.inr g91))))), (a1, .inr (17, [.int 0, .ref a5, .ref a6, .int 0, .ref a7, .ref a8, .ref a9, .null, .null, .int 0, .ref a10, .ref a11, .ref a12, .int 0, .ref a13, .int 1]))]) (c398_BModel_tries l z a0 q0 q1 a1 a2 a3 a4) hx hb hml hown hts w_2330 w_2327 w_2329 w_s_264ff8 w_12 md_5dfead ⟨Nat.le_of_ble_eq_true rfl, Nat.le_of_ble_eq_true rfl⟩ hG hZ hP hD hS hA 1 rfl rfl rfl [3, 1] [0, 2] rfl rfl rfl rfl rfl hl.1 rfl (Nat.le_of_ble_eq_true rfl) d_14_63_94 ⟨Nat.le_of_ble_eq_true rfl, Nat.le_of_ble_eq_true rfl⟩ (fun u1 H locs hP hD hS => ?_)
  have hP : va_P z.1 classes [(q0, .inl (z.2 8, 0, .inr (.inr (.inr (.inr g91))))), (a1, .inr (17, [.int 0, .ref a5, .ref a6, .int 0, .ref a7, .ref a8, .ref a9, .null, .null, .int 0, .ref a10, .ref a11, .ref a12, .int 0, .ref a13, .int 1])), (q1, .inl (z.2 0, 0, .inl (fun _ => 0))), (a0, .inr (18, [.ref a1, .ref a2, .int 0, .ref a3, .int 0, .ref a4, .int 0, .null, .int 0, .ref (u1.1 0), .long 0, .int 0, .null])), ((u1.1 0), .inl (z.2 0, 0, .inl (fun _ => 0)))] H := hP
  have hD : va_D A [(q0, .inl (z.2 8, 0, .inr (.inr (.inr (.inr g91))))), (a1, .inr (17, [.int 0, .ref a5, .ref a6, .int 0, .ref a7, .ref a8, .ref a9, .null, .null, .int 0, .ref a10, .ref a11, .ref a12, .int 0, .ref a13, .int 1])), (q1, .inl (z.2 0, 0, .inl (fun _ => 0))), (a0, .inr (18, [.ref a1, .ref a2, .int 0, .ref a3, .int 0, .ref a4, .int 0, .null, .int 0, .ref (u1.1 0), .long 0, .int 0, .null])), ((u1.1 0), .inl (z.2 0, 0, .inl (fun _ => 0)))] := hD
  refine W.eq (g2 := F0 m 97 ls []) rfl ?_
  refine W.widen (k := 6) (n := 23) (Nat.le_of_ble_eq_true rfl) (Nat.le_of_ble_eq_true rfl) ?_
  exact W.vret hx hb hr (fun t ht hW => qk hP hD hS [3, 1, 4] rfl ((fun k => ([(u1.1 0)] : List Nat).getD k 0), (fun _ _ => none)) rfl rfl rfl ht) hS.2.2 d_14_63_97
set_option maxRecDepth 100000 in
set_option maxHeartbeats 4000000 in
theorem c400_BModel_ends (l : Launch) (z : Zz) (a0 a1 a2 a3 a4 a5 : Nat) : CT l z ⟨"BallothallModel", "ends", "(ZI)Z"⟩ prog_14_method_18_code 3 (some .boolean) [.ref a0, .int 0, .int 1] [(a0, .inr (18, [.ref a1, .ref a2, .int 0, .ref a3, .int 0, .ref a4, .int 0, .null, .int 0, .ref a5, .long 0, .int 0, .null]))] 0 0 0 0 (fun u => some (.int 1)) (fun u => [(a0, .inr (18, [.ref a1, .ref a2, .int 0, .ref a3, .int 0, .ref a4, .int 1, .null, .int 0, .ref a5, .long 0, .int 0, .null]))]) := by
  refine CT.of (own := "BallothallModel") (by decide +kernel) (Nat.le_of_ble_eq_true rfl) rfl (fun p e s m below meth c A ls hx hb hml hr hts hown hlocks hin hA hG hZ hP hD hS hl => ?_)
  have hl : lv_has ls 3 [(0, .ref a0), (1, .int 0), (2, .int 1)] := hl
  refine lv_aload_n hx hb d_14_18_0 rfl (lv_at hl 0 rfl) ?_
  refine lv_iload_n hx hb d_14_18_1 rfl (lv_at hl 1 rfl) ?_
  refine lv_if_eq (tgt := 9) hx hb d_14_18_2 (by decide) (fun _ => ?_) (fun c9 => absurd (by decide +kernel) c9)
  refine lv_iload_n hx hb d_14_18_9 rfl (lv_at hl 2 rfl) ?_
  refine va_put (D := z.1) (ci := 18) (v := .int 1) (ty := .int) (C := "BallothallModel") (T := TX18) (N := 13) hx hb hts iX18 tyX18 tyX18_ok nmX18 hown hG.1 hP hD hS 0 rfl rfl 6 (by decide) (hts _ w_1651) (fun _ h9 => h9) rfl (by decide +kernel) rfl rfl (Nat.le_of_ble_eq_true rfl) d_14_18_10 (fun H locs hP hD hS => ?_)
  have hP : va_P z.1 classes [(a0, .inr (18, [.ref a1, .ref a2, .int 0, .ref a3, .int 0, .ref a4, .int 1, .null, .int 0, .ref a5, .long 0, .int 0, .null]))] H := hP
  have hD : va_D A [(a0, .inr (18, [.ref a1, .ref a2, .int 0, .ref a3, .int 0, .ref a4, .int 1, .null, .int 0, .ref a5, .long 0, .int 0, .null]))] := hD
  refine lv_iload_n hx hb d_14_18_13 rfl (lv_at hl 1 rfl) ?_
  refine lv_if_ne (tgt := 21) hx hb d_14_18_14 (by decide) (fun c9 => absurd (by decide +kernel) c9) (fun _ => ?_)
  refine lv_iconst (v := 1) hx hb d_14_18_17 (by decide +kernel) ?_
  refine lv_goto (tgt := 22) hx hb d_14_18_18 (by decide) ?_
  refine W.widen (k := 0) (n := 0) (Nat.le_of_ble_eq_true rfl) (Nat.le_of_ble_eq_true rfl) ?_
  exact W.zret hx hb hr rfl (fun t ht hW => qk hP hD hS [0] rfl ((fun k => k), (fun _ _ => none)) rfl rfl rfl ht) hS.2.2 d_14_18_22
set_option maxRecDepth 100000 in
set_option maxHeartbeats 4000000 in
theorem c401_BModel_consensusAt (l : Launch) (z : Zz) (a0 a1 a2 a3 a4 a5 a6 a7 a8 a9 a10 a11 a12 a13 : Nat) (x0 : Int32) (h0 : x0 < 0) : CT l z ⟨"BallothallModel", "consensusAt", "(I)I"⟩ prog_14_method_65_code 2 (some .int) [.ref a0, .int x0] [(a0, .inr (18, [.ref a1, .ref a2, .int 0, .ref a3, .int 0, .ref a4, .int 0, .null, .int 0, .null, .long 0, .int 0, .null])), (a1, .inr (17, [.int 0, .ref a5, .ref a6, .int 0, .ref a7, .ref a8, .ref a9, .null, .null, .int 0, .ref a10, .ref a11, .ref a12, .int 0, .ref a13, .int 1]))] 4 131 6 23 (fun u => some (.int 0)) (fun u => [(a0, .inr (18, [.ref a1, .ref a2, .int 0, .ref a3, .int 0, .ref a4, .int 1, .null, .int 0, .ref (u.1 0), .long 0, .int 0, .null])), (a1, .inr (17, [.int 0, .ref a5, .ref a6, .int 0, .ref a7, .ref a8, .ref a9, .null, .null, .int 0, .ref a10, .ref a11, .ref a12, .int 0, .ref a13, .int 1]))]) := by
  refine CT.of (own := "BallothallModel") (by decide +kernel) (Nat.le_of_ble_eq_true rfl) rfl (fun p e s m below meth c A ls hx hb hml hr hts hown hlocks hin hA hG hZ hP hD hS hl => ?_)
  have hl : lv_has ls 2 [(0, .ref a0), (1, .int x0)] := hl
  refine lv_aload_n hx hb d_14_65_0 rfl (lv_at hl 0 rfl) ?_
  refine kV (As := []) (rest := []) (wr := []) (c399_BModel_consensus l z a0 a1 a2 a3 a4 a5 a6 a7 a8 a9 a10 a11 a12 a13) hx hb hml hown hts w_2326 w_2323 w_2325 w_s_94fd13 w_12 md_da2edc ⟨Nat.le_of_ble_eq_true rfl, Nat.le_of_ble_eq_true rfl⟩ hG hZ hP hD hS hA 0 rfl rfl rfl [0, 1] [] rfl rfl rfl rfl rfl hl.1 rfl (Nat.le_of_ble_eq_true rfl) d_14_65_1 ⟨Nat.le_of_ble_eq_true rfl, Nat.le_of_ble_eq_true rfl⟩ (fun u0 H locs hP hD hS => ?_)
  have hP : va_P z.1 classes [(a0, .inr (18, [.ref a1, .ref a2, .int 0, .ref a3, .int 0, .ref a4, .int 0, .null, .int 0, .ref (u0.1 0), .long 0, .int 0, .null])), (a1, .inr (17, [.int 0, .ref a5, .ref a6, .int 0, .ref a7, .ref a8, .ref a9, .null, .null, .int 0, .ref a10, .ref a11, .ref a12, .int 0, .ref a13, .int 1])), ((u0.1 0), .inl (z.2 0, 0, .inl (fun _ => 0)))] H := hP
  have hD : va_D A [(a0, .inr (18, [.ref a1, .ref a2, .int 0, .ref a3, .int 0, .ref a4, .int 0, .null, .int 0, .ref (u0.1 0), .long 0, .int 0, .null])), (a1, .inr (17, [.int 0, .ref a5, .ref a6, .int 0, .ref a7, .ref a8, .ref a9, .null, .null, .int 0, .ref a10, .ref a11, .ref a12, .int 0, .ref a13, .int 1])), ((u0.1 0), .inl (z.2 0, 0, .inl (fun _ => 0)))] := hD
  refine W.eq (g2 := F0 m 4 ls []) rfl ?_
  refine lv_aload_n hx hb d_14_65_4 rfl (lv_at hl 0 rfl) ?_
  refine lv_iload_n hx hb d_14_65_5 rfl (lv_at hl 1 rfl) ?_
  refine lv_iconst (v := 0) hx hb d_14_65_6 (by decide +kernel) ?_
  refine lv_aload_n hx hb d_14_65_7 rfl (lv_at hl 0 rfl) ?_
  refine va_get (D := z.1) (ci := 18) (v := .ref (u0.1 0)) (C := "BallothallModel") (T := TX18) (N := 13) hx hb hts iX18 hown hG.1 hP 0 rfl rfl 9 (by decide) (hts _ w_1654) (fun _ h9 => h9) rfl d_14_65_8 ?_
  refine va_alen (v := 0) hx hb hG.1 hP 2 0 rfl rfl rfl d_14_65_11 ?_
  refine lv_iconst (v := 1) hx hb d_14_65_12 (by decide +kernel) ?_
  refine lv_isub hx hb d_14_65_13 ?_
  refine nrm (x1 := (-1)) (by decide +kernel) ?_
  refine kS (As := [.int x0, .int 0, .int (-1)]) (rest := [.ref a0]) (wr := [(a0, .inr (18, [.ref a1, .ref a2, .int 0, .ref a3, .int 0, .ref a4, .int 0, .null, .int 0, .ref (u0.1 0), .long 0, .int 0, .null])), (a1, .inr (17, [.int 0, .ref a5, .ref a6, .int 0, .ref a7, .ref a8, .ref a9, .null, .null, .int 0, .ref a10, .ref a11, .ref a12, .int 0, .ref a13, .int 1])), ((u0.1 0), .inl (z.2 0, 0, .inl (fun _ => 0)))]) (c29_BModel_isIn l z x0 h0) hx hb hml hown hts w_1718 w_1716 w_1717 w_12 md_bca45c ⟨Nat.le_of_ble_eq_true rfl, Nat.le_of_ble_eq_true rfl⟩ hG hZ hP hD hS hA [] [0, 1, 2] rfl rfl rfl rfl rfl hl.1 rfl (Nat.le_of_ble_eq_true rfl) d_14_65_14 ⟨Nat.le_of_ble_eq_true rfl, Nat.le_of_ble_eq_true rfl⟩ (fun u1 H locs hP hD hS => ?_)
  have hP : va_P z.1 classes [(a0, .inr (18, [.ref a1, .ref a2, .int 0, .ref a3, .int 0, .ref a4, .int 0, .null, .int 0, .ref (u0.1 0), .long 0, .int 0, .null])), (a1, .inr (17, [.int 0, .ref a5, .ref a6, .int 0, .ref a7, .ref a8, .ref a9, .null, .null, .int 0, .ref a10, .ref a11, .ref a12, .int 0, .ref a13, .int 1])), ((u0.1 0), .inl (z.2 0, 0, .inl (fun _ => 0)))] H := hP
  have hD : va_D A [(a0, .inr (18, [.ref a1, .ref a2, .int 0, .ref a3, .int 0, .ref a4, .int 0, .null, .int 0, .ref (u0.1 0), .long 0, .int 0, .null])), (a1, .inr (17, [.int 0, .ref a5, .ref a6, .int 0, .ref a7, .ref a8, .ref a9, .null, .null, .int 0, .ref a10, .ref a11, .ref a12, .int 0, .ref a13, .int 1])), ((u0.1 0), .inl (z.2 0, 0, .inl (fun _ => 0)))] := hD
  refine W.eq (g2 := F0 m 17 ls [.int 0, .ref a0]) rfl ?_
  refine lv_iconst (v := 1) hx hb d_14_65_17 (by decide +kernel) ?_
  refine kV (As := [.int 0, .int 1]) (rest := []) (wr := [(a1, .inr (17, [.int 0, .ref a5, .ref a6, .int 0, .ref a7, .ref a8, .ref a9, .null, .null, .int 0, .ref a10, .ref a11, .ref a12, .int 0, .ref a13, .int 1])), ((u0.1 0), .inl (z.2 0, 0, .inl (fun _ => 0)))]) (c400_BModel_ends l z a0 a1 a2 a3 a4 (u0.1 0)) hx hb hml hown hts w_1696 w_1693 w_1695 w_s_f8f2b7 w_12 md_77b0f8 ⟨Nat.le_of_ble_eq_true rfl, Nat.le_of_ble_eq_true rfl⟩ hG hZ hP hD hS hA 0 rfl rfl rfl [0] [1, 2] rfl rfl rfl rfl rfl hl.1 rfl (Nat.le_of_ble_eq_true rfl) d_14_65_18 ⟨Nat.le_of_ble_eq_true rfl, Nat.le_of_ble_eq_true rfl⟩ (fun u2 H locs hP hD hS => ?_)
  have hP : va_P z.1 classes [(a1, .inr (17, [.int 0, .ref a5, .ref a6, .int 0, .ref a7, .ref a8, .ref a9, .null, .null, .int 0, .ref a10, .ref a11, .ref a12, .int 0, .ref a13, .int 1])), ((u0.1 0), .inl (z.2 0, 0, .inl (fun _ => 0))), (a0, .inr (18, [.ref a1, .ref a2, .int 0, .ref a3, .int 0, .ref a4, .int 1, .null, .int 0, .ref (u0.1 0), .long 0, .int 0, .null]))] H := hP
  have hD : va_D A [(a1, .inr (17, [.int 0, .ref a5, .ref a6, .int 0, .ref a7, .ref a8, .ref a9, .null, .null, .int 0, .ref a10, .ref a11, .ref a12, .int 0, .ref a13, .int 1])), ((u0.1 0), .inl (z.2 0, 0, .inl (fun _ => 0))), (a0, .inr (18, [.ref a1, .ref a2, .int 0, .ref a3, .int 0, .ref a4, .int 1, .null, .int 0, .ref (u0.1 0), .long 0, .int 0, .null]))] := hD
  refine W.eq (g2 := F0 m 21 ls [.int 1]) rfl ?_
  refine lv_if_eq (tgt := 28) hx hb d_14_65_21 (by decide) (fun c9 => absurd c9 (by decide +kernel)) (fun _ => ?_)
  refine lv_iconst (v := 0) hx hb d_14_65_24 (by decide +kernel) ?_
  refine lv_goto (tgt := 34) hx hb d_14_65_25 (by decide) ?_
  refine W.widen (k := 6) (n := 23) (Nat.le_of_ble_eq_true rfl) (Nat.le_of_ble_eq_true rfl) ?_
  exact W.iret hx hb hr (fun t ht hW => qk hP hD hS [2, 0] rfl ((fun k => ([(u0.1 0)] : List Nat).getD k 0), (fun _ _ => none)) rfl rfl rfl ht) hS.2.2 d_14_65_34
set_option maxRecDepth 100000 in
set_option maxHeartbeats 4000000 in
theorem c402_BModel_thrown (l : Launch) (z : Zz) (a0 a1 a2 a3 a4 a5 : Nat) : CT l z ⟨"BallothallModel", "thrown", "()I"⟩ prog_14_method_17_code 1 (some .int) [.ref a0] [(a0, .inr (18, [.ref a1, .ref a2, .int 0, .ref a3, .int 0, .ref a4, .int 1, .null, .int 0, .ref a5, .long 0, .int 0, .null]))] 0 0 0 0 (fun u => some (.int 1)) (fun u => [(a0, .inr (18, [.ref a1, .ref a2, .int 0, .ref a3, .int 0, .ref a4, .int 1, .null, .int 0, .ref a5, .long 0, .int 0, .null]))]) := by
  refine CT.of (own := "BallothallModel") (by decide +kernel) (Nat.le_of_ble_eq_true rfl) rfl (fun p e s m below meth c A ls hx hb hml hr hts hown hlocks hin hA hG hZ hP hD hS hl => ?_)
  have hl : lv_has ls 1 [(0, .ref a0)] := hl
  refine lv_aload_n hx hb d_14_17_0 rfl (lv_at hl 0 rfl) ?_
  refine va_get (D := z.1) (ci := 18) (v := .int 1) (C := "BallothallModel") (T := TX18) (N := 13) hx hb hts iX18 hown hG.1 hP 0 rfl rfl 6 (by decide) (hts _ w_1651) (fun _ h9 => h9) rfl d_14_17_1 ?_
  refine W.widen (k := 0) (n := 0) (Nat.le_of_ble_eq_true rfl) (Nat.le_of_ble_eq_true rfl) ?_
  exact W.iret hx hb hr (fun t ht hW => qk hP hD hS [0] rfl ((fun k => k), (fun _ _ => none)) rfl rfl rfl ht) hS.2.2 d_14_17_4
set_option maxRecDepth 100000 in
set_option maxHeartbeats 4000000 in
theorem c403_B_consensusAt (l : Launch) (z : Zz) (hl0 : l.stackTraces = false) (a0 a1 a2 a3 a4 a5 a6 a7 a8 a9 a10 a11 a12 a13 a14 a15 a16 a17 a18 : Nat) (x0 : Int32) (h0 : ¬ x0 < 0) : XT l z ⟨"Ballothall", "consensusAt", "(I)I"⟩ prog_1_method_30_code 2 (some .int) [.ref a0, .int x0] [(a0, .inr (11, [.ref a1, .ref a2, .ref a3, .ref a4, .ref a5, .ref a6, .ref a7, .ref a8, .ref a9, .ref a10, .int 0, .int 0, .ref a11, .int 0])), (a1, .inr (0, [.ref a12, .int 0, .int 0, .int 0, .ref a13, .ref a14, .ref a15, .ref a16, .ref a17, .ref a18]))] 7 127 1 6 "java/util/NoSuchElementException" := by
  refine XT.of (own := "Ballothall") (by decide +kernel) (Nat.le_of_ble_eq_true rfl) rfl (fun p e s m below meth c A ls hx hb hml hr hts hown hlocks hin hA hG hZ hP hD hS hl hnt => ?_)
  have hl : lv_has ls 2 [(0, .ref a0), (1, .int x0)] := hl
  refine lv_iload_n hx hb d_1_30_0 rfl (lv_at hl 1 rfl) ?_
  refine lv_aload_n hx hb d_1_30_1 rfl (lv_at hl 0 rfl) ?_
  refine va_get (D := z.1) (ci := 11) (v := .ref a1) (C := "Ballothall") (T := TX11) (N := 14) hx hb hts iX11 hown hG.1 hP 0 rfl rfl 0 (by decide) (hts _ w_406) (fun _ h9 => h9) rfl d_1_30_2 ?_
  refine va_getN (D := z.1) (ci := 0) (v := .int 0) (C := "Ballothall$BallotBox") (T := TX0) (N := 10) hx hb hts iX0 hown hG.1 hP 1 rfl rfl 2 (by decide) (va_Nw.use rfl (hG.2.1 _ n_57 rfl)) (fun _ h9 => h9) rfl d_1_30_5 ?_
  exact xS (As := [.int x0, .int 0]) (rest := []) (wr := [(a0, .inr (11, [.ref a1, .ref a2, .ref a3, .ref a4, .ref a5, .ref a6, .ref a7, .ref a8, .ref a9, .ref a10, .int 0, .int 0, .ref a11, .int 0])), (a1, .inr (0, [.ref a12, .int 0, .int 0, .int 0, .ref a13, .ref a14, .ref a15, .ref a16, .ref a17, .ref a18]))]) (c200_B_needPlace l z hl0 x0 h0) hx hb hml hown hts w_1082 w_1080 w_1081 w_1 md_541664 ⟨Nat.le_of_ble_eq_true rfl, Nat.le_of_ble_eq_true rfl⟩ hG hZ hP hD hS hA [] [0, 1] rfl rfl rfl rfl rfl hl.1 rfl (Nat.le_of_ble_eq_true rfl) d_1_30_8 ⟨Nat.le_of_ble_eq_true rfl, Nat.le_of_ble_eq_true rfl⟩ (fun q9 ce9 H locs hP hD hS h7 h8 h9 => x_out hnt hlocks hS h7 h8 h9 (Nat.le_of_ble_eq_true rfl) (Nat.le_of_ble_eq_true rfl))
set_option maxRecDepth 100000 in
set_option maxHeartbeats 4000000 in
theorem c404_BLaw_consensusAt (l : Launch) (z : Zz) (hl0 : l.stackTraces = false) (a0 a1 a2 a3 a4 a5 a6 a7 a8 a9 a10 a11 a12 a13 a14 a15 a16 a17 a18 a19 : Nat) (x0 : Int32) (h0 : ¬ x0 < 0) : HT l z ⟨"BallothallLaw", "consensusAt", "(LBallothall;I[J)I"⟩ method_24_code 4 (some .int) [(0, 9, 12, 61)] [.ref a0, .int x0, .ref a1] [(a0, .inr (11, [.ref a2, .ref a3, .ref a4, .ref a5, .ref a6, .ref a7, .ref a8, .ref a9, .ref a10, .ref a11, .int 0, .int 0, .ref a12, .int 0])), (a2, .inr (0, [.ref a13, .int 0, .int 0, .int 0, .ref a14, .ref a15, .ref a16, .ref a17, .ref a18, .ref a19]))] 8 156 1 6 (fun u => some (.int 1)) (fun u => []) := by
  refine HT.of (own := "BallothallLaw") (by decide +kernel) (Nat.le_of_ble_eq_true rfl) rfl (fun p e s m below meth c A ls hx hb hml hr hts hown hlocks hin hA hG hZ hP hD hS hl htab => ?_)
  have hl : lv_has ls 4 [(0, .ref a0), (1, .int x0), (2, .ref a1)] := hl
  refine lv_aload_n hx hb d_L24_0 rfl (lv_at hl 2 rfl) ?_
  refine lv_iconst (v := 0) hx hb d_L24_1 (by decide +kernel) ?_
  refine lv_aload_n hx hb d_L24_2 rfl (lv_at hl 0 rfl) ?_
  refine lv_iload_n hx hb d_L24_3 rfl (lv_at hl 1 rfl) ?_
  refine xV (As := [.int x0]) (rest := [.int 0, .ref a1]) (wr := []) (c403_B_consensusAt l z hl0 a0 a2 a3 a4 a5 a6 a7 a8 a9 a10 a11 a12 a13 a14 a15 a16 a17 a18 a19 x0 h0) hx hb hml hown hts w_1344 w_1341 w_1342 w_1343 w_1 md_b0ab85 ⟨Nat.le_of_ble_eq_true rfl, Nat.le_of_ble_eq_true rfl⟩ hG hZ hP hD hS hA 0 rfl rfl rfl [0, 1] [] rfl rfl rfl rfl rfl hl.1 rfl (Nat.le_of_ble_eq_true rfl) d_L24_4 ⟨Nat.le_of_ble_eq_true rfl, Nat.le_of_ble_eq_true rfl⟩ (fun q0 ce9 H locs hP hD hS h7 h8 h9 => ?_)
  have hP : va_P z.1 classes [] H := hP
  have hD : va_D A [] := hD
  refine vx_catch hown [] ⟨0, 9, 12, 61⟩ [] (htab.trans rfl) (fun _ h9 => absurd h9 List.not_mem_nil) rfl (by decide) (hts _ w_1075) (va_Nw.use rfl (hG.2.1 _ n_1085 rfl)) h7 h8 h9 ?_
  refine lv_astore_n (lv' := [(3, .ref q0), (0, .ref a0), (1, .int x0), (2, .ref a1)]) hx hb d_L24_12 rfl hl (by decide) rfl (fun ls hl => ?_)
  refine lv_iconst (v := 1) hx hb d_L24_13 (by decide +kernel) ?_
  refine W.widen (k := 1) (n := 6) (Nat.le_of_ble_eq_true rfl) (Nat.le_of_ble_eq_true rfl) ?_
  refine vx_ret ?_
  exact W.iret hx hb hr (fun t ht hW => qk hP hD hS [] rfl ((fun k => k), (fun _ _ => none)) rfl rfl rfl ht) hS.2.2 d_L24_14
set_option maxRecDepth 100000 in
set_option maxHeartbeats 4000000 in
theorem c405_BModel_consensusAt (l : Launch) (z : Zz) (a0 a1 a2 a3 a4 a5 a6 a7 a8 a9 a10 a11 a12 a13 : Nat) (x0 : Int32) (h0 : ¬ x0 < 0) (h1 : (-1) < x0) : CT l z ⟨"BallothallModel", "consensusAt", "(I)I"⟩ prog_14_method_65_code 2 (some .int) [.ref a0, .int x0] [(a0, .inr (18, [.ref a1, .ref a2, .int 0, .ref a3, .int 0, .ref a4, .int 0, .null, .int 0, .null, .long 0, .int 0, .null])), (a1, .inr (17, [.int 0, .ref a5, .ref a6, .int 0, .ref a7, .ref a8, .ref a9, .null, .null, .int 0, .ref a10, .ref a11, .ref a12, .int 0, .ref a13, .int 1]))] 4 131 6 23 (fun u => some (.int 0)) (fun u => [(a0, .inr (18, [.ref a1, .ref a2, .int 0, .ref a3, .int 0, .ref a4, .int 1, .null, .int 0, .ref (u.1 0), .long 0, .int 0, .null])), (a1, .inr (17, [.int 0, .ref a5, .ref a6, .int 0, .ref a7, .ref a8, .ref a9, .null, .null, .int 0, .ref a10, .ref a11, .ref a12, .int 0, .ref a13, .int 1]))]) := by
  refine CT.of (own := "BallothallModel") (by decide +kernel) (Nat.le_of_ble_eq_true rfl) rfl (fun p e s m below meth c A ls hx hb hml hr hts hown hlocks hin hA hG hZ hP hD hS hl => ?_)
  have hl : lv_has ls 2 [(0, .ref a0), (1, .int x0)] := hl
  refine lv_aload_n hx hb d_14_65_0 rfl (lv_at hl 0 rfl) ?_
  refine kV (As := []) (rest := []) (wr := []) (c399_BModel_consensus l z a0 a1 a2 a3 a4 a5 a6 a7 a8 a9 a10 a11 a12 a13) hx hb hml hown hts w_2326 w_2323 w_2325 w_s_94fd13 w_12 md_da2edc ⟨Nat.le_of_ble_eq_true rfl, Nat.le_of_ble_eq_true rfl⟩ hG hZ hP hD hS hA 0 rfl rfl rfl [0, 1] [] rfl rfl rfl rfl rfl hl.1 rfl (Nat.le_of_ble_eq_true rfl) d_14_65_1 ⟨Nat.le_of_ble_eq_true rfl, Nat.le_of_ble_eq_true rfl⟩ (fun u0 H locs hP hD hS => ?_)
  have hP : va_P z.1 classes [(a0, .inr (18, [.ref a1, .ref a2, .int 0, .ref a3, .int 0, .ref a4, .int 0, .null, .int 0, .ref (u0.1 0), .long 0, .int 0, .null])), (a1, .inr (17, [.int 0, .ref a5, .ref a6, .int 0, .ref a7, .ref a8, .ref a9, .null, .null, .int 0, .ref a10, .ref a11, .ref a12, .int 0, .ref a13, .int 1])), ((u0.1 0), .inl (z.2 0, 0, .inl (fun _ => 0)))] H := hP
  have hD : va_D A [(a0, .inr (18, [.ref a1, .ref a2, .int 0, .ref a3, .int 0, .ref a4, .int 0, .null, .int 0, .ref (u0.1 0), .long 0, .int 0, .null])), (a1, .inr (17, [.int 0, .ref a5, .ref a6, .int 0, .ref a7, .ref a8, .ref a9, .null, .null, .int 0, .ref a10, .ref a11, .ref a12, .int 0, .ref a13, .int 1])), ((u0.1 0), .inl (z.2 0, 0, .inl (fun _ => 0)))] := hD
  refine W.eq (g2 := F0 m 4 ls []) rfl ?_
  refine lv_aload_n hx hb d_14_65_4 rfl (lv_at hl 0 rfl) ?_
  refine lv_iload_n hx hb d_14_65_5 rfl (lv_at hl 1 rfl) ?_
  refine lv_iconst (v := 0) hx hb d_14_65_6 (by decide +kernel) ?_
  refine lv_aload_n hx hb d_14_65_7 rfl (lv_at hl 0 rfl) ?_
  refine va_get (D := z.1) (ci := 18) (v := .ref (u0.1 0)) (C := "BallothallModel") (T := TX18) (N := 13) hx hb hts iX18 hown hG.1 hP 0 rfl rfl 9 (by decide) (hts _ w_1654) (fun _ h9 => h9) rfl d_14_65_8 ?_
  refine va_alen (v := 0) hx hb hG.1 hP 2 0 rfl rfl rfl d_14_65_11 ?_
  refine lv_iconst (v := 1) hx hb d_14_65_12 (by decide +kernel) ?_
  refine lv_isub hx hb d_14_65_13 ?_
  refine nrm (x1 := (-1)) (by decide +kernel) ?_
  refine kS (As := [.int x0, .int 0, .int (-1)]) (rest := [.ref a0]) (wr := [(a0, .inr (18, [.ref a1, .ref a2, .int 0, .ref a3, .int 0, .ref a4, .int 0, .null, .int 0, .ref (u0.1 0), .long 0, .int 0, .null])), (a1, .inr (17, [.int 0, .ref a5, .ref a6, .int 0, .ref a7, .ref a8, .ref a9, .null, .null, .int 0, .ref a10, .ref a11, .ref a12, .int 0, .ref a13, .int 1])), ((u0.1 0), .inl (z.2 0, 0, .inl (fun _ => 0)))]) (c37_BModel_isIn l z x0 h0 h1) hx hb hml hown hts w_1718 w_1716 w_1717 w_12 md_bca45c ⟨Nat.le_of_ble_eq_true rfl, Nat.le_of_ble_eq_true rfl⟩ hG hZ hP hD hS hA [] [0, 1, 2] rfl rfl rfl rfl rfl hl.1 rfl (Nat.le_of_ble_eq_true rfl) d_14_65_14 ⟨Nat.le_of_ble_eq_true rfl, Nat.le_of_ble_eq_true rfl⟩ (fun u1 H locs hP hD hS => ?_)
  have hP : va_P z.1 classes [(a0, .inr (18, [.ref a1, .ref a2, .int 0, .ref a3, .int 0, .ref a4, .int 0, .null, .int 0, .ref (u0.1 0), .long 0, .int 0, .null])), (a1, .inr (17, [.int 0, .ref a5, .ref a6, .int 0, .ref a7, .ref a8, .ref a9, .null, .null, .int 0, .ref a10, .ref a11, .ref a12, .int 0, .ref a13, .int 1])), ((u0.1 0), .inl (z.2 0, 0, .inl (fun _ => 0)))] H := hP
  have hD : va_D A [(a0, .inr (18, [.ref a1, .ref a2, .int 0, .ref a3, .int 0, .ref a4, .int 0, .null, .int 0, .ref (u0.1 0), .long 0, .int 0, .null])), (a1, .inr (17, [.int 0, .ref a5, .ref a6, .int 0, .ref a7, .ref a8, .ref a9, .null, .null, .int 0, .ref a10, .ref a11, .ref a12, .int 0, .ref a13, .int 1])), ((u0.1 0), .inl (z.2 0, 0, .inl (fun _ => 0)))] := hD
  refine W.eq (g2 := F0 m 17 ls [.int 0, .ref a0]) rfl ?_
  refine lv_iconst (v := 1) hx hb d_14_65_17 (by decide +kernel) ?_
  refine kV (As := [.int 0, .int 1]) (rest := []) (wr := [(a1, .inr (17, [.int 0, .ref a5, .ref a6, .int 0, .ref a7, .ref a8, .ref a9, .null, .null, .int 0, .ref a10, .ref a11, .ref a12, .int 0, .ref a13, .int 1])), ((u0.1 0), .inl (z.2 0, 0, .inl (fun _ => 0)))]) (c400_BModel_ends l z a0 a1 a2 a3 a4 (u0.1 0)) hx hb hml hown hts w_1696 w_1693 w_1695 w_s_f8f2b7 w_12 md_77b0f8 ⟨Nat.le_of_ble_eq_true rfl, Nat.le_of_ble_eq_true rfl⟩ hG hZ hP hD hS hA 0 rfl rfl rfl [0] [1, 2] rfl rfl rfl rfl rfl hl.1 rfl (Nat.le_of_ble_eq_true rfl) d_14_65_18 ⟨Nat.le_of_ble_eq_true rfl, Nat.le_of_ble_eq_true rfl⟩ (fun u2 H locs hP hD hS => ?_)
  have hP : va_P z.1 classes [(a1, .inr (17, [.int 0, .ref a5, .ref a6, .int 0, .ref a7, .ref a8, .ref a9, .null, .null, .int 0, .ref a10, .ref a11, .ref a12, .int 0, .ref a13, .int 1])), ((u0.1 0), .inl (z.2 0, 0, .inl (fun _ => 0))), (a0, .inr (18, [.ref a1, .ref a2, .int 0, .ref a3, .int 0, .ref a4, .int 1, .null, .int 0, .ref (u0.1 0), .long 0, .int 0, .null]))] H := hP
  have hD : va_D A [(a1, .inr (17, [.int 0, .ref a5, .ref a6, .int 0, .ref a7, .ref a8, .ref a9, .null, .null, .int 0, .ref a10, .ref a11, .ref a12, .int 0, .ref a13, .int 1])), ((u0.1 0), .inl (z.2 0, 0, .inl (fun _ => 0))), (a0, .inr (18, [.ref a1, .ref a2, .int 0, .ref a3, .int 0, .ref a4, .int 1, .null, .int 0, .ref (u0.1 0), .long 0, .int 0, .null]))] := hD
  refine W.eq (g2 := F0 m 21 ls [.int 1]) rfl ?_
  refine lv_if_eq (tgt := 28) hx hb d_14_65_21 (by decide) (fun c9 => absurd c9 (by decide +kernel)) (fun _ => ?_)
  refine lv_iconst (v := 0) hx hb d_14_65_24 (by decide +kernel) ?_
  refine lv_goto (tgt := 34) hx hb d_14_65_25 (by decide) ?_
  refine W.widen (k := 6) (n := 23) (Nat.le_of_ble_eq_true rfl) (Nat.le_of_ble_eq_true rfl) ?_
  exact W.iret hx hb hr (fun t ht hW => qk hP hD hS [2, 0] rfl ((fun k => ([(u0.1 0)] : List Nat).getD k 0), (fun _ _ => none)) rfl rfl rfl ht) hS.2.2 d_14_65_34
set_option maxRecDepth 100000 in
set_option maxHeartbeats 4000000 in
theorem c406_Poll_findDistances (l : Launch) (z : Zz) (a0 a1 a2 a3 a4 a5 a6 a7 a8 a9 a10 : Nat) : CT l z ⟨"Ballothall$Poll", "findDistances", "()V"⟩ prog_11_method_15_code 7 none [.ref a0] [(a0, .inr (9, [.ref a1, .int 0, .int 0, .ref a2, .ref a3, .ref a4, .ref a5, .ref a6, .ref a7, .ref a8, .ref a9, .ref a10])), (a10, .inl (z.2 1, 256, .inr (.inl (fun _ => 0))))] 0 0 0 0 (fun u => none) (fun u => [(a0, .inr (9, [.ref a1, .int 0, .int 0, .ref a2, .ref a3, .ref a4, .ref a5, .ref a6, .ref a7, .ref a8, .ref a9, .ref a10])), (a10, .inl (z.2 1, 256, .inr (.inl (fun _ => 0))))]) := by
  refine CT.of (own := "Ballothall$Poll") (by decide +kernel) (Nat.le_of_ble_eq_true rfl) rfl (fun p e s m below meth c A ls hx hb hml hr hts hown hlocks hin hA hG hZ hP hD hS hl => ?_)
  have hl : lv_has ls 7 [(0, .ref a0)] := hl
  refine lv_aload_n hx hb d_11_15_0 rfl (lv_at hl 0 rfl) ?_
  refine va_get (D := z.1) (ci := 9) (v := .ref a10) (C := "Ballothall$Poll") (T := TX9) (N := 12) hx hb hts iX9 hown hG.1 hP 0 rfl rfl 11 (by decide) (hts _ w_125) (fun _ h9 => h9) rfl d_11_15_1 ?_
  refine lv_iconst (v := 0) hx hb d_11_15_4 (by decide +kernel) ?_
  refine lv_lconst (v := 0) hx hb d_11_15_5 (by decide +kernel) ?_
  refine va_last hx hb hG.1 hP hD hS 1 1 rfl rfl (vin rfl) d_11_15_6 (fun H locs hP hD hS => ?_)
  rw [updL_z] at hP hD
  have hP : va_P z.1 classes [(a0, .inr (9, [.ref a1, .int 0, .int 0, .ref a2, .ref a3, .ref a4, .ref a5, .ref a6, .ref a7, .ref a8, .ref a9, .ref a10])), (a10, .inl (z.2 1, 256, .inr (.inl (fun _ => 0))))] H := hP
  have hD : va_D A [(a0, .inr (9, [.ref a1, .int 0, .int 0, .ref a2, .ref a3, .ref a4, .ref a5, .ref a6, .ref a7, .ref a8, .ref a9, .ref a10])), (a10, .inl (z.2 1, 256, .inr (.inl (fun _ => 0))))] := hD
  refine lv_iconst (v := 1) hx hb d_11_15_7 (by decide +kernel) ?_
  refine lv_istore_n (lv' := [(1, .int 1), (0, .ref a0)]) hx hb d_11_15_8 rfl hl (by decide) rfl (fun ls hl => ?_)
  refine lv_iload_n hx hb d_11_15_9 rfl (lv_at hl 0 rfl) ?_
  refine lv_aload_n hx hb d_11_15_10 rfl (lv_at hl 1 rfl) ?_
  refine va_get (D := z.1) (ci := 9) (v := .int 0) (C := "Ballothall$Poll") (T := TX9) (N := 12) hx hb hts iX9 hown hG.1 hP 0 rfl rfl 1 (by decide) (hts _ w_113) (fun _ h9 => h9) rfl d_11_15_11 ?_
  refine lv_icmp_gt (tgt := 93) hx hb d_11_15_14 (by decide) (fun _ => ?_) (fun c9 => absurd (by decide +kernel) c9)
  refine W.widen (k := 0) (n := 0) (Nat.le_of_ble_eq_true rfl) (Nat.le_of_ble_eq_true rfl) ?_
  exact W.vret hx hb hr (fun t ht hW => qk hP hD hS [0, 1] rfl ((fun k => k), (fun _ _ => none)) rfl rfl rfl ht) hS.2.2 d_11_15_93
set_option maxRecDepth 100000 in
set_option maxHeartbeats 4000000 in
theorem c407_B_consensusDistance (l : Launch) (z : Zz) (a0 a1 a2 a3 a4 a5 a6 a7 a8 a9 a10 a11 a12 a13 a14 a15 a16 a17 a18 a19 a20 a21 a22 a23 a24 a25 a26 a27 : Nat) : CT l z ⟨"Ballothall", "consensusDistance", "()J"⟩ prog_1_method_31_code 1 (some .long) [.ref a0] [(a0, .inr (11, [.ref a1, .ref a2, .ref a3, .ref a4, .ref a5, .ref a6, .ref a7, .ref a8, .ref a9, .ref a10, .int 0, .int 0, .ref a11, .int 0])), (a1, .inr (0, [.ref a12, .int 0, .int 0, .int 0, .ref a13, .ref a14, .ref a15, .ref a16, .ref a17, .ref a18])), (a2, .inr (9, [.ref a1, .int 0, .int 0, .ref a19, .ref a20, .ref a21, .ref a22, .ref a23, .ref a24, .ref a25, .ref a26, .ref a27])), (a19, .inl (z.2 0, 31, .inl (fun _ => 0))), (a20, .inl (z.2 0, 8, .inl (fun _ => 0))), (a21, .inl (z.2 0, 8, .inl (fun _ => 0))), (a22, .inl (z.2 0, 64, .inl (fun _ => 0))), (a27, .inl (z.2 1, 256, .inr (.inl (fun _ => 0))))] 3 81 0 0 (fun u => some (.long 0)) (fun u => [(a0, .inr (11, [.ref a1, .ref a2, .ref a3, .ref a4, .ref a5, .ref a6, .ref a7, .ref a8, .ref a9, .ref a10, .int 0, .int 0, .ref a11, .int 0])), (a1, .inr (0, [.ref a12, .int 0, .int 0, .int 0, .ref a13, .ref a14, .ref a15, .ref a16, .ref a17, .ref a18])), (a2, .inr (9, [.ref a1, .int 0, .int 0, .ref a19, .ref a20, .ref a21, .ref a22, .ref a23, .ref a24, .ref a25, .ref a26, .ref a27])), (a19, .inl (z.2 0, 31, .inl (fun _ => 0))), (a20, .inl (z.2 0, 8, .inl (fun _ => 0))), (a21, .inl (z.2 0, 8, .inl (fun _ => 0))), (a22, .inl (z.2 0, 64, .inl (fun _ => 0))), (a27, .inl (z.2 1, 256, .inr (.inl (fun _ => 0))))]) := by
  refine CT.of (own := "Ballothall") (by decide +kernel) (Nat.le_of_ble_eq_true rfl) rfl (fun p e s m below meth c A ls hx hb hml hr hts hown hlocks hin hA hG hZ hP hD hS hl => ?_)
  have hl : lv_has ls 1 [(0, .ref a0)] := hl
  refine lv_aload_n hx hb d_1_31_0 rfl (lv_at hl 0 rfl) ?_
  refine va_get (D := z.1) (ci := 11) (v := .ref a2) (C := "Ballothall") (T := TX11) (N := 14) hx hb hts iX11 hown hG.1 hP 0 rfl rfl 1 (by decide) (hts _ w_407) (fun _ h9 => h9) rfl d_1_31_1 ?_
  refine lv_aload_n hx hb d_1_31_4 rfl (lv_at hl 0 rfl) ?_
  refine va_get (D := z.1) (ci := 11) (v := .ref a1) (C := "Ballothall") (T := TX11) (N := 14) hx hb hts iX11 hown hG.1 hP 0 rfl rfl 0 (by decide) (hts _ w_406) (fun _ h9 => h9) rfl d_1_31_5 ?_
  refine kVN (As := []) (rest := [.ref a2]) (wr := [(a0, .inr (11, [.ref a1, .ref a2, .ref a3, .ref a4, .ref a5, .ref a6, .ref a7, .ref a8, .ref a9, .ref a10, .int 0, .int 0, .ref a11, .int 0])), (a2, .inr (9, [.ref a1, .int 0, .int 0, .ref a19, .ref a20, .ref a21, .ref a22, .ref a23, .ref a24, .ref a25, .ref a26, .ref a27])), (a19, .inl (z.2 0, 31, .inl (fun _ => 0))), (a20, .inl (z.2 0, 8, .inl (fun _ => 0))), (a21, .inl (z.2 0, 8, .inl (fun _ => 0))), (a22, .inl (z.2 0, 64, .inl (fun _ => 0))), (a27, .inl (z.2 1, 256, .inr (.inl (fun _ => 0))))]) (c269_BallotBox_everybody l z a1 a12 a13 a14 a15 a16 a17 a18) hx hb hml hown hts w_480 n_477 w_479 w_s_8b8b67 w_2 md_b59579 ⟨Nat.le_of_ble_eq_true rfl, Nat.le_of_ble_eq_true rfl⟩ hG hZ hP hD hS hA 1 rfl rfl rfl [1] [0, 2, 3, 4, 5, 6, 7] rfl rfl rfl rfl rfl hl.1 rfl (Nat.le_of_ble_eq_true rfl) d_1_31_8 ⟨Nat.le_of_ble_eq_true rfl, Nat.le_of_ble_eq_true rfl⟩ (fun u0 H locs hP hD hS => ?_)
  have hP : va_P z.1 classes [(a0, .inr (11, [.ref a1, .ref a2, .ref a3, .ref a4, .ref a5, .ref a6, .ref a7, .ref a8, .ref a9, .ref a10, .int 0, .int 0, .ref a11, .int 0])), (a2, .inr (9, [.ref a1, .int 0, .int 0, .ref a19, .ref a20, .ref a21, .ref a22, .ref a23, .ref a24, .ref a25, .ref a26, .ref a27])), (a19, .inl (z.2 0, 31, .inl (fun _ => 0))), (a20, .inl (z.2 0, 8, .inl (fun _ => 0))), (a21, .inl (z.2 0, 8, .inl (fun _ => 0))), (a22, .inl (z.2 0, 64, .inl (fun _ => 0))), (a27, .inl (z.2 1, 256, .inr (.inl (fun _ => 0)))), (a1, .inr (0, [.ref a12, .int 0, .int 0, .int 0, .ref a13, .ref a14, .ref a15, .ref a16, .ref a17, .ref a18]))] H := hP
  have hD : va_D A [(a0, .inr (11, [.ref a1, .ref a2, .ref a3, .ref a4, .ref a5, .ref a6, .ref a7, .ref a8, .ref a9, .ref a10, .int 0, .int 0, .ref a11, .int 0])), (a2, .inr (9, [.ref a1, .int 0, .int 0, .ref a19, .ref a20, .ref a21, .ref a22, .ref a23, .ref a24, .ref a25, .ref a26, .ref a27])), (a19, .inl (z.2 0, 31, .inl (fun _ => 0))), (a20, .inl (z.2 0, 8, .inl (fun _ => 0))), (a21, .inl (z.2 0, 8, .inl (fun _ => 0))), (a22, .inl (z.2 0, 64, .inl (fun _ => 0))), (a27, .inl (z.2 1, 256, .inr (.inl (fun _ => 0)))), (a1, .inr (0, [.ref a12, .int 0, .int 0, .int 0, .ref a13, .ref a14, .ref a15, .ref a16, .ref a17, .ref a18]))] := hD
  refine W.eq (g2 := F0 m 11 ls [.int 0, .ref a2]) rfl ?_
  refine kVN (As := [.int 0]) (rest := []) (wr := [(a0, .inr (11, [.ref a1, .ref a2, .ref a3, .ref a4, .ref a5, .ref a6, .ref a7, .ref a8, .ref a9, .ref a10, .int 0, .int 0, .ref a11, .int 0])), (a27, .inl (z.2 1, 256, .inr (.inl (fun _ => 0))))]) (c285_Poll_open l z a2 a1 a19 a20 a21 a22 a23 a24 a25 a26 a27 a12 a13 a14 a15 a16 a17 a18) hx hb hml hown hts w_484 n_481 w_483 w_s_229dc4 w_3 md_60bc9b ⟨Nat.le_of_ble_eq_true rfl, Nat.le_of_ble_eq_true rfl⟩ hG hZ hP hD hS hA 1 rfl rfl rfl [1, 2, 3, 4, 5, 7] [0, 6] rfl rfl rfl rfl rfl hl.1 rfl (Nat.le_of_ble_eq_true rfl) d_1_31_11 ⟨Nat.le_of_ble_eq_true rfl, Nat.le_of_ble_eq_true rfl⟩ (fun u1 H locs hP hD hS => ?_)
  have hP : va_P z.1 classes [(a0, .inr (11, [.ref a1, .ref a2, .ref a3, .ref a4, .ref a5, .ref a6, .ref a7, .ref a8, .ref a9, .ref a10, .int 0, .int 0, .ref a11, .int 0])), (a27, .inl (z.2 1, 256, .inr (.inl (fun _ => 0)))), (a2, .inr (9, [.ref a1, .int 0, .int 0, .ref a19, .ref a20, .ref a21, .ref a22, .ref a23, .ref a24, .ref a25, .ref a26, .ref a27])), (a19, .inl (z.2 0, 31, .inl (fun _ => 0))), (a20, .inl (z.2 0, 8, .inl (fun _ => 0))), (a21, .inl (z.2 0, 8, .inl (fun _ => 0))), (a22, .inl (z.2 0, 64, .inl (fun _ => 0))), (a1, .inr (0, [.ref a12, .int 0, .int 0, .int 0, .ref a13, .ref a14, .ref a15, .ref a16, .ref a17, .ref a18]))] H := hP
  have hD : va_D A [(a0, .inr (11, [.ref a1, .ref a2, .ref a3, .ref a4, .ref a5, .ref a6, .ref a7, .ref a8, .ref a9, .ref a10, .int 0, .int 0, .ref a11, .int 0])), (a27, .inl (z.2 1, 256, .inr (.inl (fun _ => 0)))), (a2, .inr (9, [.ref a1, .int 0, .int 0, .ref a19, .ref a20, .ref a21, .ref a22, .ref a23, .ref a24, .ref a25, .ref a26, .ref a27])), (a19, .inl (z.2 0, 31, .inl (fun _ => 0))), (a20, .inl (z.2 0, 8, .inl (fun _ => 0))), (a21, .inl (z.2 0, 8, .inl (fun _ => 0))), (a22, .inl (z.2 0, 64, .inl (fun _ => 0))), (a1, .inr (0, [.ref a12, .int 0, .int 0, .int 0, .ref a13, .ref a14, .ref a15, .ref a16, .ref a17, .ref a18]))] := hD
  refine W.eq (g2 := F0 m 14 ls []) rfl ?_
  refine lv_aload_n hx hb d_1_31_14 rfl (lv_at hl 0 rfl) ?_
  refine va_get (D := z.1) (ci := 11) (v := .ref a2) (C := "Ballothall") (T := TX11) (N := 14) hx hb hts iX11 hown hG.1 hP 0 rfl rfl 1 (by decide) (hts _ w_407) (fun _ h9 => h9) rfl d_1_31_15 ?_
  refine kVN (As := []) (rest := []) (wr := [(a0, .inr (11, [.ref a1, .ref a2, .ref a3, .ref a4, .ref a5, .ref a6, .ref a7, .ref a8, .ref a9, .ref a10, .int 0, .int 0, .ref a11, .int 0])), (a19, .inl (z.2 0, 31, .inl (fun _ => 0))), (a20, .inl (z.2 0, 8, .inl (fun _ => 0))), (a21, .inl (z.2 0, 8, .inl (fun _ => 0))), (a22, .inl (z.2 0, 64, .inl (fun _ => 0))), (a1, .inr (0, [.ref a12, .int 0, .int 0, .int 0, .ref a13, .ref a14, .ref a15, .ref a16, .ref a17, .ref a18]))]) (c406_Poll_findDistances l z a2 a1 a19 a20 a21 a22 a23 a24 a25 a26 a27) hx hb hml hown hts w_572 n_569 w_571 w_s_d32e6f w_3 md_4b14b3 ⟨Nat.le_of_ble_eq_true rfl, Nat.le_of_ble_eq_true rfl⟩ hG hZ hP hD hS hA 2 rfl rfl rfl [2, 1] [0, 3, 4, 5, 6, 7] rfl rfl rfl rfl rfl hl.1 rfl (Nat.le_of_ble_eq_true rfl) d_1_31_18 ⟨Nat.le_of_ble_eq_true rfl, Nat.le_of_ble_eq_true rfl⟩ (fun u2 H locs hP hD hS => ?_)
  have hP : va_P z.1 classes [(a0, .inr (11, [.ref a1, .ref a2, .ref a3, .ref a4, .ref a5, .ref a6, .ref a7, .ref a8, .ref a9, .ref a10, .int 0, .int 0, .ref a11, .int 0])), (a19, .inl (z.2 0, 31, .inl (fun _ => 0))), (a20, .inl (z.2 0, 8, .inl (fun _ => 0))), (a21, .inl (z.2 0, 8, .inl (fun _ => 0))), (a22, .inl (z.2 0, 64, .inl (fun _ => 0))), (a1, .inr (0, [.ref a12, .int 0, .int 0, .int 0, .ref a13, .ref a14, .ref a15, .ref a16, .ref a17, .ref a18])), (a2, .inr (9, [.ref a1, .int 0, .int 0, .ref a19, .ref a20, .ref a21, .ref a22, .ref a23, .ref a24, .ref a25, .ref a26, .ref a27])), (a27, .inl (z.2 1, 256, .inr (.inl (fun _ => 0))))] H := hP
  have hD : va_D A [(a0, .inr (11, [.ref a1, .ref a2, .ref a3, .ref a4, .ref a5, .ref a6, .ref a7, .ref a8, .ref a9, .ref a10, .int 0, .int 0, .ref a11, .int 0])), (a19, .inl (z.2 0, 31, .inl (fun _ => 0))), (a20, .inl (z.2 0, 8, .inl (fun _ => 0))), (a21, .inl (z.2 0, 8, .inl (fun _ => 0))), (a22, .inl (z.2 0, 64, .inl (fun _ => 0))), (a1, .inr (0, [.ref a12, .int 0, .int 0, .int 0, .ref a13, .ref a14, .ref a15, .ref a16, .ref a17, .ref a18])), (a2, .inr (9, [.ref a1, .int 0, .int 0, .ref a19, .ref a20, .ref a21, .ref a22, .ref a23, .ref a24, .ref a25, .ref a26, .ref a27])), (a27, .inl (z.2 1, 256, .inr (.inl (fun _ => 0))))] := hD
  refine W.eq (g2 := F0 m 21 ls []) rfl ?_
  refine lv_aload_n hx hb d_1_31_21 rfl (lv_at hl 0 rfl) ?_
  refine va_get (D := z.1) (ci := 11) (v := .ref a2) (C := "Ballothall") (T := TX11) (N := 14) hx hb hts iX11 hown hG.1 hP 0 rfl rfl 1 (by decide) (hts _ w_407) (fun _ h9 => h9) rfl d_1_31_22 ?_
  refine va_getN (D := z.1) (ci := 9) (v := .ref a27) (C := "Ballothall$Poll") (T := TX9) (N := 12) hx hb hts iX9 hown hG.1 hP 6 rfl rfl 11 (by decide) (va_Nw.use rfl (hG.2.1 _ n_126 rfl)) (fun _ h9 => h9) rfl d_1_31_25 ?_
  refine lv_aload_n hx hb d_1_31_28 rfl (lv_at hl 0 rfl) ?_
  refine va_get (D := z.1) (ci := 11) (v := .ref a1) (C := "Ballothall") (T := TX11) (N := 14) hx hb hts iX11 hown hG.1 hP 0 rfl rfl 0 (by decide) (hts _ w_406) (fun _ h9 => h9) rfl d_1_31_29 ?_
  refine kVN (As := []) (rest := [.ref a27]) (wr := [(a0, .inr (11, [.ref a1, .ref a2, .ref a3, .ref a4, .ref a5, .ref a6, .ref a7, .ref a8, .ref a9, .ref a10, .int 0, .int 0, .ref a11, .int 0])), (a19, .inl (z.2 0, 31, .inl (fun _ => 0))), (a20, .inl (z.2 0, 8, .inl (fun _ => 0))), (a21, .inl (z.2 0, 8, .inl (fun _ => 0))), (a22, .inl (z.2 0, 64, .inl (fun _ => 0))), (a2, .inr (9, [.ref a1, .int 0, .int 0, .ref a19, .ref a20, .ref a21, .ref a22, .ref a23, .ref a24, .ref a25, .ref a26, .ref a27])), (a27, .inl (z.2 1, 256, .inr (.inl (fun _ => 0))))]) (c269_BallotBox_everybody l z a1 a12 a13 a14 a15 a16 a17 a18) hx hb hml hown hts w_480 n_477 w_479 w_s_8b8b67 w_2 md_b59579 ⟨Nat.le_of_ble_eq_true rfl, Nat.le_of_ble_eq_true rfl⟩ hG hZ hP hD hS hA 5 rfl rfl rfl [5] [0, 1, 2, 3, 4, 6, 7] rfl rfl rfl rfl rfl hl.1 rfl (Nat.le_of_ble_eq_true rfl) d_1_31_32 ⟨Nat.le_of_ble_eq_true rfl, Nat.le_of_ble_eq_true rfl⟩ (fun u3 H locs hP hD hS => ?_)
  have hP : va_P z.1 classes [(a0, .inr (11, [.ref a1, .ref a2, .ref a3, .ref a4, .ref a5, .ref a6, .ref a7, .ref a8, .ref a9, .ref a10, .int 0, .int 0, .ref a11, .int 0])), (a19, .inl (z.2 0, 31, .inl (fun _ => 0))), (a20, .inl (z.2 0, 8, .inl (fun _ => 0))), (a21, .inl (z.2 0, 8, .inl (fun _ => 0))), (a22, .inl (z.2 0, 64, .inl (fun _ => 0))), (a2, .inr (9, [.ref a1, .int 0, .int 0, .ref a19, .ref a20, .ref a21, .ref a22, .ref a23, .ref a24, .ref a25, .ref a26, .ref a27])), (a27, .inl (z.2 1, 256, .inr (.inl (fun _ => 0)))), (a1, .inr (0, [.ref a12, .int 0, .int 0, .int 0, .ref a13, .ref a14, .ref a15, .ref a16, .ref a17, .ref a18]))] H := hP
  have hD : va_D A [(a0, .inr (11, [.ref a1, .ref a2, .ref a3, .ref a4, .ref a5, .ref a6, .ref a7, .ref a8, .ref a9, .ref a10, .int 0, .int 0, .ref a11, .int 0])), (a19, .inl (z.2 0, 31, .inl (fun _ => 0))), (a20, .inl (z.2 0, 8, .inl (fun _ => 0))), (a21, .inl (z.2 0, 8, .inl (fun _ => 0))), (a22, .inl (z.2 0, 64, .inl (fun _ => 0))), (a2, .inr (9, [.ref a1, .int 0, .int 0, .ref a19, .ref a20, .ref a21, .ref a22, .ref a23, .ref a24, .ref a25, .ref a26, .ref a27])), (a27, .inl (z.2 1, 256, .inr (.inl (fun _ => 0)))), (a1, .inr (0, [.ref a12, .int 0, .int 0, .int 0, .ref a13, .ref a14, .ref a15, .ref a16, .ref a17, .ref a18]))] := hD
  refine W.eq (g2 := F0 m 35 ls [.int 0, .ref a27]) rfl ?_
  refine va_lald hx hb hG.1 hP 6 1 rfl rfl (vin rfl) d_1_31_35 ?_
  refine nrmL (x1 := 0) rfl ?_
  refine W.widen (k := 0) (n := 0) (Nat.le_of_ble_eq_true rfl) (Nat.le_of_ble_eq_true rfl) ?_
  exact W.lret hx hb hr (fun t ht hW => qk hP hD hS [0, 7, 5, 1, 2, 3, 4, 6] rfl ((fun k => k), (fun _ _ => none)) rfl rfl rfl ht) hS.2.2 d_1_31_36
set_option maxRecDepth 100000 in
set_option maxHeartbeats 4000000 in
theorem c408_BModel_tries (l : Launch) (z : Zz) (a0 a1 a2 a3 a4 a5 a6 : Nat) : CT l z ⟨"BallothallModel", "tries", "([[I[IIIJ)V"⟩ prog_14_method_64_code 11 none [.ref a0, .ref a1, .ref a2, .int 0, .int 0, .long 0] [(a2, .inl (z.2 0, 0, .inl (fun _ => 0))), (a0, .inr (18, [.ref a3, .ref a4, .int 0, .ref a5, .int 0, .ref a6, .int 0, .null, .int 0, .null, .long 0, .int 0, .null]))] 1 60 1 0 (fun u => none) (fun u => [(a2, .inl (z.2 0, 0, .inl (fun _ => 0))), (a0, .inr (18, [.ref a3, .ref a4, .int 0, .ref a5, .int 0, .ref a6, .int 0, .null, .int 0, .ref (u.1 0), .long 0, .int 0, .null]))]) := by
  refine CT.of (own := "BallothallModel") (by decide +kernel) (Nat.le_of_ble_eq_true rfl) rfl (fun p e s m below meth c A ls hx hb hml hr hts hown hlocks hin hA hG hZ hP hD hS hl => ?_)
  have hl : lv_has ls 11 [(0, .ref a0), (1, .ref a1), (2, .ref a2), (3, .int 0), (4, .int 0), (5, .long 0)] := hl
  refine lv_iload_n hx hb d_14_64_0 rfl (lv_at hl 3 rfl) ?_
  refine lv_aload_n hx hb d_14_64_1 rfl (lv_at hl 2 rfl) ?_
  refine va_alen (v := 0) hx hb hG.1 hP 0 0 rfl rfl rfl d_14_64_2 ?_
  refine lv_icmp_ne (tgt := 48) hx hb d_14_64_3 (by decide) (fun c9 => absurd (by decide +kernel) c9) (fun _ => ?_)
  refine lv_aload_n hx hb d_14_64_6 rfl (lv_at hl 0 rfl) ?_
  refine va_get (D := z.1) (ci := 18) (v := .null) (C := "BallothallModel") (T := TX18) (N := 13) hx hb hts iX18 hown hG.1 hP 1 rfl rfl 9 (by decide) (hts _ w_1654) (fun _ h9 => h9) rfl d_14_64_7 ?_
  refine lv_ifnullN (tgt := 23) hx hb d_14_64_10 (by decide) ?_
  refine lv_aload_n hx hb d_14_64_23 rfl (lv_at hl 0 rfl) ?_
  refine lv_iload_n hx hb d_14_64_24 rfl (lv_at hl 3 rfl) ?_
  refine va_newa (atype := .int) (N' := 0) (a0 := (0, .inl (fun _ => 0))) hx hb (hts _ w_105) rfl hG.1 hP hD hS hA (fun _ => rfl) (by decide +kernel) (by decide +kernel) (Nat.le_of_ble_eq_true rfl) (Nat.le_of_ble_eq_true rfl) (Nat.le_of_ble_eq_true rfl) d_14_64_25 (fun q0 cA9 H hK9 hP hD hS => ?_)
  obtain rfl := ty_eq0 hK9
  clear hK9
  have hP : va_P z.1 classes [(a2, .inl (z.2 0, 0, .inl (fun _ => 0))), (a0, .inr (18, [.ref a3, .ref a4, .int 0, .ref a5, .int 0, .ref a6, .int 0, .null, .int 0, .null, .long 0, .int 0, .null])), (q0, .inl (z.2 0, 0, .inl (fun _ => 0)))] H := hP
  have hD : va_D A [(a2, .inl (z.2 0, 0, .inl (fun _ => 0))), (a0, .inr (18, [.ref a3, .ref a4, .int 0, .ref a5, .int 0, .ref a6, .int 0, .null, .int 0, .null, .long 0, .int 0, .null])), (q0, .inl (z.2 0, 0, .inl (fun _ => 0)))] := hD
  refine va_put (D := z.1) (ci := 18) (v := .ref q0) (ty := .array .int) (C := "BallothallModel") (T := TX18) (N := 13) hx hb hts iX18 tyX18 tyX18_ok nmX18 hown hG.1 hP hD hS 1 rfl rfl 9 (by decide) (hts _ w_1654) (fun _ h9 => h9) rfl (by decide +kernel) rfl rfl (Nat.le_of_ble_eq_true rfl) d_14_64_27 (fun H locs hP hD hS => ?_)
  have hP : va_P z.1 classes [(a2, .inl (z.2 0, 0, .inl (fun _ => 0))), (a0, .inr (18, [.ref a3, .ref a4, .int 0, .ref a5, .int 0, .ref a6, .int 0, .null, .int 0, .ref q0, .long 0, .int 0, .null])), (q0, .inl (z.2 0, 0, .inl (fun _ => 0)))] H := hP
  have hD : va_D A [(a2, .inl (z.2 0, 0, .inl (fun _ => 0))), (a0, .inr (18, [.ref a3, .ref a4, .int 0, .ref a5, .int 0, .ref a6, .int 0, .null, .int 0, .ref q0, .long 0, .int 0, .null])), (q0, .inl (z.2 0, 0, .inl (fun _ => 0)))] := hD
  refine lv_aload_n hx hb d_14_64_30 rfl (lv_at hl 2 rfl) ?_
  refine lv_iconst (v := 0) hx hb d_14_64_31 (by decide +kernel) ?_
  refine lv_aload_n hx hb d_14_64_32 rfl (lv_at hl 0 rfl) ?_
  refine va_get (D := z.1) (ci := 18) (v := .ref q0) (C := "BallothallModel") (T := TX18) (N := 13) hx hb hts iX18 hown hG.1 hP 1 rfl rfl 9 (by decide) (hts _ w_1654) (fun _ h9 => h9) rfl d_14_64_33 ?_
  refine lv_iconst (v := 0) hx hb d_14_64_36 (by decide +kernel) ?_
  refine lv_iload_n hx hb d_14_64_37 rfl (lv_at hl 3 rfl) ?_
  refine va_copyi hx hb (by rw [hml]; exact hl.1.symm) hown (hts _ w_1936) (hts _ w_698) (hts _ w_697) (hts _ w_19) hG.1 hP hD hS 0 2 0 0 rfl rfl rfl rfl rfl (by decide +kernel) (by decide +kernel) (by decide +kernel) (by decide +kernel) (by decide +kernel) (fun _ _ => rfl) (Nat.le_of_ble_eq_true rfl) (Nat.le_of_ble_eq_true rfl) d_14_64_38 (fun H locs hP hD hS => ?_)
  rw [cpy_z] at hP hD
  have hP : va_P z.1 classes [(a2, .inl (z.2 0, 0, .inl (fun _ => 0))), (a0, .inr (18, [.ref a3, .ref a4, .int 0, .ref a5, .int 0, .ref a6, .int 0, .null, .int 0, .ref q0, .long 0, .int 0, .null])), (q0, .inl (z.2 0, 0, .inl (fun _ => 0)))] H := hP
  have hD : va_D A [(a2, .inl (z.2 0, 0, .inl (fun _ => 0))), (a0, .inr (18, [.ref a3, .ref a4, .int 0, .ref a5, .int 0, .ref a6, .int 0, .null, .int 0, .ref q0, .long 0, .int 0, .null])), (q0, .inl (z.2 0, 0, .inl (fun _ => 0)))] := hD
  refine W.eq (g2 := F0 m 41 ls []) rfl ?_
  refine lv_aload_n hx hb d_14_64_41 rfl (lv_at hl 0 rfl) ?_
  refine lv_lload hx hb d_14_64_42 (lv_at hl 5 rfl) ?_
  refine va_put (D := z.1) (ci := 18) (v := .long 0) (ty := .long) (C := "BallothallModel") (T := TX18) (N := 13) hx hb hts iX18 tyX18 tyX18_ok nmX18 hown hG.1 hP hD hS 1 rfl rfl 10 (by decide) (hts _ w_1655) (fun _ h9 => h9) rfl (by decide +kernel) rfl rfl (Nat.le_of_ble_eq_true rfl) d_14_64_44 (fun H locs hP hD hS => ?_)
  have hP : va_P z.1 classes [(a2, .inl (z.2 0, 0, .inl (fun _ => 0))), (a0, .inr (18, [.ref a3, .ref a4, .int 0, .ref a5, .int 0, .ref a6, .int 0, .null, .int 0, .ref q0, .long 0, .int 0, .null])), (q0, .inl (z.2 0, 0, .inl (fun _ => 0)))] H := hP
  have hD : va_D A [(a2, .inl (z.2 0, 0, .inl (fun _ => 0))), (a0, .inr (18, [.ref a3, .ref a4, .int 0, .ref a5, .int 0, .ref a6, .int 0, .null, .int 0, .ref q0, .long 0, .int 0, .null])), (q0, .inl (z.2 0, 0, .inl (fun _ => 0)))] := hD
  refine W.widen (k := 1) (n := 0) (Nat.le_of_ble_eq_true rfl) (Nat.le_of_ble_eq_true rfl) ?_
  exact W.vret hx hb hr (fun t ht hW => qk hP hD hS [0, 1] rfl ((fun k => ([q0] : List Nat).getD k 0), (fun _ _ => none)) rfl rfl rfl ht) hS.2.2 d_14_64_47
set_option maxRecDepth 100000 in
set_option maxHeartbeats 4000000 in
theorem c409_BModel_consensus (l : Launch) (z : Zz) (a0 a1 a2 a3 a4 a5 a6 a7 a8 a9 a10 a11 a12 a13 : Nat) : CT l z ⟨"BallothallModel", "consensus", "()V"⟩ prog_14_method_63_code 6 none [.ref a0] [(a0, .inr (18, [.ref a1, .ref a2, .int 0, .ref a3, .int 0, .ref a4, .int 0, .null, .int 0, .null, .long 0, .int 0, .null])), (a1, .inr (17, [.int 0, .ref a5, .ref a6, .int 0, .ref a7, .ref a8, .ref a9, .null, .null, .int 0, .ref a10, .ref a11, .ref a12, .int 0, .ref a13, .int 1]))] 3 98 6 23 (fun u => none) (fun u => [(a0, .inr (18, [.ref a1, .ref a2, .int 0, .ref a3, .int 0, .ref a4, .int 0, .null, .int 0, .ref (u.1 0), .long 0, .int 0, .null])), (a1, .inr (17, [.int 0, .ref a5, .ref a6, .int 0, .ref a7, .ref a8, .ref a9, .null, .null, .int 0, .ref a10, .ref a11, .ref a12, .int 0, .ref a13, .int 1]))]) := by
  refine CT.of (own := "BallothallModel") (by decide +kernel) (Nat.le_of_ble_eq_true rfl) rfl (fun p e s m below meth c A ls hx hb hml hr hts hown hlocks hin hA hG hZ hP hD hS hl => ?_)
  have hl : lv_has ls 6 [(0, .ref a0)] := hl
  refine lv_aload_n hx hb d_14_63_0 rfl (lv_at hl 0 rfl) ?_
  refine va_get (D := z.1) (ci := 18) (v := .ref a1) (C := "BallothallModel") (T := TX18) (N := 13) hx hb hts iX18 hown hG.1 hP 0 rfl rfl 0 (by decide) (hts _ w_1645) (fun _ h9 => h9) rfl d_14_63_1 ?_
  refine va_getN (D := z.1) (ci := 17) (v := .int 0) (C := "BallothallModel$State") (T := TX17) (N := 16) hx hb hts iX17 hown hG.1 hP 1 rfl rfl 0 (by decide) (va_Nw.use rfl (hG.2.1 _ n_1580 rfl)) (fun _ h9 => h9) rfl d_14_63_4 ?_
  refine lv_istore_n (lv' := [(1, .int 0), (0, .ref a0)]) hx hb d_14_63_7 rfl hl (by decide) rfl (fun ls hl => ?_)
  refine lv_iload_n hx hb d_14_63_8 rfl (lv_at hl 0 rfl) ?_
  refine lv_iload_n hx hb d_14_63_9 rfl (lv_at hl 0 rfl) ?_
  refine k_mna (N := 0) (K := 0) hx hb hown (hts _ w_2194) hG.2.2.2.1 (hts _ w_105) hG.1 hP hD hS hA (by decide +kernel) (by decide +kernel) (by decide +kernel) (by decide +kernel) (Nat.le_of_ble_eq_true rfl) (Nat.le_of_ble_eq_true rfl) (Nat.le_of_ble_eq_true rfl) (Nat.le_of_ble_eq_true rfl) (Nat.le_of_ble_eq_true rfl) d_14_63_10 (fun q0 r1 g91 H hg9 hP hD hS => ?_)
  clear hg9
  have hP := hP.sub (ws' := [(a0, .inr (18, [.ref a1, .ref a2, .int 0, .ref a3, .int 0, .ref a4, .int 0, .null, .int 0, .null, .long 0, .int 0, .null])), (a1, .inr (17, [.int 0, .ref a5, .ref a6, .int 0, .ref a7, .ref a8, .ref a9, .null, .null, .int 0, .ref a10, .ref a11, .ref a12, .int 0, .ref a13, .int 1])), (q0, .inl (z.2 8, 0, .inr (.inr (.inr (.inr g91)))))]) [0, 1, 2] rfl
  have hD := hD.sub (ws' := [(a0, .inr (18, [.ref a1, .ref a2, .int 0, .ref a3, .int 0, .ref a4, .int 0, .null, .int 0, .null, .long 0, .int 0, .null])), (a1, .inr (17, [.int 0, .ref a5, .ref a6, .int 0, .ref a7, .ref a8, .ref a9, .null, .null, .int 0, .ref a10, .ref a11, .ref a12, .int 0, .ref a13, .int 1])), (q0, .inl (z.2 8, 0, .inr (.inr (.inr (.inr g91)))))]) [0, 1, 2] rfl rfl
  refine W.eq (g2 := F0 m 14 ls [.ref q0]) rfl ?_
  refine lv_astore_n (lv' := [(2, .ref q0), (1, .int 0), (0, .ref a0)]) hx hb d_14_63_14 rfl hl (by decide) rfl (fun ls hl => ?_)
  refine lv_aload_n hx hb d_14_63_15 rfl (lv_at hl 2 rfl) ?_
  refine kV (As := []) (rest := []) (wr := [(q0, .inl (z.2 8, 0, .inr (.inr (.inr (.inr g91)))))]) (c290_BModel_poll l z a0 a1 a2 a3 a4 a5 a6 a7 a8 a9 a10 a11 a12 a13) hx hb hml hown hts w_2246 w_2243 w_2245 w_s_14a2f1 w_12 md_55febb ⟨Nat.le_of_ble_eq_true rfl, Nat.le_of_ble_eq_true rfl⟩ hG hZ hP hD hS hA 0 rfl rfl rfl [0, 1] [2] rfl rfl rfl rfl rfl hl.1 rfl (Nat.le_of_ble_eq_true rfl) d_14_63_16 ⟨Nat.le_of_ble_eq_true rfl, Nat.le_of_ble_eq_true rfl⟩ (fun u0 H locs hP hD hS => ?_)
  have hP : va_P z.1 classes [(q0, .inl (z.2 8, 0, .inr (.inr (.inr (.inr g91))))), (a0, .inr (18, [.ref a1, .ref a2, .int 0, .ref a3, .int 0, .ref a4, .int 0, .null, .int 0, .null, .long 0, .int 0, .null])), (a1, .inr (17, [.int 0, .ref a5, .ref a6, .int 0, .ref a7, .ref a8, .ref a9, .null, .null, .int 0, .ref a10, .ref a11, .ref a12, .int 0, .ref a13, .int 1]))] H := hP
  have hD : va_D A [(q0, .inl (z.2 8, 0, .inr (.inr (.inr (.inr g91))))), (a0, .inr (18, [.ref a1, .ref a2, .int 0, .ref a3, .int 0, .ref a4, .int 0, .null, .int 0, .null, .long 0, .int 0, .null])), (a1, .inr (17, [.int 0, .ref a5, .ref a6, .int 0, .ref a7, .ref a8, .ref a9, .null, .null, .int 0, .ref a10, .ref a11, .ref a12, .int 0, .ref a13, .int 1]))] := hD
  refine W.eq (g2 := F0 m 19 ls [.ref (u0.1 0)]) rfl ?_
  refine lv_astore_n (lv' := [(3, .ref (u0.1 0)), (2, .ref q0), (1, .int 0), (0, .ref a0)]) hx hb d_14_63_19 rfl hl (by decide) rfl (fun ls hl => ?_)
  refine lv_iconst (v := 0) hx hb d_14_63_20 (by decide +kernel) ?_
  refine lv_istore (lv' := [(4, .int 0), (3, .ref (u0.1 0)), (2, .ref q0), (1, .int 0), (0, .ref a0)]) hx hb d_14_63_21 hl (by decide) rfl (fun ls hl => ?_)
  refine lv_iload hx hb d_14_63_23 (lv_at hl 0 rfl) ?_
  refine lv_iload_n hx hb d_14_63_25 rfl (lv_at hl 3 rfl) ?_
  refine lv_icmp_ge (tgt := 76) hx hb d_14_63_26 (by decide) (fun _ => ?_) (fun c9 => absurd (by decide +kernel) c9)
  refine lv_aload_n hx hb d_14_63_76 rfl (lv_at hl 4 rfl) ?_
  refine lv_null hx hb d_14_63_77 ?_
  refine va_put (D := z.1) (ci := 18) (v := .null) (ty := .array .int) (C := "BallothallModel") (T := TX18) (N := 13) hx hb hts iX18 tyX18 tyX18_ok nmX18 hown hG.1 hP hD hS 1 rfl rfl 9 (by decide) (hts _ w_1654) (fun _ h9 => h9) rfl (by decide +kernel) rfl rfl (Nat.le_of_ble_eq_true rfl) d_14_63_78 (fun H locs hP hD hS => ?_)
  have hP : va_P z.1 classes [(q0, .inl (z.2 8, 0, .inr (.inr (.inr (.inr g91))))), (a0, .inr (18, [.ref a1, .ref a2, .int 0, .ref a3, .int 0, .ref a4, .int 0, .null, .int 0, .null, .long 0, .int 0, .null])), (a1, .inr (17, [.int 0, .ref a5, .ref a6, .int 0, .ref a7, .ref a8, .ref a9, .null, .null, .int 0, .ref a10, .ref a11, .ref a12, .int 0, .ref a13, .int 1]))] H := hP
  have hD : va_D A [(q0, .inl (z.2 8, 0, .inr (.inr (.inr (.inr g91))))), (a0, .inr (18, [.ref a1, .ref a2, .int 0, .ref a3, .int 0, .ref a4, .int 0, .null, .int 0, .null, .long 0, .int 0, .null])), (a1, .inr (17, [.int 0, .ref a5, .ref a6, .int 0, .ref a7, .ref a8, .ref a9, .null, .null, .int 0, .ref a10, .ref a11, .ref a12, .int 0, .ref a13, .int 1]))] := hD
  refine lv_aload_n hx hb d_14_63_81 rfl (lv_at hl 4 rfl) ?_
  refine lv_lconst (v := 0) hx hb d_14_63_82 (by decide +kernel) ?_
  refine va_put (D := z.1) (ci := 18) (v := .long 0) (ty := .long) (C := "BallothallModel") (T := TX18) (N := 13) hx hb hts iX18 tyX18 tyX18_ok nmX18 hown hG.1 hP hD hS 1 rfl rfl 10 (by decide) (hts _ w_1655) (fun _ h9 => h9) rfl (by decide +kernel) rfl rfl (Nat.le_of_ble_eq_true rfl) d_14_63_83 (fun H locs hP hD hS => ?_)
  have hP : va_P z.1 classes [(q0, .inl (z.2 8, 0, .inr (.inr (.inr (.inr g91))))), (a0, .inr (18, [.ref a1, .ref a2, .int 0, .ref a3, .int 0, .ref a4, .int 0, .null, .int 0, .null, .long 0, .int 0, .null])), (a1, .inr (17, [.int 0, .ref a5, .ref a6, .int 0, .ref a7, .ref a8, .ref a9, .null, .null, .int 0, .ref a10, .ref a11, .ref a12, .int 0, .ref a13, .int 1]))] H := hP
  have hD : va_D A [(q0, .inl (z.2 8, 0, .inr (.inr (.inr (.inr g91))))), (a0, .inr (18, [.ref a1, .ref a2, .int 0, .ref a3, .int 0, .ref a4, .int 0, .null, .int 0, .null, .long 0, .int 0, .null])), (a1, .inr (17, [.int 0, .ref a5, .ref a6, .int 0, .ref a7, .ref a8, .ref a9, .null, .null, .int 0, .ref a10, .ref a11, .ref a12, .int 0, .ref a13, .int 1]))] := hD
  refine lv_aload_n hx hb d_14_63_86 rfl (lv_at hl 4 rfl) ?_
  refine lv_aload_n hx hb d_14_63_87 rfl (lv_at hl 2 rfl) ?_
  refine lv_iload_n hx hb d_14_63_88 rfl (lv_at hl 3 rfl) ?_
  refine va_newa (atype := .int) (N' := 0) (a0 := (0, .inl (fun _ => 0))) hx hb (hts _ w_105) rfl hG.1 hP hD hS hA (fun _ => rfl) (by decide +kernel) (by decide +kernel) (Nat.le_of_ble_eq_true rfl) (Nat.le_of_ble_eq_true rfl) (Nat.le_of_ble_eq_true rfl) d_14_63_89 (fun q1 cA9 H hK9 hP hD hS => ?_)
  obtain rfl := ty_eq0 hK9
  clear hK9
  have hP : va_P z.1 classes [(q0, .inl (z.2 8, 0, .inr (.inr (.inr (.inr g91))))), (a0, .inr (18, [.ref a1, .ref a2, .int 0, .ref a3, .int 0, .ref a4, .int 0, .null, .int 0, .null, .long 0, .int 0, .null])), (a1, .inr (17, [.int 0, .ref a5, .ref a6, .int 0, .ref a7, .ref a8, .ref a9, .null, .null, .int 0, .ref a10, .ref a11, .ref a12, .int 0, .ref a13, .int 1])), (q1, .inl (z.2 0, 0, .inl (fun _ => 0)))] H := hP
  have hD : va_D A [(q0, .inl (z.2 8, 0, .inr (.inr (.inr (.inr g91))))), (a0, .inr (18, [.ref a1, .ref a2, .int 0, .ref a3, .int 0, .ref a4, .int 0, .null, .int 0, .null, .long 0, .int 0, .null])), (a1, .inr (17, [.int 0, .ref a5, .ref a6, .int 0, .ref a7, .ref a8, .ref a9, .null, .null, .int 0, .ref a10, .ref a11, .ref a12, .int 0, .ref a13, .int 1])), (q1, .inl (z.2 0, 0, .inl (fun _ => 0)))] := hD
  refine lv_iconst (v := 0) hx hb d_14_63_91 (by decide +kernel) ?_
  refine lv_iconst (v := 0) hx hb d_14_63_92 (by decide +kernel) ?_
  refine lv_lconst (v := 0) hx hb d_14_63_93 (by decide +kernel) ?_
  refine kV (As := [.ref q0, .ref q1, .int 0, .int 0, .long 0]) (rest := []) (wr := [(q0, .inl (z.2 8, 0, .inr (.inr (.inr (.inr g91))))), (a1, .inr (17, [.int 0, .ref a5, .ref a6, .int 0, .ref a7, .ref a8, .ref a9, .null, .null, .int 0, .ref a10, .ref a11, .ref a12, .int 0, .ref a13, .int 1]))]) (c408_BModel_tries l z a0 q0 q1 a1 a2 a3 a4) hx hb hml hown hts w_2330 w_2327 w_2329 w_s_264ff8 w_12 md_5dfead ⟨Nat.le_of_ble_eq_true rfl, Nat.le_of_ble_eq_true rfl⟩ hG hZ hP hD hS hA 1 rfl rfl rfl [3, 1] [0, 2] rfl rfl rfl rfl rfl hl.1 rfl (Nat.le_of_ble_eq_true rfl) d_14_63_94 ⟨Nat.le_of_ble_eq_true rfl, Nat.le_of_ble_eq_true rfl⟩ (fun u1 H locs hP hD hS => ?_)
  have hP : va_P z.1 classes [(q0, .inl (z.2 8, 0, .inr (.inr (.inr (.inr g91))))), (a1, .inr (17, [.int 0, .ref a5, .ref a6, .int 0, .ref a7, .ref a8, .ref a9, .null, .null, .int 0, .ref a10, .ref a11, .ref a12, .int 0, .ref a13, .int 1])), (q1, .inl (z.2 0, 0, .inl (fun _ => 0))), (a0, .inr (18, [.ref a1, .ref a2, .int 0, .ref a3, .int 0, .ref a4, .int 0, .null, .int 0, .ref (u1.1 0), .long 0, .int 0, .null]))] H := hP
  have hD : va_D A [(q0, .inl (z.2 8, 0, .inr (.inr (.inr (.inr g91))))), (a1, .inr (17, [.int 0, .ref a5, .ref a6, .int 0, .ref a7, .ref a8, .ref a9, .null, .null, .int 0, .ref a10, .ref a11, .ref a12, .int 0, .ref a13, .int 1])), (q1, .inl (z.2 0, 0, .inl (fun _ => 0))), (a0, .inr (18, [.ref a1, .ref a2, .int 0, .ref a3, .int 0, .ref a4, .int 0, .null, .int 0, .ref (u1.1 0), .long 0, .int 0, .null]))] := hD
  refine W.eq (g2 := F0 m 97 ls []) rfl ?_
  refine W.widen (k := 6) (n := 23) (Nat.le_of_ble_eq_true rfl) (Nat.le_of_ble_eq_true rfl) ?_
  exact W.vret hx hb hr (fun t ht hW => qk hP hD hS [3, 1] rfl ((fun k => ([(u1.1 0)] : List Nat).getD k 0), (fun _ _ => none)) rfl rfl rfl ht) hS.2.2 d_14_63_97
set_option maxRecDepth 100000 in
set_option maxHeartbeats 4000000 in
theorem c410_BModel_consensusDistance (l : Launch) (z : Zz) (a0 a1 a2 a3 a4 a5 a6 a7 a8 a9 a10 a11 a12 a13 : Nat) : CT l z ⟨"BallothallModel", "consensusDistance", "()J"⟩ prog_14_method_66_code 1 (some .long) [.ref a0] [(a0, .inr (18, [.ref a1, .ref a2, .int 0, .ref a3, .int 0, .ref a4, .int 0, .null, .int 0, .null, .long 0, .int 0, .null])), (a1, .inr (17, [.int 0, .ref a5, .ref a6, .int 0, .ref a7, .ref a8, .ref a9, .null, .null, .int 0, .ref a10, .ref a11, .ref a12, .int 0, .ref a13, .int 1]))] 4 131 6 23 (fun u => some (.long 0)) (fun u => [(a0, .inr (18, [.ref a1, .ref a2, .int 0, .ref a3, .int 0, .ref a4, .int 0, .null, .int 0, .ref (u.1 0), .long 0, .int 0, .null])), (a1, .inr (17, [.int 0, .ref a5, .ref a6, .int 0, .ref a7, .ref a8, .ref a9, .null, .null, .int 0, .ref a10, .ref a11, .ref a12, .int 0, .ref a13, .int 1]))]) := by
  refine CT.of (own := "BallothallModel") (by decide +kernel) (Nat.le_of_ble_eq_true rfl) rfl (fun p e s m below meth c A ls hx hb hml hr hts hown hlocks hin hA hG hZ hP hD hS hl => ?_)
  have hl : lv_has ls 1 [(0, .ref a0)] := hl
  refine lv_aload_n hx hb d_14_66_0 rfl (lv_at hl 0 rfl) ?_
  refine lv_iconst (v := 0) hx hb d_14_66_1 (by decide +kernel) ?_
  refine va_put (D := z.1) (ci := 18) (v := .int 0) (ty := .int) (C := "BallothallModel") (T := TX18) (N := 13) hx hb hts iX18 tyX18 tyX18_ok nmX18 hown hG.1 hP hD hS 0 rfl rfl 6 (by decide) (hts _ w_1651) (fun _ h9 => h9) rfl (by decide +kernel) rfl rfl (Nat.le_of_ble_eq_true rfl) d_14_66_2 (fun H locs hP hD hS => ?_)
  have hP : va_P z.1 classes [(a0, .inr (18, [.ref a1, .ref a2, .int 0, .ref a3, .int 0, .ref a4, .int 0, .null, .int 0, .null, .long 0, .int 0, .null])), (a1, .inr (17, [.int 0, .ref a5, .ref a6, .int 0, .ref a7, .ref a8, .ref a9, .null, .null, .int 0, .ref a10, .ref a11, .ref a12, .int 0, .ref a13, .int 1]))] H := hP
  have hD : va_D A [(a0, .inr (18, [.ref a1, .ref a2, .int 0, .ref a3, .int 0, .ref a4, .int 0, .null, .int 0, .null, .long 0, .int 0, .null])), (a1, .inr (17, [.int 0, .ref a5, .ref a6, .int 0, .ref a7, .ref a8, .ref a9, .null, .null, .int 0, .ref a10, .ref a11, .ref a12, .int 0, .ref a13, .int 1]))] := hD
  refine lv_aload_n hx hb d_14_66_5 rfl (lv_at hl 0 rfl) ?_
  refine kV (As := []) (rest := []) (wr := []) (c409_BModel_consensus l z a0 a1 a2 a3 a4 a5 a6 a7 a8 a9 a10 a11 a12 a13) hx hb hml hown hts w_2326 w_2323 w_2325 w_s_94fd13 w_12 md_da2edc ⟨Nat.le_of_ble_eq_true rfl, Nat.le_of_ble_eq_true rfl⟩ hG hZ hP hD hS hA 0 rfl rfl rfl [0, 1] [] rfl rfl rfl rfl rfl hl.1 rfl (Nat.le_of_ble_eq_true rfl) d_14_66_6 ⟨Nat.le_of_ble_eq_true rfl, Nat.le_of_ble_eq_true rfl⟩ (fun u0 H locs hP hD hS => ?_)
  have hP : va_P z.1 classes [(a0, .inr (18, [.ref a1, .ref a2, .int 0, .ref a3, .int 0, .ref a4, .int 0, .null, .int 0, .ref (u0.1 0), .long 0, .int 0, .null])), (a1, .inr (17, [.int 0, .ref a5, .ref a6, .int 0, .ref a7, .ref a8, .ref a9, .null, .null, .int 0, .ref a10, .ref a11, .ref a12, .int 0, .ref a13, .int 1]))] H := hP
  have hD : va_D A [(a0, .inr (18, [.ref a1, .ref a2, .int 0, .ref a3, .int 0, .ref a4, .int 0, .null, .int 0, .ref (u0.1 0), .long 0, .int 0, .null])), (a1, .inr (17, [.int 0, .ref a5, .ref a6, .int 0, .ref a7, .ref a8, .ref a9, .null, .null, .int 0, .ref a10, .ref a11, .ref a12, .int 0, .ref a13, .int 1]))] := hD
  refine W.eq (g2 := F0 m 9 ls []) rfl ?_
  refine lv_aload_n hx hb d_14_66_9 rfl (lv_at hl 0 rfl) ?_
  refine va_get (D := z.1) (ci := 18) (v := .long 0) (C := "BallothallModel") (T := TX18) (N := 13) hx hb hts iX18 hown hG.1 hP 0 rfl rfl 10 (by decide) (hts _ w_1655) (fun _ h9 => h9) rfl d_14_66_10 ?_
  refine W.widen (k := 6) (n := 23) (Nat.le_of_ble_eq_true rfl) (Nat.le_of_ble_eq_true rfl) ?_
  exact W.lret hx hb hr (fun t ht hW => qk hP hD hS [0, 1] rfl ((fun k => ([(u0.1 0)] : List Nat).getD k 0), (fun _ _ => none)) rfl rfl rfl ht) hS.2.2 d_14_66_13
set_option maxRecDepth 100000 in
set_option maxHeartbeats 4000000 in
theorem c411_B_needRange (l : Launch) (z : Zz) (hl0 : l.stackTraces = false) (x0 : Int32) (h0 : x0 < 0) : XT l z ⟨"Ballothall", "needRange", "(III)V"⟩ prog_1_method_57_code 3 none [.int x0, .int 0, .int 4] [] 6 98 1 6 "java/lang/IllegalArgumentException" := by
  refine XT.of (own := "Ballothall") (by decide +kernel) (Nat.le_of_ble_eq_true rfl) rfl (fun p e s m below meth c A ls hx hb hml hr hts hown hlocks hin hA hG hZ hP hD hS hl hnt => ?_)
  have hl : lv_has ls 3 [(0, .int x0), (1, .int 0), (2, .int 4)] := hl
  refine lv_iload_n hx hb d_1_57_0 rfl (lv_at hl 0 rfl) ?_
  refine lv_iload_n hx hb d_1_57_1 rfl (lv_at hl 1 rfl) ?_
  refine lv_icmp_lt (tgt := 10) hx hb d_1_57_2 (by decide) (fun _ => ?_) (fun c9 => absurd h0 c9)
  exact x_newW (text := "out of range") hl0 hx hb hml hown hts hlocks hnt hG hZ hS hl.1 (by decide +kernel) w_877 w_21 (by decide) xa_310_a xa_310_b d_1_57_10 d_1_57_13 d_1_57_14 d_1_57_17 d_1_57_20 ⟨Nat.le_of_ble_eq_true rfl, Nat.le_of_ble_eq_true rfl, Nat.le_of_ble_eq_true rfl, Nat.le_of_ble_eq_true rfl⟩ (Nat.le_of_ble_eq_true rfl) (Nat.le_of_ble_eq_true rfl) (Nat.le_of_ble_eq_true rfl)
set_option maxRecDepth 100000 in
set_option maxHeartbeats 4000000 in
theorem c412_B_winner (l : Launch) (z : Zz) (hl0 : l.stackTraces = false) (a0 : Nat) (x0 : Int32) (h0 : x0 < 0) : XT l z ⟨"Ballothall", "winner", "(I)I"⟩ prog_1_method_32_code 2 (some .int) [.ref a0, .int x0] [] 7 128 1 6 "java/lang/IllegalArgumentException" := by
  refine XT.of (own := "Ballothall") (by decide +kernel) (Nat.le_of_ble_eq_true rfl) rfl (fun p e s m below meth c A ls hx hb hml hr hts hown hlocks hin hA hG hZ hP hD hS hl hnt => ?_)
  have hl : lv_has ls 2 [(0, .ref a0), (1, .int x0)] := hl
  refine lv_iload_n hx hb d_1_32_0 rfl (lv_at hl 1 rfl) ?_
  refine lv_iconst (v := 0) hx hb d_1_32_1 (by decide +kernel) ?_
  refine lv_iconst (v := 4) hx hb d_1_32_2 (by decide +kernel) ?_
  exact xS (As := [.int x0, .int 0, .int 4]) (rest := []) (wr := []) (c411_B_needRange l z hl0 x0 h0) hx hb hml hown hts w_876 w_874 w_875 w_1 md_519134 ⟨Nat.le_of_ble_eq_true rfl, Nat.le_of_ble_eq_true rfl⟩ hG hZ hP hD hS hA [] [] rfl rfl rfl rfl rfl hl.1 rfl (Nat.le_of_ble_eq_true rfl) d_1_32_3 ⟨Nat.le_of_ble_eq_true rfl, Nat.le_of_ble_eq_true rfl⟩ (fun q9 ce9 H locs hP hD hS h7 h8 h9 => x_out hnt hlocks hS h7 h8 h9 (Nat.le_of_ble_eq_true rfl) (Nat.le_of_ble_eq_true rfl))
set_option maxRecDepth 100000 in
set_option maxHeartbeats 4000000 in
theorem c413_BLaw_winner (l : Launch) (z : Zz) (hl0 : l.stackTraces = false) (a0 a1 a2 a3 a4 a5 a6 a7 a8 a9 a10 a11 a12 : Nat) (x0 : Int32) (h0 : x0 < 0) : HT l z ⟨"BallothallLaw", "winner", "(LBallothall;I[J)I"⟩ method_25_code 4 (some .int) [(0, 9, 12, 21)] [.ref a0, .int x0, .ref a1] [(a0, .inr (11, [.ref a2, .ref a3, .ref a4, .ref a5, .ref a6, .ref a7, .ref a8, .ref a9, .ref a10, .ref a11, .int 0, .int 0, .ref a12, .int 0]))] 8 157 1 6 (fun u => some (.int 1)) (fun u => [(a0, .inr (11, [.ref a2, .ref a3, .ref a4, .ref a5, .ref a6, .ref a7, .ref a8, .ref a9, .ref a10, .ref a11, .int 0, .int 0, .ref a12, .int 0]))]) := by
  refine HT.of (own := "BallothallLaw") (by decide +kernel) (Nat.le_of_ble_eq_true rfl) rfl (fun p e s m below meth c A ls hx hb hml hr hts hown hlocks hin hA hG hZ hP hD hS hl htab => ?_)
  have hl : lv_has ls 4 [(0, .ref a0), (1, .int x0), (2, .ref a1)] := hl
  refine lv_aload_n hx hb d_L25_0 rfl (lv_at hl 2 rfl) ?_
  refine lv_iconst (v := 0) hx hb d_L25_1 (by decide +kernel) ?_
  refine lv_aload_n hx hb d_L25_2 rfl (lv_at hl 0 rfl) ?_
  refine lv_iload_n hx hb d_L25_3 rfl (lv_at hl 1 rfl) ?_
  refine xV (As := [.int x0]) (rest := [.int 0, .ref a1]) (wr := [(a0, .inr (11, [.ref a2, .ref a3, .ref a4, .ref a5, .ref a6, .ref a7, .ref a8, .ref a9, .ref a10, .ref a11, .int 0, .int 0, .ref a12, .int 0]))]) (c412_B_winner l z hl0 a0 x0 h0) hx hb hml hown hts w_1351 w_1348 w_1349 w_1350 w_1 md_54b855 ⟨Nat.le_of_ble_eq_true rfl, Nat.le_of_ble_eq_true rfl⟩ hG hZ hP hD hS hA 0 rfl rfl rfl [] [0] rfl rfl rfl rfl rfl hl.1 rfl (Nat.le_of_ble_eq_true rfl) d_L25_4 ⟨Nat.le_of_ble_eq_true rfl, Nat.le_of_ble_eq_true rfl⟩ (fun q0 ce9 H locs hP hD hS h7 h8 h9 => ?_)
  have hP : va_P z.1 classes [(a0, .inr (11, [.ref a2, .ref a3, .ref a4, .ref a5, .ref a6, .ref a7, .ref a8, .ref a9, .ref a10, .ref a11, .int 0, .int 0, .ref a12, .int 0]))] H := hP
  have hD : va_D A [(a0, .inr (11, [.ref a2, .ref a3, .ref a4, .ref a5, .ref a6, .ref a7, .ref a8, .ref a9, .ref a10, .ref a11, .int 0, .int 0, .ref a12, .int 0]))] := hD
  refine vx_catch hown [] ⟨0, 9, 12, 21⟩ [] (htab.trans rfl) (fun _ h9 => absurd h9 List.not_mem_nil) rfl (by decide) (hts _ w_850) (va_Nw.use rfl (hG.2.1 _ n_879 rfl)) h7 h8 h9 ?_
  refine lv_astore_n (lv' := [(3, .ref q0), (0, .ref a0), (1, .int x0), (2, .ref a1)]) hx hb d_L25_12 rfl hl (by decide) rfl (fun ls hl => ?_)
  refine lv_iconst (v := 1) hx hb d_L25_13 (by decide +kernel) ?_
  refine W.widen (k := 1) (n := 6) (Nat.le_of_ble_eq_true rfl) (Nat.le_of_ble_eq_true rfl) ?_
  refine vx_ret ?_
  exact W.iret hx hb hr (fun t ht hW => qk hP hD hS [0] rfl ((fun k => k), (fun _ _ => none)) rfl rfl rfl ht) hS.2.2 d_L25_14
set_option maxRecDepth 100000 in
set_option maxHeartbeats 4000000 in
theorem c414_BModel_isIn (l : Launch) (z : Zz) (x0 : Int32) (h0 : x0 < 0) : CT l z ⟨"BallothallModel", "isIn", "(III)Z"⟩ prog_14_method_20_code 3 (some .boolean) [.int x0, .int 0, .int 4] [] 0 0 0 0 (fun u => some (.int 0)) (fun u => []) := by
  refine CT.of (own := "BallothallModel") (by decide +kernel) (Nat.le_of_ble_eq_true rfl) rfl (fun p e s m below meth c A ls hx hb hml hr hts hown hlocks hin hA hG hZ hP hD hS hl => ?_)
  have hl : lv_has ls 3 [(0, .int x0), (1, .int 0), (2, .int 4)] := hl
  refine lv_iload_n hx hb d_14_20_0 rfl (lv_at hl 0 rfl) ?_
  refine lv_iload_n hx hb d_14_20_1 rfl (lv_at hl 1 rfl) ?_
  refine lv_icmp_lt (tgt := 14) hx hb d_14_20_2 (by decide) (fun _ => ?_) (fun c9 => absurd h0 c9)
  refine lv_iconst (v := 0) hx hb d_14_20_14 (by decide +kernel) ?_
  refine W.widen (k := 0) (n := 0) (Nat.le_of_ble_eq_true rfl) (Nat.le_of_ble_eq_true rfl) ?_
  exact W.zret hx hb hr rfl (fun t ht hW => qk hP hD hS [] rfl ((fun k => k), (fun _ _ => none)) rfl rfl rfl ht) hS.2.2 d_14_20_15
set_option maxRecDepth 100000 in
set_option maxHeartbeats 4000000 in
theorem c415_BModel_winner (l : Launch) (z : Zz) (a0 a1 a2 a3 a4 : Nat) (x0 : Int32) (h0 : x0 < 0) : CT l z ⟨"BallothallModel", "winner", "(I)I"⟩ prog_14_method_67_code 2 (some .int) [.ref a0, .int x0] [(a0, .inr (18, [.ref a1, .ref a2, .int 0, .ref a3, .int 0, .ref a4, .int 0, .null, .int 0, .null, .long 0, .int 0, .null]))] 1 30 0 0 (fun u => some (.int 0)) (fun u => [(a0, .inr (18, [.ref a1, .ref a2, .int 0, .ref a3, .int 0, .ref a4, .int 1, .null, .int 0, .null, .long 0, .int 0, .null]))]) := by
  refine CT.of (own := "BallothallModel") (by decide +kernel) (Nat.le_of_ble_eq_true rfl) rfl (fun p e s m below meth c A ls hx hb hml hr hts hown hlocks hin hA hG hZ hP hD hS hl => ?_)
  have hl : lv_has ls 2 [(0, .ref a0), (1, .int x0)] := hl
  refine lv_aload_n hx hb d_14_67_0 rfl (lv_at hl 0 rfl) ?_
  refine lv_iload_n hx hb d_14_67_1 rfl (lv_at hl 1 rfl) ?_
  refine lv_iconst (v := 0) hx hb d_14_67_2 (by decide +kernel) ?_
  refine lv_iconst (v := 4) hx hb d_14_67_3 (by decide +kernel) ?_
  refine kS (As := [.int x0, .int 0, .int 4]) (rest := [.ref a0]) (wr := [(a0, .inr (18, [.ref a1, .ref a2, .int 0, .ref a3, .int 0, .ref a4, .int 0, .null, .int 0, .null, .long 0, .int 0, .null]))]) (c414_BModel_isIn l z x0 h0) hx hb hml hown hts w_1718 w_1716 w_1717 w_12 md_bca45c ⟨Nat.le_of_ble_eq_true rfl, Nat.le_of_ble_eq_true rfl⟩ hG hZ hP hD hS hA [] [0] rfl rfl rfl rfl rfl hl.1 rfl (Nat.le_of_ble_eq_true rfl) d_14_67_4 ⟨Nat.le_of_ble_eq_true rfl, Nat.le_of_ble_eq_true rfl⟩ (fun u0 H locs hP hD hS => ?_)
  have hP : va_P z.1 classes [(a0, .inr (18, [.ref a1, .ref a2, .int 0, .ref a3, .int 0, .ref a4, .int 0, .null, .int 0, .null, .long 0, .int 0, .null]))] H := hP
  have hD : va_D A [(a0, .inr (18, [.ref a1, .ref a2, .int 0, .ref a3, .int 0, .ref a4, .int 0, .null, .int 0, .null, .long 0, .int 0, .null]))] := hD
  refine W.eq (g2 := F0 m 7 ls [.int 0, .ref a0]) rfl ?_
  refine lv_iconst (v := 1) hx hb d_14_67_7 (by decide +kernel) ?_
  refine kV (As := [.int 0, .int 1]) (rest := []) (wr := []) (c31_BModel_ends l z a0 a1 a2 a3 a4) hx hb hml hown hts w_1696 w_1693 w_1695 w_s_f8f2b7 w_12 md_77b0f8 ⟨Nat.le_of_ble_eq_true rfl, Nat.le_of_ble_eq_true rfl⟩ hG hZ hP hD hS hA 0 rfl rfl rfl [0] [] rfl rfl rfl rfl rfl hl.1 rfl (Nat.le_of_ble_eq_true rfl) d_14_67_8 ⟨Nat.le_of_ble_eq_true rfl, Nat.le_of_ble_eq_true rfl⟩ (fun u1 H locs hP hD hS => ?_)
  have hP : va_P z.1 classes [(a0, .inr (18, [.ref a1, .ref a2, .int 0, .ref a3, .int 0, .ref a4, .int 1, .null, .int 0, .null, .long 0, .int 0, .null]))] H := hP
  have hD : va_D A [(a0, .inr (18, [.ref a1, .ref a2, .int 0, .ref a3, .int 0, .ref a4, .int 1, .null, .int 0, .null, .long 0, .int 0, .null]))] := hD
  refine W.eq (g2 := F0 m 11 ls [.int 1]) rfl ?_
  refine lv_if_eq (tgt := 18) hx hb d_14_67_11 (by decide) (fun c9 => absurd c9 (by decide +kernel)) (fun _ => ?_)
  refine lv_iconst (v := 0) hx hb d_14_67_14 (by decide +kernel) ?_
  refine lv_goto (tgt := 26) hx hb d_14_67_15 (by decide) ?_
  refine W.widen (k := 0) (n := 0) (Nat.le_of_ble_eq_true rfl) (Nat.le_of_ble_eq_true rfl) ?_
  exact W.iret hx hb hr (fun t ht hW => qk hP hD hS [0] rfl ((fun k => k), (fun _ _ => none)) rfl rfl rfl ht) hS.2.2 d_14_67_26
set_option maxRecDepth 100000 in
set_option maxHeartbeats 4000000 in
theorem c416_B_needRange (l : Launch) (z : Zz) (hl0 : l.stackTraces = false) (x0 : Int32) (h0 : ¬ x0 < 0) (h1 : 4 < x0) : XT l z ⟨"Ballothall", "needRange", "(III)V"⟩ prog_1_method_57_code 3 none [.int x0, .int 0, .int 4] [] 6 98 1 6 "java/lang/IllegalArgumentException" := by
  refine XT.of (own := "Ballothall") (by decide +kernel) (Nat.le_of_ble_eq_true rfl) rfl (fun p e s m below meth c A ls hx hb hml hr hts hown hlocks hin hA hG hZ hP hD hS hl hnt => ?_)
  have hl : lv_has ls 3 [(0, .int x0), (1, .int 0), (2, .int 4)] := hl
  refine lv_iload_n hx hb d_1_57_0 rfl (lv_at hl 0 rfl) ?_
  refine lv_iload_n hx hb d_1_57_1 rfl (lv_at hl 1 rfl) ?_
  refine lv_icmp_lt (tgt := 10) hx hb d_1_57_2 (by decide) (fun c9 => absurd c9 h0) (fun _ => ?_)
  refine lv_iload_n hx hb d_1_57_5 rfl (lv_at hl 0 rfl) ?_
  refine lv_iload_n hx hb d_1_57_6 rfl (lv_at hl 2 rfl) ?_
  refine lv_icmp_le (tgt := 21) hx hb d_1_57_7 (by decide) (fun c9 => absurd c9 (Int32.not_le.mpr h1)) (fun _ => ?_)
  exact x_newW (text := "out of range") hl0 hx hb hml hown hts hlocks hnt hG hZ hS hl.1 (by decide +kernel) w_877 w_21 (by decide) xa_310_a xa_310_b d_1_57_10 d_1_57_13 d_1_57_14 d_1_57_17 d_1_57_20 ⟨Nat.le_of_ble_eq_true rfl, Nat.le_of_ble_eq_true rfl, Nat.le_of_ble_eq_true rfl, Nat.le_of_ble_eq_true rfl⟩ (Nat.le_of_ble_eq_true rfl) (Nat.le_of_ble_eq_true rfl) (Nat.le_of_ble_eq_true rfl)
set_option maxRecDepth 100000 in
set_option maxHeartbeats 4000000 in
theorem c417_B_winner (l : Launch) (z : Zz) (hl0 : l.stackTraces = false) (a0 : Nat) (x0 : Int32) (h0 : ¬ x0 < 0) (h1 : 4 < x0) : XT l z ⟨"Ballothall", "winner", "(I)I"⟩ prog_1_method_32_code 2 (some .int) [.ref a0, .int x0] [] 7 128 1 6 "java/lang/IllegalArgumentException" := by
  refine XT.of (own := "Ballothall") (by decide +kernel) (Nat.le_of_ble_eq_true rfl) rfl (fun p e s m below meth c A ls hx hb hml hr hts hown hlocks hin hA hG hZ hP hD hS hl hnt => ?_)
  have hl : lv_has ls 2 [(0, .ref a0), (1, .int x0)] := hl
  refine lv_iload_n hx hb d_1_32_0 rfl (lv_at hl 1 rfl) ?_
  refine lv_iconst (v := 0) hx hb d_1_32_1 (by decide +kernel) ?_
  refine lv_iconst (v := 4) hx hb d_1_32_2 (by decide +kernel) ?_
  exact xS (As := [.int x0, .int 0, .int 4]) (rest := []) (wr := []) (c416_B_needRange l z hl0 x0 h0 h1) hx hb hml hown hts w_876 w_874 w_875 w_1 md_519134 ⟨Nat.le_of_ble_eq_true rfl, Nat.le_of_ble_eq_true rfl⟩ hG hZ hP hD hS hA [] [] rfl rfl rfl rfl rfl hl.1 rfl (Nat.le_of_ble_eq_true rfl) d_1_32_3 ⟨Nat.le_of_ble_eq_true rfl, Nat.le_of_ble_eq_true rfl⟩ (fun q9 ce9 H locs hP hD hS h7 h8 h9 => x_out hnt hlocks hS h7 h8 h9 (Nat.le_of_ble_eq_true rfl) (Nat.le_of_ble_eq_true rfl))
set_option maxRecDepth 100000 in
set_option maxHeartbeats 4000000 in
theorem c418_BLaw_winner (l : Launch) (z : Zz) (hl0 : l.stackTraces = false) (a0 a1 a2 a3 a4 a5 a6 a7 a8 a9 a10 a11 a12 : Nat) (x0 : Int32) (h0 : ¬ x0 < 0) (h1 : 4 < x0) : HT l z ⟨"BallothallLaw", "winner", "(LBallothall;I[J)I"⟩ method_25_code 4 (some .int) [(0, 9, 12, 21)] [.ref a0, .int x0, .ref a1] [(a0, .inr (11, [.ref a2, .ref a3, .ref a4, .ref a5, .ref a6, .ref a7, .ref a8, .ref a9, .ref a10, .ref a11, .int 0, .int 0, .ref a12, .int 0]))] 8 157 1 6 (fun u => some (.int 1)) (fun u => [(a0, .inr (11, [.ref a2, .ref a3, .ref a4, .ref a5, .ref a6, .ref a7, .ref a8, .ref a9, .ref a10, .ref a11, .int 0, .int 0, .ref a12, .int 0]))]) := by
  refine HT.of (own := "BallothallLaw") (by decide +kernel) (Nat.le_of_ble_eq_true rfl) rfl (fun p e s m below meth c A ls hx hb hml hr hts hown hlocks hin hA hG hZ hP hD hS hl htab => ?_)
  have hl : lv_has ls 4 [(0, .ref a0), (1, .int x0), (2, .ref a1)] := hl
  refine lv_aload_n hx hb d_L25_0 rfl (lv_at hl 2 rfl) ?_
  refine lv_iconst (v := 0) hx hb d_L25_1 (by decide +kernel) ?_
  refine lv_aload_n hx hb d_L25_2 rfl (lv_at hl 0 rfl) ?_
  refine lv_iload_n hx hb d_L25_3 rfl (lv_at hl 1 rfl) ?_
  refine xV (As := [.int x0]) (rest := [.int 0, .ref a1]) (wr := [(a0, .inr (11, [.ref a2, .ref a3, .ref a4, .ref a5, .ref a6, .ref a7, .ref a8, .ref a9, .ref a10, .ref a11, .int 0, .int 0, .ref a12, .int 0]))]) (c417_B_winner l z hl0 a0 x0 h0 h1) hx hb hml hown hts w_1351 w_1348 w_1349 w_1350 w_1 md_54b855 ⟨Nat.le_of_ble_eq_true rfl, Nat.le_of_ble_eq_true rfl⟩ hG hZ hP hD hS hA 0 rfl rfl rfl [] [0] rfl rfl rfl rfl rfl hl.1 rfl (Nat.le_of_ble_eq_true rfl) d_L25_4 ⟨Nat.le_of_ble_eq_true rfl, Nat.le_of_ble_eq_true rfl⟩ (fun q0 ce9 H locs hP hD hS h7 h8 h9 => ?_)
  have hP : va_P z.1 classes [(a0, .inr (11, [.ref a2, .ref a3, .ref a4, .ref a5, .ref a6, .ref a7, .ref a8, .ref a9, .ref a10, .ref a11, .int 0, .int 0, .ref a12, .int 0]))] H := hP
  have hD : va_D A [(a0, .inr (11, [.ref a2, .ref a3, .ref a4, .ref a5, .ref a6, .ref a7, .ref a8, .ref a9, .ref a10, .ref a11, .int 0, .int 0, .ref a12, .int 0]))] := hD
  refine vx_catch hown [] ⟨0, 9, 12, 21⟩ [] (htab.trans rfl) (fun _ h9 => absurd h9 List.not_mem_nil) rfl (by decide) (hts _ w_850) (va_Nw.use rfl (hG.2.1 _ n_879 rfl)) h7 h8 h9 ?_
  refine lv_astore_n (lv' := [(3, .ref q0), (0, .ref a0), (1, .int x0), (2, .ref a1)]) hx hb d_L25_12 rfl hl (by decide) rfl (fun ls hl => ?_)
  refine lv_iconst (v := 1) hx hb d_L25_13 (by decide +kernel) ?_
  refine W.widen (k := 1) (n := 6) (Nat.le_of_ble_eq_true rfl) (Nat.le_of_ble_eq_true rfl) ?_
  refine vx_ret ?_
  exact W.iret hx hb hr (fun t ht hW => qk hP hD hS [0] rfl ((fun k => k), (fun _ _ => none)) rfl rfl rfl ht) hS.2.2 d_L25_14
set_option maxRecDepth 100000 in
set_option maxHeartbeats 4000000 in
theorem c419_BModel_isIn (l : Launch) (z : Zz) (x0 : Int32) (h0 : ¬ x0 < 0) (h1 : 4 < x0) : CT l z ⟨"BallothallModel", "isIn", "(III)Z"⟩ prog_14_method_20_code 3 (some .boolean) [.int x0, .int 0, .int 4] [] 0 0 0 0 (fun u => some (.int 0)) (fun u => []) := by
  refine CT.of (own := "BallothallModel") (by decide +kernel) (Nat.le_of_ble_eq_true rfl) rfl (fun p e s m below meth c A ls hx hb hml hr hts hown hlocks hin hA hG hZ hP hD hS hl => ?_)
  have hl : lv_has ls 3 [(0, .int x0), (1, .int 0), (2, .int 4)] := hl
  refine lv_iload_n hx hb d_14_20_0 rfl (lv_at hl 0 rfl) ?_
  refine lv_iload_n hx hb d_14_20_1 rfl (lv_at hl 1 rfl) ?_
  refine lv_icmp_lt (tgt := 14) hx hb d_14_20_2 (by decide) (fun c9 => absurd c9 h0) (fun _ => ?_)
  refine lv_iload_n hx hb d_14_20_5 rfl (lv_at hl 0 rfl) ?_
  refine lv_iload_n hx hb d_14_20_6 rfl (lv_at hl 2 rfl) ?_
  refine lv_icmp_gt (tgt := 14) hx hb d_14_20_7 (by decide) (fun _ => ?_) (fun c9 => absurd h1 c9)
  refine lv_iconst (v := 0) hx hb d_14_20_14 (by decide +kernel) ?_
  refine W.widen (k := 0) (n := 0) (Nat.le_of_ble_eq_true rfl) (Nat.le_of_ble_eq_true rfl) ?_
  exact W.zret hx hb hr rfl (fun t ht hW => qk hP hD hS [] rfl ((fun k => k), (fun _ _ => none)) rfl rfl rfl ht) hS.2.2 d_14_20_15
set_option maxRecDepth 100000 in
set_option maxHeartbeats 4000000 in
theorem c420_BModel_winner (l : Launch) (z : Zz) (a0 a1 a2 a3 a4 : Nat) (x0 : Int32) (h0 : ¬ x0 < 0) (h1 : 4 < x0) : CT l z ⟨"BallothallModel", "winner", "(I)I"⟩ prog_14_method_67_code 2 (some .int) [.ref a0, .int x0] [(a0, .inr (18, [.ref a1, .ref a2, .int 0, .ref a3, .int 0, .ref a4, .int 0, .null, .int 0, .null, .long 0, .int 0, .null]))] 1 30 0 0 (fun u => some (.int 0)) (fun u => [(a0, .inr (18, [.ref a1, .ref a2, .int 0, .ref a3, .int 0, .ref a4, .int 1, .null, .int 0, .null, .long 0, .int 0, .null]))]) := by
  refine CT.of (own := "BallothallModel") (by decide +kernel) (Nat.le_of_ble_eq_true rfl) rfl (fun p e s m below meth c A ls hx hb hml hr hts hown hlocks hin hA hG hZ hP hD hS hl => ?_)
  have hl : lv_has ls 2 [(0, .ref a0), (1, .int x0)] := hl
  refine lv_aload_n hx hb d_14_67_0 rfl (lv_at hl 0 rfl) ?_
  refine lv_iload_n hx hb d_14_67_1 rfl (lv_at hl 1 rfl) ?_
  refine lv_iconst (v := 0) hx hb d_14_67_2 (by decide +kernel) ?_
  refine lv_iconst (v := 4) hx hb d_14_67_3 (by decide +kernel) ?_
  refine kS (As := [.int x0, .int 0, .int 4]) (rest := [.ref a0]) (wr := [(a0, .inr (18, [.ref a1, .ref a2, .int 0, .ref a3, .int 0, .ref a4, .int 0, .null, .int 0, .null, .long 0, .int 0, .null]))]) (c419_BModel_isIn l z x0 h0 h1) hx hb hml hown hts w_1718 w_1716 w_1717 w_12 md_bca45c ⟨Nat.le_of_ble_eq_true rfl, Nat.le_of_ble_eq_true rfl⟩ hG hZ hP hD hS hA [] [0] rfl rfl rfl rfl rfl hl.1 rfl (Nat.le_of_ble_eq_true rfl) d_14_67_4 ⟨Nat.le_of_ble_eq_true rfl, Nat.le_of_ble_eq_true rfl⟩ (fun u0 H locs hP hD hS => ?_)
  have hP : va_P z.1 classes [(a0, .inr (18, [.ref a1, .ref a2, .int 0, .ref a3, .int 0, .ref a4, .int 0, .null, .int 0, .null, .long 0, .int 0, .null]))] H := hP
  have hD : va_D A [(a0, .inr (18, [.ref a1, .ref a2, .int 0, .ref a3, .int 0, .ref a4, .int 0, .null, .int 0, .null, .long 0, .int 0, .null]))] := hD
  refine W.eq (g2 := F0 m 7 ls [.int 0, .ref a0]) rfl ?_
  refine lv_iconst (v := 1) hx hb d_14_67_7 (by decide +kernel) ?_
  refine kV (As := [.int 0, .int 1]) (rest := []) (wr := []) (c31_BModel_ends l z a0 a1 a2 a3 a4) hx hb hml hown hts w_1696 w_1693 w_1695 w_s_f8f2b7 w_12 md_77b0f8 ⟨Nat.le_of_ble_eq_true rfl, Nat.le_of_ble_eq_true rfl⟩ hG hZ hP hD hS hA 0 rfl rfl rfl [0] [] rfl rfl rfl rfl rfl hl.1 rfl (Nat.le_of_ble_eq_true rfl) d_14_67_8 ⟨Nat.le_of_ble_eq_true rfl, Nat.le_of_ble_eq_true rfl⟩ (fun u1 H locs hP hD hS => ?_)
  have hP : va_P z.1 classes [(a0, .inr (18, [.ref a1, .ref a2, .int 0, .ref a3, .int 0, .ref a4, .int 1, .null, .int 0, .null, .long 0, .int 0, .null]))] H := hP
  have hD : va_D A [(a0, .inr (18, [.ref a1, .ref a2, .int 0, .ref a3, .int 0, .ref a4, .int 1, .null, .int 0, .null, .long 0, .int 0, .null]))] := hD
  refine W.eq (g2 := F0 m 11 ls [.int 1]) rfl ?_
  refine lv_if_eq (tgt := 18) hx hb d_14_67_11 (by decide) (fun c9 => absurd c9 (by decide +kernel)) (fun _ => ?_)
  refine lv_iconst (v := 0) hx hb d_14_67_14 (by decide +kernel) ?_
  refine lv_goto (tgt := 26) hx hb d_14_67_15 (by decide) ?_
  refine W.widen (k := 0) (n := 0) (Nat.le_of_ble_eq_true rfl) (Nat.le_of_ble_eq_true rfl) ?_
  exact W.iret hx hb hr (fun t ht hW => qk hP hD hS [0] rfl ((fun k => k), (fun _ _ => none)) rfl rfl rfl ht) hS.2.2 d_14_67_26
set_option maxRecDepth 100000 in
set_option maxHeartbeats 4000000 in
theorem c421_B_needRange (l : Launch) (z : Zz) (x0 : Int32) (h0 : ¬ x0 < 0) (h1 : ¬ 4 < x0) : CT l z ⟨"Ballothall", "needRange", "(III)V"⟩ prog_1_method_57_code 3 none [.int x0, .int 0, .int 4] [] 0 0 0 0 (fun u => none) (fun u => []) := by
  refine CT.of (own := "Ballothall") (by decide +kernel) (Nat.le_of_ble_eq_true rfl) rfl (fun p e s m below meth c A ls hx hb hml hr hts hown hlocks hin hA hG hZ hP hD hS hl => ?_)
  have hl : lv_has ls 3 [(0, .int x0), (1, .int 0), (2, .int 4)] := hl
  refine lv_iload_n hx hb d_1_57_0 rfl (lv_at hl 0 rfl) ?_
  refine lv_iload_n hx hb d_1_57_1 rfl (lv_at hl 1 rfl) ?_
  refine lv_icmp_lt (tgt := 10) hx hb d_1_57_2 (by decide) (fun c9 => absurd c9 h0) (fun _ => ?_)
  refine lv_iload_n hx hb d_1_57_5 rfl (lv_at hl 0 rfl) ?_
  refine lv_iload_n hx hb d_1_57_6 rfl (lv_at hl 2 rfl) ?_
  refine lv_icmp_le (tgt := 21) hx hb d_1_57_7 (by decide) (fun _ => ?_) (fun c9 => absurd (Int32.not_lt.mp h1) c9)
  refine W.widen (k := 0) (n := 0) (Nat.le_of_ble_eq_true rfl) (Nat.le_of_ble_eq_true rfl) ?_
  exact W.vret hx hb hr (fun t ht hW => qk hP hD hS [] rfl ((fun k => k), (fun _ _ => none)) rfl rfl rfl ht) hS.2.2 d_1_57_21
set_option maxRecDepth 100000 in
set_option maxHeartbeats 4000000 in
theorem c422_Poll_bestBy (l : Launch) (z : Zz) (a0 a1 a2 a3 a4 a5 a6 a7 a8 a9 a10 : Nat) (x0 : Int32) : CT l z ⟨"Ballothall$Poll", "bestBy", "(I)I"⟩ prog_11_method_19_code 2 (some .int) [.ref a0, .int x0] [(a0, .inr (9, [.ref a1, .int 0, .int 0, .ref a2, .ref a3, .ref a4, .ref a5, .ref a6, .ref a7, .ref a8, .ref a9, .ref a10]))] 0 0 0 0 (fun u => some (.int (-1))) (fun u => [(a0, .inr (9, [.ref a1, .int 0, .int 0, .ref a2, .ref a3, .ref a4, .ref a5, .ref a6, .ref a7, .ref a8, .ref a9, .ref a10]))]) := by
  refine CT.of (own := "Ballothall$Poll") (by decide +kernel) (Nat.le_of_ble_eq_true rfl) rfl (fun p e s m below meth c A ls hx hb hml hr hts hown hlocks hin hA hG hZ hP hD hS hl => ?_)
  have hl : lv_has ls 2 [(0, .ref a0), (1, .int x0)] := hl
  refine lv_aload_n hx hb d_11_19_0 rfl (lv_at hl 0 rfl) ?_
  refine va_get (D := z.1) (ci := 9) (v := .int 0) (C := "Ballothall$Poll") (T := TX9) (N := 12) hx hb hts iX9 hown hG.1 hP 0 rfl rfl 1 (by decide) (hts _ w_113) (fun _ h9 => h9) rfl d_11_19_1 ?_
  refine lv_if_ne (tgt := 9) hx hb d_11_19_4 (by decide) (fun c9 => absurd (by decide +kernel) c9) (fun _ => ?_)
  refine lv_iconst (v := (-1)) hx hb d_11_19_7 (by decide +kernel) ?_
  refine W.widen (k := 0) (n := 0) (Nat.le_of_ble_eq_true rfl) (Nat.le_of_ble_eq_true rfl) ?_
  exact W.iret hx hb hr (fun t ht hW => qk hP hD hS [0] rfl ((fun k => k), (fun _ _ => none)) rfl rfl rfl ht) hS.2.2 d_11_19_8
set_option maxRecDepth 100000 in
set_option maxHeartbeats 4000000 in
theorem c423_B_winner (l : Launch) (z : Zz) (a0 a1 a2 a3 a4 a5 a6 a7 a8 a9 a10 a11 a12 a13 a14 a15 a16 a17 a18 a19 a20 a21 a22 a23 a24 a25 a26 a27 : Nat) (x0 : Int32) (h0 : ¬ x0 < 0) (h1 : ¬ 4 < x0) : CT l z ⟨"Ballothall", "winner", "(I)I"⟩ prog_1_method_32_code 2 (some .int) [.ref a0, .int x0] [(a0, .inr (11, [.ref a1, .ref a2, .ref a3, .ref a4, .ref a5, .ref a6, .ref a7, .ref a8, .ref a9, .ref a10, .int 0, .int 0, .ref a11, .int 0])), (a1, .inr (0, [.ref a12, .int 0, .int 0, .int 0, .ref a13, .ref a14, .ref a15, .ref a16, .ref a17, .ref a18])), (a2, .inr (9, [.ref a1, .int 0, .int 0, .ref a19, .ref a20, .ref a21, .ref a22, .ref a23, .ref a24, .ref a25, .ref a26, .ref a27])), (a19, .inl (z.2 0, 31, .inl (fun _ => 0))), (a20, .inl (z.2 0, 8, .inl (fun _ => 0))), (a21, .inl (z.2 0, 8, .inl (fun _ => 0))), (a22, .inl (z.2 0, 64, .inl (fun _ => 0)))] 3 81 0 0 (fun u => some (.int (-1))) (fun u => [(a0, .inr (11, [.ref a1, .ref a2, .ref a3, .ref a4, .ref a5, .ref a6, .ref a7, .ref a8, .ref a9, .ref a10, .int 0, .int 0, .ref a11, .int 0])), (a1, .inr (0, [.ref a12, .int 0, .int 0, .int 0, .ref a13, .ref a14, .ref a15, .ref a16, .ref a17, .ref a18])), (a2, .inr (9, [.ref a1, .int 0, .int 0, .ref a19, .ref a20, .ref a21, .ref a22, .ref a23, .ref a24, .ref a25, .ref a26, .ref a27])), (a19, .inl (z.2 0, 31, .inl (fun _ => 0))), (a20, .inl (z.2 0, 8, .inl (fun _ => 0))), (a21, .inl (z.2 0, 8, .inl (fun _ => 0))), (a22, .inl (z.2 0, 64, .inl (fun _ => 0)))]) := by
  refine CT.of (own := "Ballothall") (by decide +kernel) (Nat.le_of_ble_eq_true rfl) rfl (fun p e s m below meth c A ls hx hb hml hr hts hown hlocks hin hA hG hZ hP hD hS hl => ?_)
  have hl : lv_has ls 2 [(0, .ref a0), (1, .int x0)] := hl
  refine lv_iload_n hx hb d_1_32_0 rfl (lv_at hl 1 rfl) ?_
  refine lv_iconst (v := 0) hx hb d_1_32_1 (by decide +kernel) ?_
  refine lv_iconst (v := 4) hx hb d_1_32_2 (by decide +kernel) ?_
  refine kS (As := [.int x0, .int 0, .int 4]) (rest := []) (wr := [(a0, .inr (11, [.ref a1, .ref a2, .ref a3, .ref a4, .ref a5, .ref a6, .ref a7, .ref a8, .ref a9, .ref a10, .int 0, .int 0, .ref a11, .int 0])), (a1, .inr (0, [.ref a12, .int 0, .int 0, .int 0, .ref a13, .ref a14, .ref a15, .ref a16, .ref a17, .ref a18])), (a2, .inr (9, [.ref a1, .int 0, .int 0, .ref a19, .ref a20, .ref a21, .ref a22, .ref a23, .ref a24, .ref a25, .ref a26, .ref a27])), (a19, .inl (z.2 0, 31, .inl (fun _ => 0))), (a20, .inl (z.2 0, 8, .inl (fun _ => 0))), (a21, .inl (z.2 0, 8, .inl (fun _ => 0))), (a22, .inl (z.2 0, 64, .inl (fun _ => 0)))]) (c421_B_needRange l z x0 h0 h1) hx hb hml hown hts w_876 w_874 w_875 w_1 md_519134 ⟨Nat.le_of_ble_eq_true rfl, Nat.le_of_ble_eq_true rfl⟩ hG hZ hP hD hS hA [] [0, 1, 2, 3, 4, 5, 6] rfl rfl rfl rfl rfl hl.1 rfl (Nat.le_of_ble_eq_true rfl) d_1_32_3 ⟨Nat.le_of_ble_eq_true rfl, Nat.le_of_ble_eq_true rfl⟩ (fun u0 H locs hP hD hS => ?_)
  have hP : va_P z.1 classes [(a0, .inr (11, [.ref a1, .ref a2, .ref a3, .ref a4, .ref a5, .ref a6, .ref a7, .ref a8, .ref a9, .ref a10, .int 0, .int 0, .ref a11, .int 0])), (a1, .inr (0, [.ref a12, .int 0, .int 0, .int 0, .ref a13, .ref a14, .ref a15, .ref a16, .ref a17, .ref a18])), (a2, .inr (9, [.ref a1, .int 0, .int 0, .ref a19, .ref a20, .ref a21, .ref a22, .ref a23, .ref a24, .ref a25, .ref a26, .ref a27])), (a19, .inl (z.2 0, 31, .inl (fun _ => 0))), (a20, .inl (z.2 0, 8, .inl (fun _ => 0))), (a21, .inl (z.2 0, 8, .inl (fun _ => 0))), (a22, .inl (z.2 0, 64, .inl (fun _ => 0)))] H := hP
  have hD : va_D A [(a0, .inr (11, [.ref a1, .ref a2, .ref a3, .ref a4, .ref a5, .ref a6, .ref a7, .ref a8, .ref a9, .ref a10, .int 0, .int 0, .ref a11, .int 0])), (a1, .inr (0, [.ref a12, .int 0, .int 0, .int 0, .ref a13, .ref a14, .ref a15, .ref a16, .ref a17, .ref a18])), (a2, .inr (9, [.ref a1, .int 0, .int 0, .ref a19, .ref a20, .ref a21, .ref a22, .ref a23, .ref a24, .ref a25, .ref a26, .ref a27])), (a19, .inl (z.2 0, 31, .inl (fun _ => 0))), (a20, .inl (z.2 0, 8, .inl (fun _ => 0))), (a21, .inl (z.2 0, 8, .inl (fun _ => 0))), (a22, .inl (z.2 0, 64, .inl (fun _ => 0)))] := hD
  refine W.eq (g2 := F0 m 6 ls []) rfl ?_
  refine lv_aload_n hx hb d_1_32_6 rfl (lv_at hl 0 rfl) ?_
  refine va_get (D := z.1) (ci := 11) (v := .ref a2) (C := "Ballothall") (T := TX11) (N := 14) hx hb hts iX11 hown hG.1 hP 0 rfl rfl 1 (by decide) (hts _ w_407) (fun _ h9 => h9) rfl d_1_32_7 ?_
  refine lv_aload_n hx hb d_1_32_10 rfl (lv_at hl 0 rfl) ?_
  refine va_get (D := z.1) (ci := 11) (v := .ref a1) (C := "Ballothall") (T := TX11) (N := 14) hx hb hts iX11 hown hG.1 hP 0 rfl rfl 0 (by decide) (hts _ w_406) (fun _ h9 => h9) rfl d_1_32_11 ?_
  refine kVN (As := []) (rest := [.ref a2]) (wr := [(a0, .inr (11, [.ref a1, .ref a2, .ref a3, .ref a4, .ref a5, .ref a6, .ref a7, .ref a8, .ref a9, .ref a10, .int 0, .int 0, .ref a11, .int 0])), (a2, .inr (9, [.ref a1, .int 0, .int 0, .ref a19, .ref a20, .ref a21, .ref a22, .ref a23, .ref a24, .ref a25, .ref a26, .ref a27])), (a19, .inl (z.2 0, 31, .inl (fun _ => 0))), (a20, .inl (z.2 0, 8, .inl (fun _ => 0))), (a21, .inl (z.2 0, 8, .inl (fun _ => 0))), (a22, .inl (z.2 0, 64, .inl (fun _ => 0)))]) (c269_BallotBox_everybody l z a1 a12 a13 a14 a15 a16 a17 a18) hx hb hml hown hts w_480 n_477 w_479 w_s_8b8b67 w_2 md_b59579 ⟨Nat.le_of_ble_eq_true rfl, Nat.le_of_ble_eq_true rfl⟩ hG hZ hP hD hS hA 1 rfl rfl rfl [1] [0, 2, 3, 4, 5, 6] rfl rfl rfl rfl rfl hl.1 rfl (Nat.le_of_ble_eq_true rfl) d_1_32_14 ⟨Nat.le_of_ble_eq_true rfl, Nat.le_of_ble_eq_true rfl⟩ (fun u1 H locs hP hD hS => ?_)
  have hP : va_P z.1 classes [(a0, .inr (11, [.ref a1, .ref a2, .ref a3, .ref a4, .ref a5, .ref a6, .ref a7, .ref a8, .ref a9, .ref a10, .int 0, .int 0, .ref a11, .int 0])), (a2, .inr (9, [.ref a1, .int 0, .int 0, .ref a19, .ref a20, .ref a21, .ref a22, .ref a23, .ref a24, .ref a25, .ref a26, .ref a27])), (a19, .inl (z.2 0, 31, .inl (fun _ => 0))), (a20, .inl (z.2 0, 8, .inl (fun _ => 0))), (a21, .inl (z.2 0, 8, .inl (fun _ => 0))), (a22, .inl (z.2 0, 64, .inl (fun _ => 0))), (a1, .inr (0, [.ref a12, .int 0, .int 0, .int 0, .ref a13, .ref a14, .ref a15, .ref a16, .ref a17, .ref a18]))] H := hP
  have hD : va_D A [(a0, .inr (11, [.ref a1, .ref a2, .ref a3, .ref a4, .ref a5, .ref a6, .ref a7, .ref a8, .ref a9, .ref a10, .int 0, .int 0, .ref a11, .int 0])), (a2, .inr (9, [.ref a1, .int 0, .int 0, .ref a19, .ref a20, .ref a21, .ref a22, .ref a23, .ref a24, .ref a25, .ref a26, .ref a27])), (a19, .inl (z.2 0, 31, .inl (fun _ => 0))), (a20, .inl (z.2 0, 8, .inl (fun _ => 0))), (a21, .inl (z.2 0, 8, .inl (fun _ => 0))), (a22, .inl (z.2 0, 64, .inl (fun _ => 0))), (a1, .inr (0, [.ref a12, .int 0, .int 0, .int 0, .ref a13, .ref a14, .ref a15, .ref a16, .ref a17, .ref a18]))] := hD
  refine W.eq (g2 := F0 m 17 ls [.int 0, .ref a2]) rfl ?_
  refine kVN (As := [.int 0]) (rest := []) (wr := [(a0, .inr (11, [.ref a1, .ref a2, .ref a3, .ref a4, .ref a5, .ref a6, .ref a7, .ref a8, .ref a9, .ref a10, .int 0, .int 0, .ref a11, .int 0]))]) (c285_Poll_open l z a2 a1 a19 a20 a21 a22 a23 a24 a25 a26 a27 a12 a13 a14 a15 a16 a17 a18) hx hb hml hown hts w_484 n_481 w_483 w_s_229dc4 w_3 md_60bc9b ⟨Nat.le_of_ble_eq_true rfl, Nat.le_of_ble_eq_true rfl⟩ hG hZ hP hD hS hA 1 rfl rfl rfl [1, 2, 3, 4, 5, 6] [0] rfl rfl rfl rfl rfl hl.1 rfl (Nat.le_of_ble_eq_true rfl) d_1_32_17 ⟨Nat.le_of_ble_eq_true rfl, Nat.le_of_ble_eq_true rfl⟩ (fun u2 H locs hP hD hS => ?_)
  have hP : va_P z.1 classes [(a0, .inr (11, [.ref a1, .ref a2, .ref a3, .ref a4, .ref a5, .ref a6, .ref a7, .ref a8, .ref a9, .ref a10, .int 0, .int 0, .ref a11, .int 0])), (a2, .inr (9, [.ref a1, .int 0, .int 0, .ref a19, .ref a20, .ref a21, .ref a22, .ref a23, .ref a24, .ref a25, .ref a26, .ref a27])), (a19, .inl (z.2 0, 31, .inl (fun _ => 0))), (a20, .inl (z.2 0, 8, .inl (fun _ => 0))), (a21, .inl (z.2 0, 8, .inl (fun _ => 0))), (a22, .inl (z.2 0, 64, .inl (fun _ => 0))), (a1, .inr (0, [.ref a12, .int 0, .int 0, .int 0, .ref a13, .ref a14, .ref a15, .ref a16, .ref a17, .ref a18]))] H := hP
  have hD : va_D A [(a0, .inr (11, [.ref a1, .ref a2, .ref a3, .ref a4, .ref a5, .ref a6, .ref a7, .ref a8, .ref a9, .ref a10, .int 0, .int 0, .ref a11, .int 0])), (a2, .inr (9, [.ref a1, .int 0, .int 0, .ref a19, .ref a20, .ref a21, .ref a22, .ref a23, .ref a24, .ref a25, .ref a26, .ref a27])), (a19, .inl (z.2 0, 31, .inl (fun _ => 0))), (a20, .inl (z.2 0, 8, .inl (fun _ => 0))), (a21, .inl (z.2 0, 8, .inl (fun _ => 0))), (a22, .inl (z.2 0, 64, .inl (fun _ => 0))), (a1, .inr (0, [.ref a12, .int 0, .int 0, .int 0, .ref a13, .ref a14, .ref a15, .ref a16, .ref a17, .ref a18]))] := hD
  refine W.eq (g2 := F0 m 20 ls []) rfl ?_
  refine lv_aload_n hx hb d_1_32_20 rfl (lv_at hl 0 rfl) ?_
  refine va_get (D := z.1) (ci := 11) (v := .ref a2) (C := "Ballothall") (T := TX11) (N := 14) hx hb hts iX11 hown hG.1 hP 0 rfl rfl 1 (by decide) (hts _ w_407) (fun _ h9 => h9) rfl d_1_32_21 ?_
  refine lv_iload_n hx hb d_1_32_24 rfl (lv_at hl 1 rfl) ?_
  refine kVN (As := [.int x0]) (rest := []) (wr := [(a0, .inr (11, [.ref a1, .ref a2, .ref a3, .ref a4, .ref a5, .ref a6, .ref a7, .ref a8, .ref a9, .ref a10, .int 0, .int 0, .ref a11, .int 0])), (a19, .inl (z.2 0, 31, .inl (fun _ => 0))), (a20, .inl (z.2 0, 8, .inl (fun _ => 0))), (a21, .inl (z.2 0, 8, .inl (fun _ => 0))), (a22, .inl (z.2 0, 64, .inl (fun _ => 0))), (a1, .inr (0, [.ref a12, .int 0, .int 0, .int 0, .ref a13, .ref a14, .ref a15, .ref a16, .ref a17, .ref a18]))]) (c422_Poll_bestBy l z a2 a1 a19 a20 a21 a22 a23 a24 a25 a26 a27 x0) hx hb hml hown hts w_588 n_585 w_587 w_s_0765de w_3 md_2b9f88 ⟨Nat.le_of_ble_eq_true rfl, Nat.le_of_ble_eq_true rfl⟩ hG hZ hP hD hS hA 1 rfl rfl rfl [1] [0, 2, 3, 4, 5, 6] rfl rfl rfl rfl rfl hl.1 rfl (Nat.le_of_ble_eq_true rfl) d_1_32_25 ⟨Nat.le_of_ble_eq_true rfl, Nat.le_of_ble_eq_true rfl⟩ (fun u3 H locs hP hD hS => ?_)
  have hP : va_P z.1 classes [(a0, .inr (11, [.ref a1, .ref a2, .ref a3, .ref a4, .ref a5, .ref a6, .ref a7, .ref a8, .ref a9, .ref a10, .int 0, .int 0, .ref a11, .int 0])), (a19, .inl (z.2 0, 31, .inl (fun _ => 0))), (a20, .inl (z.2 0, 8, .inl (fun _ => 0))), (a21, .inl (z.2 0, 8, .inl (fun _ => 0))), (a22, .inl (z.2 0, 64, .inl (fun _ => 0))), (a1, .inr (0, [.ref a12, .int 0, .int 0, .int 0, .ref a13, .ref a14, .ref a15, .ref a16, .ref a17, .ref a18])), (a2, .inr (9, [.ref a1, .int 0, .int 0, .ref a19, .ref a20, .ref a21, .ref a22, .ref a23, .ref a24, .ref a25, .ref a26, .ref a27]))] H := hP
  have hD : va_D A [(a0, .inr (11, [.ref a1, .ref a2, .ref a3, .ref a4, .ref a5, .ref a6, .ref a7, .ref a8, .ref a9, .ref a10, .int 0, .int 0, .ref a11, .int 0])), (a19, .inl (z.2 0, 31, .inl (fun _ => 0))), (a20, .inl (z.2 0, 8, .inl (fun _ => 0))), (a21, .inl (z.2 0, 8, .inl (fun _ => 0))), (a22, .inl (z.2 0, 64, .inl (fun _ => 0))), (a1, .inr (0, [.ref a12, .int 0, .int 0, .int 0, .ref a13, .ref a14, .ref a15, .ref a16, .ref a17, .ref a18])), (a2, .inr (9, [.ref a1, .int 0, .int 0, .ref a19, .ref a20, .ref a21, .ref a22, .ref a23, .ref a24, .ref a25, .ref a26, .ref a27]))] := hD
  refine W.eq (g2 := F0 m 28 ls [.int (-1)]) rfl ?_
  refine W.widen (k := 0) (n := 0) (Nat.le_of_ble_eq_true rfl) (Nat.le_of_ble_eq_true rfl) ?_
  exact W.iret hx hb hr (fun t ht hW => qk hP hD hS [0, 5, 6, 1, 2, 3, 4] rfl ((fun k => k), (fun _ _ => none)) rfl rfl rfl ht) hS.2.2 d_1_32_28
set_option maxRecDepth 100000 in
set_option maxHeartbeats 4000000 in
theorem c424_BLaw_winner (l : Launch) (z : Zz) (a0 a1 a2 a3 a4 a5 a6 a7 a8 a9 a10 a11 a12 a13 a14 a15 a16 a17 a18 a19 a20 a21 a22 a23 a24 a25 a26 a27 a28 : Nat) (x0 : Int32) (h0 : ¬ x0 < 0) (h1 : ¬ 4 < x0) : HT l z ⟨"BallothallLaw", "winner", "(LBallothall;I[J)I"⟩ method_25_code 4 (some .int) [(0, 9, 12, 21)] [.ref a0, .int x0, .ref a1] [(a0, .inr (11, [.ref a2, .ref a3, .ref a4, .ref a5, .ref a6, .ref a7, .ref a8, .ref a9, .ref a10, .ref a11, .int 0, .int 0, .ref a12, .int 0])), (a2, .inr (0, [.ref a13, .int 0, .int 0, .int 0, .ref a14, .ref a15, .ref a16, .ref a17, .ref a18, .ref a19])), (a3, .inr (9, [.ref a2, .int 0, .int 0, .ref a20, .ref a21, .ref a22, .ref a23, .ref a24, .ref a25, .ref a26, .ref a27, .ref a28])), (a20, .inl (z.2 0, 31, .inl (fun _ => 0))), (a21, .inl (z.2 0, 8, .inl (fun _ => 0))), (a22, .inl (z.2 0, 8, .inl (fun _ => 0))), (a23, .inl (z.2 0, 64, .inl (fun _ => 0))), (a1, .inl (z.2 1, 1, .inr (.inl (fun _ => 0))))] 4 110 0 0 (fun u => some (.int 0)) (fun u => [(a0, .inr (11, [.ref a2, .ref a3, .ref a4, .ref a5, .ref a6, .ref a7, .ref a8, .ref a9, .ref a10, .ref a11, .int 0, .int 0, .ref a12, .int 0])), (a2, .inr (0, [.ref a13, .int 0, .int 0, .int 0, .ref a14, .ref a15, .ref a16, .ref a17, .ref a18, .ref a19])), (a3, .inr (9, [.ref a2, .int 0, .int 0, .ref a20, .ref a21, .ref a22, .ref a23, .ref a24, .ref a25, .ref a26, .ref a27, .ref a28])), (a20, .inl (z.2 0, 31, .inl (fun _ => 0))), (a21, .inl (z.2 0, 8, .inl (fun _ => 0))), (a22, .inl (z.2 0, 8, .inl (fun _ => 0))), (a23, .inl (z.2 0, 64, .inl (fun _ => 0))), (a1, .inl (z.2 1, 1, .inr (.inl (vp_updL (fun _ => 0) 0 (-1)))))]) := by
  refine HT.of (own := "BallothallLaw") (by decide +kernel) (Nat.le_of_ble_eq_true rfl) rfl (fun p e s m below meth c A ls hx hb hml hr hts hown hlocks hin hA hG hZ hP hD hS hl htab => ?_)
  have hl : lv_has ls 4 [(0, .ref a0), (1, .int x0), (2, .ref a1)] := hl
  refine lv_aload_n hx hb d_L25_0 rfl (lv_at hl 2 rfl) ?_
  refine lv_iconst (v := 0) hx hb d_L25_1 (by decide +kernel) ?_
  refine lv_aload_n hx hb d_L25_2 rfl (lv_at hl 0 rfl) ?_
  refine lv_iload_n hx hb d_L25_3 rfl (lv_at hl 1 rfl) ?_
  refine kV (As := [.int x0]) (rest := [.int 0, .ref a1]) (wr := [(a1, .inl (z.2 1, 1, .inr (.inl (fun _ => 0))))]) (c423_B_winner l z a0 a2 a3 a4 a5 a6 a7 a8 a9 a10 a11 a12 a13 a14 a15 a16 a17 a18 a19 a20 a21 a22 a23 a24 a25 a26 a27 a28 x0 h0 h1) hx hb hml hown hts w_1351 w_1348 w_1349 w_1350 w_1 md_54b855 ⟨Nat.le_of_ble_eq_true rfl, Nat.le_of_ble_eq_true rfl⟩ hG hZ hP hD hS hA 0 rfl rfl rfl [0, 1, 2, 3, 4, 5, 6] [7] rfl rfl rfl rfl rfl hl.1 rfl (Nat.le_of_ble_eq_true rfl) d_L25_4 ⟨Nat.le_of_ble_eq_true rfl, Nat.le_of_ble_eq_true rfl⟩ (fun u0 H locs hP hD hS => ?_)
  have hP : va_P z.1 classes [(a1, .inl (z.2 1, 1, .inr (.inl (fun _ => 0)))), (a0, .inr (11, [.ref a2, .ref a3, .ref a4, .ref a5, .ref a6, .ref a7, .ref a8, .ref a9, .ref a10, .ref a11, .int 0, .int 0, .ref a12, .int 0])), (a2, .inr (0, [.ref a13, .int 0, .int 0, .int 0, .ref a14, .ref a15, .ref a16, .ref a17, .ref a18, .ref a19])), (a3, .inr (9, [.ref a2, .int 0, .int 0, .ref a20, .ref a21, .ref a22, .ref a23, .ref a24, .ref a25, .ref a26, .ref a27, .ref a28])), (a20, .inl (z.2 0, 31, .inl (fun _ => 0))), (a21, .inl (z.2 0, 8, .inl (fun _ => 0))), (a22, .inl (z.2 0, 8, .inl (fun _ => 0))), (a23, .inl (z.2 0, 64, .inl (fun _ => 0)))] H := hP
  have hD : va_D A [(a1, .inl (z.2 1, 1, .inr (.inl (fun _ => 0)))), (a0, .inr (11, [.ref a2, .ref a3, .ref a4, .ref a5, .ref a6, .ref a7, .ref a8, .ref a9, .ref a10, .ref a11, .int 0, .int 0, .ref a12, .int 0])), (a2, .inr (0, [.ref a13, .int 0, .int 0, .int 0, .ref a14, .ref a15, .ref a16, .ref a17, .ref a18, .ref a19])), (a3, .inr (9, [.ref a2, .int 0, .int 0, .ref a20, .ref a21, .ref a22, .ref a23, .ref a24, .ref a25, .ref a26, .ref a27, .ref a28])), (a20, .inl (z.2 0, 31, .inl (fun _ => 0))), (a21, .inl (z.2 0, 8, .inl (fun _ => 0))), (a22, .inl (z.2 0, 8, .inl (fun _ => 0))), (a23, .inl (z.2 0, 64, .inl (fun _ => 0)))] := hD
  refine W.eq (g2 := F0 m 7 ls [.int (-1), .int 0, .ref a1]) rfl ?_
  refine lv_i2l (v := (-1)) hx hb d_L25_7 (by decide +kernel) ?_
  refine va_last hx hb hG.1 hP hD hS 0 1 rfl rfl (vin rfl) d_L25_8 (fun H locs hP hD hS => ?_)
  have hP : va_P z.1 classes [(a1, .inl (z.2 1, 1, .inr (.inl (vp_updL (fun _ => 0) 0 (-1))))), (a0, .inr (11, [.ref a2, .ref a3, .ref a4, .ref a5, .ref a6, .ref a7, .ref a8, .ref a9, .ref a10, .ref a11, .int 0, .int 0, .ref a12, .int 0])), (a2, .inr (0, [.ref a13, .int 0, .int 0, .int 0, .ref a14, .ref a15, .ref a16, .ref a17, .ref a18, .ref a19])), (a3, .inr (9, [.ref a2, .int 0, .int 0, .ref a20, .ref a21, .ref a22, .ref a23, .ref a24, .ref a25, .ref a26, .ref a27, .ref a28])), (a20, .inl (z.2 0, 31, .inl (fun _ => 0))), (a21, .inl (z.2 0, 8, .inl (fun _ => 0))), (a22, .inl (z.2 0, 8, .inl (fun _ => 0))), (a23, .inl (z.2 0, 64, .inl (fun _ => 0)))] H := hP
  have hD : va_D A [(a1, .inl (z.2 1, 1, .inr (.inl (vp_updL (fun _ => 0) 0 (-1))))), (a0, .inr (11, [.ref a2, .ref a3, .ref a4, .ref a5, .ref a6, .ref a7, .ref a8, .ref a9, .ref a10, .ref a11, .int 0, .int 0, .ref a12, .int 0])), (a2, .inr (0, [.ref a13, .int 0, .int 0, .int 0, .ref a14, .ref a15, .ref a16, .ref a17, .ref a18, .ref a19])), (a3, .inr (9, [.ref a2, .int 0, .int 0, .ref a20, .ref a21, .ref a22, .ref a23, .ref a24, .ref a25, .ref a26, .ref a27, .ref a28])), (a20, .inl (z.2 0, 31, .inl (fun _ => 0))), (a21, .inl (z.2 0, 8, .inl (fun _ => 0))), (a22, .inl (z.2 0, 8, .inl (fun _ => 0))), (a23, .inl (z.2 0, 64, .inl (fun _ => 0)))] := hD
  refine lv_goto (tgt := 15) hx hb d_L25_9 (by decide) ?_
  refine lv_iconst (v := 0) hx hb d_L25_15 (by decide +kernel) ?_
  refine W.widen (k := 0) (n := 0) (Nat.le_of_ble_eq_true rfl) (Nat.le_of_ble_eq_true rfl) ?_
  refine vx_ret ?_
  exact W.iret hx hb hr (fun t ht hW => qk hP hD hS [1, 2, 3, 4, 5, 6, 7, 0] rfl ((fun k => k), (fun _ _ => none)) rfl rfl rfl ht) hS.2.2 d_L25_16
set_option maxRecDepth 100000 in
set_option maxHeartbeats 4000000 in
theorem c425_BModel_isIn (l : Launch) (z : Zz) (x0 : Int32) (h0 : ¬ x0 < 0) (h1 : ¬ 4 < x0) : CT l z ⟨"BallothallModel", "isIn", "(III)Z"⟩ prog_14_method_20_code 3 (some .boolean) [.int x0, .int 0, .int 4] [] 0 0 0 0 (fun u => some (.int 1)) (fun u => []) := by
  refine CT.of (own := "BallothallModel") (by decide +kernel) (Nat.le_of_ble_eq_true rfl) rfl (fun p e s m below meth c A ls hx hb hml hr hts hown hlocks hin hA hG hZ hP hD hS hl => ?_)
  have hl : lv_has ls 3 [(0, .int x0), (1, .int 0), (2, .int 4)] := hl
  refine lv_iload_n hx hb d_14_20_0 rfl (lv_at hl 0 rfl) ?_
  refine lv_iload_n hx hb d_14_20_1 rfl (lv_at hl 1 rfl) ?_
  refine lv_icmp_lt (tgt := 14) hx hb d_14_20_2 (by decide) (fun c9 => absurd c9 h0) (fun _ => ?_)
  refine lv_iload_n hx hb d_14_20_5 rfl (lv_at hl 0 rfl) ?_
  refine lv_iload_n hx hb d_14_20_6 rfl (lv_at hl 2 rfl) ?_
  refine lv_icmp_gt (tgt := 14) hx hb d_14_20_7 (by decide) (fun c9 => absurd c9 h1) (fun _ => ?_)
  refine lv_iconst (v := 1) hx hb d_14_20_10 (by decide +kernel) ?_
  refine lv_goto (tgt := 15) hx hb d_14_20_11 (by decide) ?_
  refine W.widen (k := 0) (n := 0) (Nat.le_of_ble_eq_true rfl) (Nat.le_of_ble_eq_true rfl) ?_
  exact W.zret hx hb hr rfl (fun t ht hW => qk hP hD hS [] rfl ((fun k => k), (fun _ _ => none)) rfl rfl rfl ht) hS.2.2 d_14_20_15
set_option maxRecDepth 100000 in
set_option maxHeartbeats 4000000 in
theorem c426_java_lang_Integer_bitCount (l : Launch) (z : Zz) : CT l z ⟨"java/lang/Integer", "bitCount", "(I)I"⟩ prog_27_method_49_code 1 (some .int) [.int 0] [] 0 0 0 0 (fun u => some (.int 0)) (fun u => []) := by
  refine CT.of (own := "java/lang/Integer") (by decide +kernel) (Nat.le_of_ble_eq_true rfl) rfl (fun p e s m below meth c A ls hx hb hml hr hts hown hlocks hin hA hG hZ hP hD hS hl => ?_)
  have hl : lv_has ls 1 [(0, .int 0)] := hl
  refine lv_iload_n hx hb d_27_49_0 rfl (lv_at hl 0 rfl) ?_
  refine lv_iload_n hx hb d_27_49_1 rfl (lv_at hl 0 rfl) ?_
  refine lv_iconst (v := 1) hx hb d_27_49_2 (by decide +kernel) ?_
  refine lv_iushr (v := 0) hx hb d_27_49_3 (by decide +kernel) ?_
  refine lv_ldcw hx hb hown (hts _ w_503) d_27_49_4 ?_
  refine lv_iand hx hb d_27_49_7 ?_
  refine nrm (x1 := 0) (by decide +kernel) ?_
  refine lv_isub hx hb d_27_49_8 ?_
  refine nrm (x1 := 0) (by decide +kernel) ?_
  refine lv_istore_n (lv' := [(0, .int 0)]) hx hb d_27_49_9 rfl hl (by decide) rfl (fun ls hl => ?_)
  refine lv_iload_n hx hb d_27_49_10 rfl (lv_at hl 0 rfl) ?_
  refine lv_ldcw hx hb hown (hts _ w_504) d_27_49_11 ?_
  refine lv_iand hx hb d_27_49_14 ?_
  refine nrm (x1 := 0) (by decide +kernel) ?_
  refine lv_iload_n hx hb d_27_49_15 rfl (lv_at hl 0 rfl) ?_
  refine lv_iconst (v := 2) hx hb d_27_49_16 (by decide +kernel) ?_
  refine lv_iushr (v := 0) hx hb d_27_49_17 (by decide +kernel) ?_
  refine lv_ldcw hx hb hown (hts _ w_504) d_27_49_18 ?_
  refine lv_iand hx hb d_27_49_21 ?_
  refine nrm (x1 := 0) (by decide +kernel) ?_
  refine lv_iadd hx hb d_27_49_22 ?_
  refine nrm (x1 := 0) (by decide +kernel) ?_
  refine lv_istore_n (lv' := [(0, .int 0)]) hx hb d_27_49_23 rfl hl (by decide) rfl (fun ls hl => ?_)
  refine lv_iload_n hx hb d_27_49_24 rfl (lv_at hl 0 rfl) ?_
  refine lv_iload_n hx hb d_27_49_25 rfl (lv_at hl 0 rfl) ?_
  refine lv_iconst (v := 4) hx hb d_27_49_26 (by decide +kernel) ?_
  refine lv_iushr (v := 0) hx hb d_27_49_27 (by decide +kernel) ?_
  refine lv_iadd hx hb d_27_49_28 ?_
  refine nrm (x1 := 0) (by decide +kernel) ?_
  refine lv_ldcw hx hb hown (hts _ w_505) d_27_49_29 ?_
  refine lv_iand hx hb d_27_49_32 ?_
  refine nrm (x1 := 0) (by decide +kernel) ?_
  refine lv_istore_n (lv' := [(0, .int 0)]) hx hb d_27_49_33 rfl hl (by decide) rfl (fun ls hl => ?_)
  refine lv_iload_n hx hb d_27_49_34 rfl (lv_at hl 0 rfl) ?_
  refine lv_iload_n hx hb d_27_49_35 rfl (lv_at hl 0 rfl) ?_
  refine lv_bipush (v := 8) hx hb d_27_49_36 (by decide +kernel) ?_
  refine lv_iushr (v := 0) hx hb d_27_49_38 (by decide +kernel) ?_
  refine lv_iadd hx hb d_27_49_39 ?_
  refine nrm (x1 := 0) (by decide +kernel) ?_
  refine lv_istore_n (lv' := [(0, .int 0)]) hx hb d_27_49_40 rfl hl (by decide) rfl (fun ls hl => ?_)
  refine lv_iload_n hx hb d_27_49_41 rfl (lv_at hl 0 rfl) ?_
  refine lv_iload_n hx hb d_27_49_42 rfl (lv_at hl 0 rfl) ?_
  refine lv_bipush (v := 16) hx hb d_27_49_43 (by decide +kernel) ?_
  refine lv_iushr (v := 0) hx hb d_27_49_45 (by decide +kernel) ?_
  refine lv_iadd hx hb d_27_49_46 ?_
  refine nrm (x1 := 0) (by decide +kernel) ?_
  refine lv_istore_n (lv' := [(0, .int 0)]) hx hb d_27_49_47 rfl hl (by decide) rfl (fun ls hl => ?_)
  refine lv_iload_n hx hb d_27_49_48 rfl (lv_at hl 0 rfl) ?_
  refine lv_bipush (v := 63) hx hb d_27_49_49 (by decide +kernel) ?_
  refine lv_iand hx hb d_27_49_51 ?_
  refine nrm (x1 := 0) (by decide +kernel) ?_
  refine W.widen (k := 0) (n := 0) (Nat.le_of_ble_eq_true rfl) (Nat.le_of_ble_eq_true rfl) ?_
  exact W.iret hx hb hr (fun t ht hW => qk hP hD hS [] rfl ((fun k => k), (fun _ _ => none)) rfl rfl rfl ht) hS.2.2 d_27_49_52
set_option maxRecDepth 100000 in
set_option maxHeartbeats 4000000 in
theorem c427_Poll_byLot (l : Launch) (z : Zz) (a0 : Nat) : CT l z ⟨"BallothallModel$Poll", "byLot", "(I)I"⟩ prog_17_method_6_code 4 (some .int) [.ref a0, .int 0] [] 0 0 0 0 (fun u => some (.int (-1))) (fun u => []) := by
  refine CT.of (own := "BallothallModel$Poll") (by decide +kernel) (Nat.le_of_ble_eq_true rfl) rfl (fun p e s m below meth c A ls hx hb hml hr hts hown hlocks hin hA hG hZ hP hD hS hl => ?_)
  have hl : lv_has ls 4 [(0, .ref a0), (1, .int 0)] := hl
  refine lv_iconst (v := (-1)) hx hb d_17_6_0 (by decide +kernel) ?_
  refine lv_istore_n (lv' := [(2, .int (-1)), (0, .ref a0), (1, .int 0)]) hx hb d_17_6_1 rfl hl (by decide) rfl (fun ls hl => ?_)
  refine lv_iconst (v := 0) hx hb d_17_6_2 (by decide +kernel) ?_
  refine lv_istore_n (lv' := [(3, .int 0), (2, .int (-1)), (0, .ref a0), (1, .int 0)]) hx hb d_17_6_3 rfl hl (by decide) rfl (fun ls hl => ?_)
  refine lv_iload_n hx hb d_17_6_4 rfl (lv_at hl 0 rfl) ?_
  refine lv_bipush (v := 8) hx hb d_17_6_5 (by decide +kernel) ?_
  refine lv_icmp_ge (tgt := 41) hx hb d_17_6_7 (by decide) (fun c9 => absurd c9 (by decide +kernel)) (fun _ => ?_)
  refine lv_iload_n hx hb d_17_6_10 rfl (lv_at hl 3 rfl) ?_
  refine lv_iload_n hx hb d_17_6_11 rfl (lv_at hl 0 rfl) ?_
  refine lv_ishr hx hb d_17_6_12 ?_
  refine nrm (x1 := 0) (by decide +kernel) ?_
  refine lv_iconst (v := 1) hx hb d_17_6_13 (by decide +kernel) ?_
  refine lv_iand hx hb d_17_6_14 ?_
  refine nrm (x1 := 0) (by decide +kernel) ?_
  refine lv_iconst (v := 1) hx hb d_17_6_15 (by decide +kernel) ?_
  refine lv_icmp_ne (tgt := 35) hx hb d_17_6_16 (by decide) (fun _ => ?_) (fun c9 => absurd c9 (by decide +kernel))
  refine lv_iinc (v := 1) (lv' := [(3, .int 1), (2, .int (-1)), (0, .ref a0), (1, .int 0)]) hx hb d_17_6_35 hl (k := 0) rfl (by decide +kernel) (by decide) rfl (fun ls hl => ?_)
  refine lv_goto (tgt := 4) hx hb d_17_6_38 (by decide) ?_
  refine lv_iload_n hx hb d_17_6_4 rfl (lv_at hl 0 rfl) ?_
  refine lv_bipush (v := 8) hx hb d_17_6_5 (by decide +kernel) ?_
  refine lv_icmp_ge (tgt := 41) hx hb d_17_6_7 (by decide) (fun c9 => absurd c9 (by decide +kernel)) (fun _ => ?_)
  refine lv_iload_n hx hb d_17_6_10 rfl (lv_at hl 3 rfl) ?_
  refine lv_iload_n hx hb d_17_6_11 rfl (lv_at hl 0 rfl) ?_
  refine lv_ishr hx hb d_17_6_12 ?_
  refine nrm (x1 := 0) (by decide +kernel) ?_
  refine lv_iconst (v := 1) hx hb d_17_6_13 (by decide +kernel) ?_
  refine lv_iand hx hb d_17_6_14 ?_
  refine nrm (x1 := 0) (by decide +kernel) ?_
  refine lv_iconst (v := 1) hx hb d_17_6_15 (by decide +kernel) ?_
  refine lv_icmp_ne (tgt := 35) hx hb d_17_6_16 (by decide) (fun _ => ?_) (fun c9 => absurd c9 (by decide +kernel))
  refine lv_iinc (v := 2) (lv' := [(3, .int 2), (2, .int (-1)), (0, .ref a0), (1, .int 0)]) hx hb d_17_6_35 hl (k := 0) rfl (by decide +kernel) (by decide) rfl (fun ls hl => ?_)
  refine lv_goto (tgt := 4) hx hb d_17_6_38 (by decide) ?_
  refine lv_iload_n hx hb d_17_6_4 rfl (lv_at hl 0 rfl) ?_
  refine lv_bipush (v := 8) hx hb d_17_6_5 (by decide +kernel) ?_
  refine lv_icmp_ge (tgt := 41) hx hb d_17_6_7 (by decide) (fun c9 => absurd c9 (by decide +kernel)) (fun _ => ?_)
  refine lv_iload_n hx hb d_17_6_10 rfl (lv_at hl 3 rfl) ?_
  refine lv_iload_n hx hb d_17_6_11 rfl (lv_at hl 0 rfl) ?_
  refine lv_ishr hx hb d_17_6_12 ?_
  refine nrm (x1 := 0) (by decide +kernel) ?_
  refine lv_iconst (v := 1) hx hb d_17_6_13 (by decide +kernel) ?_
  refine lv_iand hx hb d_17_6_14 ?_
  refine nrm (x1 := 0) (by decide +kernel) ?_
  refine lv_iconst (v := 1) hx hb d_17_6_15 (by decide +kernel) ?_
  refine lv_icmp_ne (tgt := 35) hx hb d_17_6_16 (by decide) (fun _ => ?_) (fun c9 => absurd c9 (by decide +kernel))
  refine lv_iinc (v := 3) (lv' := [(3, .int 3), (2, .int (-1)), (0, .ref a0), (1, .int 0)]) hx hb d_17_6_35 hl (k := 0) rfl (by decide +kernel) (by decide) rfl (fun ls hl => ?_)
  refine lv_goto (tgt := 4) hx hb d_17_6_38 (by decide) ?_
  refine lv_iload_n hx hb d_17_6_4 rfl (lv_at hl 0 rfl) ?_
  refine lv_bipush (v := 8) hx hb d_17_6_5 (by decide +kernel) ?_
  refine lv_icmp_ge (tgt := 41) hx hb d_17_6_7 (by decide) (fun c9 => absurd c9 (by decide +kernel)) (fun _ => ?_)
  refine lv_iload_n hx hb d_17_6_10 rfl (lv_at hl 3 rfl) ?_
  refine lv_iload_n hx hb d_17_6_11 rfl (lv_at hl 0 rfl) ?_
  refine lv_ishr hx hb d_17_6_12 ?_
  refine nrm (x1 := 0) (by decide +kernel) ?_
  refine lv_iconst (v := 1) hx hb d_17_6_13 (by decide +kernel) ?_
  refine lv_iand hx hb d_17_6_14 ?_
  refine nrm (x1 := 0) (by decide +kernel) ?_
  refine lv_iconst (v := 1) hx hb d_17_6_15 (by decide +kernel) ?_
  refine lv_icmp_ne (tgt := 35) hx hb d_17_6_16 (by decide) (fun _ => ?_) (fun c9 => absurd c9 (by decide +kernel))
  refine lv_iinc (v := 4) (lv' := [(3, .int 4), (2, .int (-1)), (0, .ref a0), (1, .int 0)]) hx hb d_17_6_35 hl (k := 0) rfl (by decide +kernel) (by decide) rfl (fun ls hl => ?_)
  refine lv_goto (tgt := 4) hx hb d_17_6_38 (by decide) ?_
  refine lv_iload_n hx hb d_17_6_4 rfl (lv_at hl 0 rfl) ?_
  refine lv_bipush (v := 8) hx hb d_17_6_5 (by decide +kernel) ?_
  refine lv_icmp_ge (tgt := 41) hx hb d_17_6_7 (by decide) (fun c9 => absurd c9 (by decide +kernel)) (fun _ => ?_)
  refine lv_iload_n hx hb d_17_6_10 rfl (lv_at hl 3 rfl) ?_
  refine lv_iload_n hx hb d_17_6_11 rfl (lv_at hl 0 rfl) ?_
  refine lv_ishr hx hb d_17_6_12 ?_
  refine nrm (x1 := 0) (by decide +kernel) ?_
  refine lv_iconst (v := 1) hx hb d_17_6_13 (by decide +kernel) ?_
  refine lv_iand hx hb d_17_6_14 ?_
  refine nrm (x1 := 0) (by decide +kernel) ?_
  refine lv_iconst (v := 1) hx hb d_17_6_15 (by decide +kernel) ?_
  refine lv_icmp_ne (tgt := 35) hx hb d_17_6_16 (by decide) (fun _ => ?_) (fun c9 => absurd c9 (by decide +kernel))
  refine lv_iinc (v := 5) (lv' := [(3, .int 5), (2, .int (-1)), (0, .ref a0), (1, .int 0)]) hx hb d_17_6_35 hl (k := 0) rfl (by decide +kernel) (by decide) rfl (fun ls hl => ?_)
  refine lv_goto (tgt := 4) hx hb d_17_6_38 (by decide) ?_
  refine lv_iload_n hx hb d_17_6_4 rfl (lv_at hl 0 rfl) ?_
  refine lv_bipush (v := 8) hx hb d_17_6_5 (by decide +kernel) ?_
  refine lv_icmp_ge (tgt := 41) hx hb d_17_6_7 (by decide) (fun c9 => absurd c9 (by decide +kernel)) (fun _ => ?_)
  refine lv_iload_n hx hb d_17_6_10 rfl (lv_at hl 3 rfl) ?_
  refine lv_iload_n hx hb d_17_6_11 rfl (lv_at hl 0 rfl) ?_
  refine lv_ishr hx hb d_17_6_12 ?_
  refine nrm (x1 := 0) (by decide +kernel) ?_
  refine lv_iconst (v := 1) hx hb d_17_6_13 (by decide +kernel) ?_
  refine lv_iand hx hb d_17_6_14 ?_
  refine nrm (x1 := 0) (by decide +kernel) ?_
  refine lv_iconst (v := 1) hx hb d_17_6_15 (by decide +kernel) ?_
  refine lv_icmp_ne (tgt := 35) hx hb d_17_6_16 (by decide) (fun _ => ?_) (fun c9 => absurd c9 (by decide +kernel))
  refine lv_iinc (v := 6) (lv' := [(3, .int 6), (2, .int (-1)), (0, .ref a0), (1, .int 0)]) hx hb d_17_6_35 hl (k := 0) rfl (by decide +kernel) (by decide) rfl (fun ls hl => ?_)
  refine lv_goto (tgt := 4) hx hb d_17_6_38 (by decide) ?_
  refine lv_iload_n hx hb d_17_6_4 rfl (lv_at hl 0 rfl) ?_
  refine lv_bipush (v := 8) hx hb d_17_6_5 (by decide +kernel) ?_
  refine lv_icmp_ge (tgt := 41) hx hb d_17_6_7 (by decide) (fun c9 => absurd c9 (by decide +kernel)) (fun _ => ?_)
  refine lv_iload_n hx hb d_17_6_10 rfl (lv_at hl 3 rfl) ?_
  refine lv_iload_n hx hb d_17_6_11 rfl (lv_at hl 0 rfl) ?_
  refine lv_ishr hx hb d_17_6_12 ?_
  refine nrm (x1 := 0) (by decide +kernel) ?_
  refine lv_iconst (v := 1) hx hb d_17_6_13 (by decide +kernel) ?_
  refine lv_iand hx hb d_17_6_14 ?_
  refine nrm (x1 := 0) (by decide +kernel) ?_
  refine lv_iconst (v := 1) hx hb d_17_6_15 (by decide +kernel) ?_
  refine lv_icmp_ne (tgt := 35) hx hb d_17_6_16 (by decide) (fun _ => ?_) (fun c9 => absurd c9 (by decide +kernel))
  refine lv_iinc (v := 7) (lv' := [(3, .int 7), (2, .int (-1)), (0, .ref a0), (1, .int 0)]) hx hb d_17_6_35 hl (k := 0) rfl (by decide +kernel) (by decide) rfl (fun ls hl => ?_)
  refine lv_goto (tgt := 4) hx hb d_17_6_38 (by decide) ?_
  refine lv_iload_n hx hb d_17_6_4 rfl (lv_at hl 0 rfl) ?_
  refine lv_bipush (v := 8) hx hb d_17_6_5 (by decide +kernel) ?_
  refine lv_icmp_ge (tgt := 41) hx hb d_17_6_7 (by decide) (fun c9 => absurd c9 (by decide +kernel)) (fun _ => ?_)
  refine lv_iload_n hx hb d_17_6_10 rfl (lv_at hl 3 rfl) ?_
  refine lv_iload_n hx hb d_17_6_11 rfl (lv_at hl 0 rfl) ?_
  refine lv_ishr hx hb d_17_6_12 ?_
  refine nrm (x1 := 0) (by decide +kernel) ?_
  refine lv_iconst (v := 1) hx hb d_17_6_13 (by decide +kernel) ?_
  refine lv_iand hx hb d_17_6_14 ?_
  refine nrm (x1 := 0) (by decide +kernel) ?_
  refine lv_iconst (v := 1) hx hb d_17_6_15 (by decide +kernel) ?_
  refine lv_icmp_ne (tgt := 35) hx hb d_17_6_16 (by decide) (fun _ => ?_) (fun c9 => absurd c9 (by decide +kernel))
  refine lv_iinc (v := 8) (lv' := [(3, .int 8), (2, .int (-1)), (0, .ref a0), (1, .int 0)]) hx hb d_17_6_35 hl (k := 0) rfl (by decide +kernel) (by decide) rfl (fun ls hl => ?_)
  refine lv_goto (tgt := 4) hx hb d_17_6_38 (by decide) ?_
  refine lv_iload_n hx hb d_17_6_4 rfl (lv_at hl 0 rfl) ?_
  refine lv_bipush (v := 8) hx hb d_17_6_5 (by decide +kernel) ?_
  refine lv_icmp_ge (tgt := 41) hx hb d_17_6_7 (by decide) (fun _ => ?_) (fun c9 => absurd (by decide +kernel) c9)
  refine lv_iload_n hx hb d_17_6_41 rfl (lv_at hl 1 rfl) ?_
  refine W.widen (k := 0) (n := 0) (Nat.le_of_ble_eq_true rfl) (Nat.le_of_ble_eq_true rfl) ?_
  exact W.iret hx hb hr (fun t ht hW => qk hP hD hS [] rfl ((fun k => k), (fun _ _ => none)) rfl rfl rfl ht) hS.2.2 d_17_6_42
set_option maxRecDepth 100000 in
set_option maxHeartbeats 4000000 in
theorem c428_Poll_runoff (l : Launch) (z : Zz) (a0 a1 a2 a3 a4 : Nat) : CT l z ⟨"BallothallModel$Poll", "runoff", "()I"⟩ prog_17_method_8_code 7 (some .int) [.ref a0] [(a0, .inr (14, [.ref a1, .int 0, .ref a2, .ref a3, .int 0, .ref a4, .null]))] 1 31 0 0 (fun u => some (.int (-1))) (fun u => [(a0, .inr (14, [.ref a1, .int 0, .ref a2, .ref a3, .int 0, .ref a4, .null]))]) := by
  refine CT.of (own := "BallothallModel$Poll") (by decide +kernel) (Nat.le_of_ble_eq_true rfl) rfl (fun p e s m below meth c A ls hx hb hml hr hts hown hlocks hin hA hG hZ hP hD hS hl => ?_)
  have hl : lv_has ls 7 [(0, .ref a0)] := hl
  refine lv_aload_n hx hb d_17_8_0 rfl (lv_at hl 0 rfl) ?_
  refine va_get (D := z.1) (ci := 14) (v := .int 0) (C := "BallothallModel$Poll") (T := TX14) (N := 7) hx hb hts iX14 hown hG.1 hP 0 rfl rfl 1 (by decide) (hts _ w_2255) (fun _ h9 => h9) rfl d_17_8_1 ?_
  refine lv_istore_n (lv' := [(1, .int 0), (0, .ref a0)]) hx hb d_17_8_4 rfl hl (by decide) rfl (fun ls hl => ?_)
  refine lv_aload_n hx hb d_17_8_5 rfl (lv_at hl 1 rfl) ?_
  refine lv_iconst (v := 0) hx hb d_17_8_6 (by decide +kernel) ?_
  refine va_put (D := z.1) (ci := 14) (v := .int 0) (ty := .int) (C := "BallothallModel$Poll") (T := TX14) (N := 7) hx hb hts iX14 tyX14 tyX14_ok nmX14 hown hG.1 hP hD hS 0 rfl rfl 4 (by decide) (hts _ w_2259) (fun _ h9 => h9) rfl (by decide +kernel) rfl rfl (Nat.le_of_ble_eq_true rfl) d_17_8_7 (fun H locs hP hD hS => ?_)
  have hP : va_P z.1 classes [(a0, .inr (14, [.ref a1, .int 0, .ref a2, .ref a3, .int 0, .ref a4, .null]))] H := hP
  have hD : va_D A [(a0, .inr (14, [.ref a1, .int 0, .ref a2, .ref a3, .int 0, .ref a4, .null]))] := hD
  refine lv_iload_n hx hb d_17_8_10 rfl (lv_at hl 0 rfl) ?_
  refine kS (As := [.int 0]) (rest := []) (wr := [(a0, .inr (14, [.ref a1, .int 0, .ref a2, .ref a3, .int 0, .ref a4, .null]))]) (c426_java_lang_Integer_bitCount l z ) hx hb hml hown hts w_502 w_2347 w_501 w_28 md_eafe8c ⟨Nat.le_of_ble_eq_true rfl, Nat.le_of_ble_eq_true rfl⟩ hG hZ hP hD hS hA [] [0] rfl rfl rfl rfl rfl hl.1 rfl (Nat.le_of_ble_eq_true rfl) d_17_8_11 ⟨Nat.le_of_ble_eq_true rfl, Nat.le_of_ble_eq_true rfl⟩ (fun u0 H locs hP hD hS => ?_)
  have hP : va_P z.1 classes [(a0, .inr (14, [.ref a1, .int 0, .ref a2, .ref a3, .int 0, .ref a4, .null]))] H := hP
  have hD : va_D A [(a0, .inr (14, [.ref a1, .int 0, .ref a2, .ref a3, .int 0, .ref a4, .null]))] := hD
  refine W.eq (g2 := F0 m 14 ls [.int 0]) rfl ?_
  refine lv_iconst (v := 1) hx hb d_17_8_14 (by decide +kernel) ?_
  refine lv_icmp_le (tgt := 199) hx hb d_17_8_15 (by decide) (fun _ => ?_) (fun c9 => absurd (by decide +kernel) c9)
  refine lv_aload_n hx hb d_17_8_199 rfl (lv_at hl 1 rfl) ?_
  refine lv_iload_n hx hb d_17_8_200 rfl (lv_at hl 0 rfl) ?_
  refine kV (As := [.int 0]) (rest := []) (wr := [(a0, .inr (14, [.ref a1, .int 0, .ref a2, .ref a3, .int 0, .ref a4, .null]))]) (c427_Poll_byLot l z a0) hx hb hml hown hts w_2361 w_2358 w_2359 w_2360 w_36 md_672278 ⟨Nat.le_of_ble_eq_true rfl, Nat.le_of_ble_eq_true rfl⟩ hG hZ hP hD hS hA 0 rfl rfl rfl [] [0] rfl rfl rfl rfl rfl hl.1 rfl (Nat.le_of_ble_eq_true rfl) d_17_8_201 ⟨Nat.le_of_ble_eq_true rfl, Nat.le_of_ble_eq_true rfl⟩ (fun u1 H locs hP hD hS => ?_)
  have hP : va_P z.1 classes [(a0, .inr (14, [.ref a1, .int 0, .ref a2, .ref a3, .int 0, .ref a4, .null]))] H := hP
  have hD : va_D A [(a0, .inr (14, [.ref a1, .int 0, .ref a2, .ref a3, .int 0, .ref a4, .null]))] := hD
  refine W.eq (g2 := F0 m 204 ls [.int (-1)]) rfl ?_
  refine W.widen (k := 0) (n := 0) (Nat.le_of_ble_eq_true rfl) (Nat.le_of_ble_eq_true rfl) ?_
  exact W.iret hx hb hr (fun t ht hW => qk hP hD hS [0] rfl ((fun k => k), (fun _ _ => none)) rfl rfl rfl ht) hS.2.2 d_17_8_204
set_option maxRecDepth 100000 in
set_option maxHeartbeats 4000000 in
theorem c429_Poll_winner (l : Launch) (z : Zz) (a0 a1 a2 a3 a4 : Nat) (x0 : Int32) (h0 : x0 = 1) : CT l z ⟨"BallothallModel$Poll", "winner", "(I)I"⟩ prog_17_method_11_code 2 (some .int) [.ref a0, .int x0] [(a0, .inr (14, [.ref a1, .int 0, .ref a2, .ref a3, .int 0, .ref a4, .null]))] 2 65 0 0 (fun u => some (.int (-1))) (fun u => [(a0, .inr (14, [.ref a1, .int 0, .ref a2, .ref a3, .int 0, .ref a4, .null]))]) := by
  refine CT.of (own := "BallothallModel$Poll") (by decide +kernel) (Nat.le_of_ble_eq_true rfl) rfl (fun p e s m below meth c A ls hx hb hml hr hts hown hlocks hin hA hG hZ hP hD hS hl => ?_)
  have hl : lv_has ls 2 [(0, .ref a0), (1, .int x0)] := hl
  refine lv_iload_n hx hb d_17_11_0 rfl (lv_at hl 1 rfl) ?_
  refine lv_iconst (v := 1) hx hb d_17_11_1 (by decide +kernel) ?_
  refine lv_icmp_ne (tgt := 12) hx hb d_17_11_2 (by decide) (fun c9 => absurd h0 c9) (fun _ => ?_)
  refine lv_aload_n hx hb d_17_11_5 rfl (lv_at hl 0 rfl) ?_
  refine kV (As := []) (rest := []) (wr := []) (c428_Poll_runoff l z a0 a1 a2 a3 a4) hx hb hml hown hts w_2346 w_2343 w_2345 w_s_6438d0 w_36 md_a57c43 ⟨Nat.le_of_ble_eq_true rfl, Nat.le_of_ble_eq_true rfl⟩ hG hZ hP hD hS hA 0 rfl rfl rfl [0] [] rfl rfl rfl rfl rfl hl.1 rfl (Nat.le_of_ble_eq_true rfl) d_17_11_6 ⟨Nat.le_of_ble_eq_true rfl, Nat.le_of_ble_eq_true rfl⟩ (fun u0 H locs hP hD hS => ?_)
  have hP : va_P z.1 classes [(a0, .inr (14, [.ref a1, .int 0, .ref a2, .ref a3, .int 0, .ref a4, .null]))] H := hP
  have hD : va_D A [(a0, .inr (14, [.ref a1, .int 0, .ref a2, .ref a3, .int 0, .ref a4, .null]))] := hD
  refine W.eq (g2 := F0 m 9 ls [.int (-1)]) rfl ?_
  refine lv_goto (tgt := 33) hx hb d_17_11_9 (by decide) ?_
  refine W.widen (k := 0) (n := 0) (Nat.le_of_ble_eq_true rfl) (Nat.le_of_ble_eq_true rfl) ?_
  exact W.iret hx hb hr (fun t ht hW => qk hP hD hS [0] rfl ((fun k => k), (fun _ _ => none)) rfl rfl rfl ht) hS.2.2 d_17_11_33
set_option maxRecDepth 100000 in
set_option maxHeartbeats 4000000 in
theorem c430_BModel_winner (l : Launch) (z : Zz) (a0 a1 a2 a3 a4 a5 a6 a7 a8 a9 a10 a11 a12 a13 : Nat) (x0 : Int32) (h0 : ¬ x0 < 0) (h1 : ¬ 4 < x0) (h2 : x0 = 1) : CT l z ⟨"BallothallModel", "winner", "(I)I"⟩ prog_14_method_67_code 2 (some .int) [.ref a0, .int x0] [(a0, .inr (18, [.ref a1, .ref a2, .int 0, .ref a3, .int 0, .ref a4, .int 0, .null, .int 0, .null, .long 0, .int 0, .null])), (a1, .inr (17, [.int 0, .ref a5, .ref a6, .int 0, .ref a7, .ref a8, .ref a9, .null, .null, .int 0, .ref a10, .ref a11, .ref a12, .int 0, .ref a13, .int 1]))] 3 94 3 23 (fun u => some (.int (-1))) (fun u => [(a0, .inr (18, [.ref a1, .ref a2, .int 0, .ref a3, .int 0, .ref a4, .int 0, .null, .int 0, .null, .long 0, .int 0, .null])), (a1, .inr (17, [.int 0, .ref a5, .ref a6, .int 0, .ref a7, .ref a8, .ref a9, .null, .null, .int 0, .ref a10, .ref a11, .ref a12, .int 0, .ref a13, .int 1]))]) := by
  refine CT.of (own := "BallothallModel") (by decide +kernel) (Nat.le_of_ble_eq_true rfl) rfl (fun p e s m below meth c A ls hx hb hml hr hts hown hlocks hin hA hG hZ hP hD hS hl => ?_)
  have hl : lv_has ls 2 [(0, .ref a0), (1, .int x0)] := hl
  refine lv_aload_n hx hb d_14_67_0 rfl (lv_at hl 0 rfl) ?_
  refine lv_iload_n hx hb d_14_67_1 rfl (lv_at hl 1 rfl) ?_
  refine lv_iconst (v := 0) hx hb d_14_67_2 (by decide +kernel) ?_
  refine lv_iconst (v := 4) hx hb d_14_67_3 (by decide +kernel) ?_
  refine kS (As := [.int x0, .int 0, .int 4]) (rest := [.ref a0]) (wr := [(a0, .inr (18, [.ref a1, .ref a2, .int 0, .ref a3, .int 0, .ref a4, .int 0, .null, .int 0, .null, .long 0, .int 0, .null])), (a1, .inr (17, [.int 0, .ref a5, .ref a6, .int 0, .ref a7, .ref a8, .ref a9, .null, .null, .int 0, .ref a10, .ref a11, .ref a12, .int 0, .ref a13, .int 1]))]) (c425_BModel_isIn l z x0 h0 h1) hx hb hml hown hts w_1718 w_1716 w_1717 w_12 md_bca45c ⟨Nat.le_of_ble_eq_true rfl, Nat.le_of_ble_eq_true rfl⟩ hG hZ hP hD hS hA [] [0, 1] rfl rfl rfl rfl rfl hl.1 rfl (Nat.le_of_ble_eq_true rfl) d_14_67_4 ⟨Nat.le_of_ble_eq_true rfl, Nat.le_of_ble_eq_true rfl⟩ (fun u0 H locs hP hD hS => ?_)
  have hP : va_P z.1 classes [(a0, .inr (18, [.ref a1, .ref a2, .int 0, .ref a3, .int 0, .ref a4, .int 0, .null, .int 0, .null, .long 0, .int 0, .null])), (a1, .inr (17, [.int 0, .ref a5, .ref a6, .int 0, .ref a7, .ref a8, .ref a9, .null, .null, .int 0, .ref a10, .ref a11, .ref a12, .int 0, .ref a13, .int 1]))] H := hP
  have hD : va_D A [(a0, .inr (18, [.ref a1, .ref a2, .int 0, .ref a3, .int 0, .ref a4, .int 0, .null, .int 0, .null, .long 0, .int 0, .null])), (a1, .inr (17, [.int 0, .ref a5, .ref a6, .int 0, .ref a7, .ref a8, .ref a9, .null, .null, .int 0, .ref a10, .ref a11, .ref a12, .int 0, .ref a13, .int 1]))] := hD
  refine W.eq (g2 := F0 m 7 ls [.int 1, .ref a0]) rfl ?_
  refine lv_iconst (v := 1) hx hb d_14_67_7 (by decide +kernel) ?_
  refine kV (As := [.int 1, .int 1]) (rest := []) (wr := [(a1, .inr (17, [.int 0, .ref a5, .ref a6, .int 0, .ref a7, .ref a8, .ref a9, .null, .null, .int 0, .ref a10, .ref a11, .ref a12, .int 0, .ref a13, .int 1]))]) (c16_BModel_ends l z a0 a1 a2 a3 a4) hx hb hml hown hts w_1696 w_1693 w_1695 w_s_f8f2b7 w_12 md_77b0f8 ⟨Nat.le_of_ble_eq_true rfl, Nat.le_of_ble_eq_true rfl⟩ hG hZ hP hD hS hA 0 rfl rfl rfl [0] [1] rfl rfl rfl rfl rfl hl.1 rfl (Nat.le_of_ble_eq_true rfl) d_14_67_8 ⟨Nat.le_of_ble_eq_true rfl, Nat.le_of_ble_eq_true rfl⟩ (fun u1 H locs hP hD hS => ?_)
  have hP : va_P z.1 classes [(a1, .inr (17, [.int 0, .ref a5, .ref a6, .int 0, .ref a7, .ref a8, .ref a9, .null, .null, .int 0, .ref a10, .ref a11, .ref a12, .int 0, .ref a13, .int 1])), (a0, .inr (18, [.ref a1, .ref a2, .int 0, .ref a3, .int 0, .ref a4, .int 0, .null, .int 0, .null, .long 0, .int 0, .null]))] H := hP
  have hD : va_D A [(a1, .inr (17, [.int 0, .ref a5, .ref a6, .int 0, .ref a7, .ref a8, .ref a9, .null, .null, .int 0, .ref a10, .ref a11, .ref a12, .int 0, .ref a13, .int 1])), (a0, .inr (18, [.ref a1, .ref a2, .int 0, .ref a3, .int 0, .ref a4, .int 0, .null, .int 0, .null, .long 0, .int 0, .null]))] := hD
  refine W.eq (g2 := F0 m 11 ls [.int 0]) rfl ?_
  refine lv_if_eq (tgt := 18) hx hb d_14_67_11 (by decide) (fun _ => ?_) (fun c9 => absurd (by decide +kernel) c9)
  refine lv_aload_n hx hb d_14_67_18 rfl (lv_at hl 0 rfl) ?_
  refine kV (As := []) (rest := []) (wr := []) (c301_BModel_poll l z a0 a1 a2 a3 a4 a5 a6 a7 a8 a9 a10 a11 a12 a13) hx hb hml hown hts w_2246 w_2243 w_2245 w_s_14a2f1 w_12 md_55febb ⟨Nat.le_of_ble_eq_true rfl, Nat.le_of_ble_eq_true rfl⟩ hG hZ hP hD hS hA 1 rfl rfl rfl [1, 0] [] rfl rfl rfl rfl rfl hl.1 rfl (Nat.le_of_ble_eq_true rfl) d_14_67_19 ⟨Nat.le_of_ble_eq_true rfl, Nat.le_of_ble_eq_true rfl⟩ (fun u2 H locs hP hD hS => ?_)
  have hP : va_P z.1 classes [(a0, .inr (18, [.ref a1, .ref a2, .int 0, .ref a3, .int 0, .ref a4, .int 0, .null, .int 0, .null, .long 0, .int 0, .null])), (a1, .inr (17, [.int 0, .ref a5, .ref a6, .int 0, .ref a7, .ref a8, .ref a9, .null, .null, .int 0, .ref a10, .ref a11, .ref a12, .int 0, .ref a13, .int 1])), ((u2.1 0), .inr (14, [.ref a6, .int 0, .ref a5, .ref (u2.1 1), .int 0, .ref (u2.1 2), .null]))] H := hP
  have hD : va_D A [(a0, .inr (18, [.ref a1, .ref a2, .int 0, .ref a3, .int 0, .ref a4, .int 0, .null, .int 0, .null, .long 0, .int 0, .null])), (a1, .inr (17, [.int 0, .ref a5, .ref a6, .int 0, .ref a7, .ref a8, .ref a9, .null, .null, .int 0, .ref a10, .ref a11, .ref a12, .int 0, .ref a13, .int 1])), ((u2.1 0), .inr (14, [.ref a6, .int 0, .ref a5, .ref (u2.1 1), .int 0, .ref (u2.1 2), .null]))] := hD
  refine W.eq (g2 := F0 m 22 ls [.ref (u2.1 0)]) rfl ?_
  refine lv_iload_n hx hb d_14_67_22 rfl (lv_at hl 1 rfl) ?_
  refine kV (As := [.int x0]) (rest := []) (wr := [(a0, .inr (18, [.ref a1, .ref a2, .int 0, .ref a3, .int 0, .ref a4, .int 0, .null, .int 0, .null, .long 0, .int 0, .null])), (a1, .inr (17, [.int 0, .ref a5, .ref a6, .int 0, .ref a7, .ref a8, .ref a9, .null, .null, .int 0, .ref a10, .ref a11, .ref a12, .int 0, .ref a13, .int 1]))]) (c429_Poll_winner l z (u2.1 0) a6 a5 (u2.1 1) (u2.1 2) x0 h2) hx hb hml hown hts w_2342 w_2339 w_2340 w_2341 w_36 md_ba59c7 ⟨Nat.le_of_ble_eq_true rfl, Nat.le_of_ble_eq_true rfl⟩ hG hZ hP hD hS hA 2 rfl rfl rfl [2] [0, 1] rfl rfl rfl rfl rfl hl.1 rfl (Nat.le_of_ble_eq_true rfl) d_14_67_23 ⟨Nat.le_of_ble_eq_true rfl, Nat.le_of_ble_eq_true rfl⟩ (fun u3 H locs hP hD hS => ?_)
  have hP : va_P z.1 classes [(a0, .inr (18, [.ref a1, .ref a2, .int 0, .ref a3, .int 0, .ref a4, .int 0, .null, .int 0, .null, .long 0, .int 0, .null])), (a1, .inr (17, [.int 0, .ref a5, .ref a6, .int 0, .ref a7, .ref a8, .ref a9, .null, .null, .int 0, .ref a10, .ref a11, .ref a12, .int 0, .ref a13, .int 1])), ((u2.1 0), .inr (14, [.ref a6, .int 0, .ref a5, .ref (u2.1 1), .int 0, .ref (u2.1 2), .null]))] H := hP
  have hD : va_D A [(a0, .inr (18, [.ref a1, .ref a2, .int 0, .ref a3, .int 0, .ref a4, .int 0, .null, .int 0, .null, .long 0, .int 0, .null])), (a1, .inr (17, [.int 0, .ref a5, .ref a6, .int 0, .ref a7, .ref a8, .ref a9, .null, .null, .int 0, .ref a10, .ref a11, .ref a12, .int 0, .ref a13, .int 1])), ((u2.1 0), .inr (14, [.ref a6, .int 0, .ref a5, .ref (u2.1 1), .int 0, .ref (u2.1 2), .null]))] := hD
  refine W.eq (g2 := F0 m 26 ls [.int (-1)]) rfl ?_
  refine W.widen (k := 3) (n := 23) (Nat.le_of_ble_eq_true rfl) (Nat.le_of_ble_eq_true rfl) ?_
  exact W.iret hx hb hr (fun t ht hW => qk hP hD hS [0, 1] rfl ((fun k => k), (fun _ _ => none)) rfl rfl rfl ht) hS.2.2 d_14_67_26
set_option maxRecDepth 100000 in
set_option maxHeartbeats 4000000 in
theorem c431_Poll_winner (l : Launch) (z : Zz) (a0 a1 a2 a3 a4 : Nat) (x0 : Int32) (h0 : ¬ x0 = 1) (h1 : x0 = 2) : CT l z ⟨"BallothallModel$Poll", "winner", "(I)I"⟩ prog_17_method_11_code 2 (some .int) [.ref a0, .int x0] [(a0, .inr (14, [.ref a1, .int 0, .ref a2, .ref a3, .int 0, .ref a4, .null]))] 3 93 9 72 (fun u => some (.int (-1))) (fun u => [(a0, .inr (14, [.ref a1, .int 0, .ref a2, .ref a3, .int 0, .ref a4, .ref (u.1 0)]))]) := by
  refine CT.of (own := "BallothallModel$Poll") (by decide +kernel) (Nat.le_of_ble_eq_true rfl) rfl (fun p e s m below meth c A ls hx hb hml hr hts hown hlocks hin hA hG hZ hP hD hS hl => ?_)
  have hl : lv_has ls 2 [(0, .ref a0), (1, .int x0)] := hl
  refine lv_iload_n hx hb d_17_11_0 rfl (lv_at hl 1 rfl) ?_
  refine lv_iconst (v := 1) hx hb d_17_11_1 (by decide +kernel) ?_
  refine lv_icmp_ne (tgt := 12) hx hb d_17_11_2 (by decide) (fun _ => ?_) (fun c9 => absurd c9 h0)
  refine lv_iload_n hx hb d_17_11_12 rfl (lv_at hl 1 rfl) ?_
  refine lv_iconst (v := 2) hx hb d_17_11_13 (by decide +kernel) ?_
  refine lv_icmp_ne (tgt := 28) hx hb d_17_11_14 (by decide) (fun c9 => absurd h1 c9) (fun _ => ?_)
  refine lv_aload_n hx hb d_17_11_17 rfl (lv_at hl 0 rfl) ?_
  refine lv_aload_n hx hb d_17_11_18 rfl (lv_at hl 0 rfl) ?_
  refine kV (As := []) (rest := [.ref a0]) (wr := []) (c391_Poll_pathWinners l z a0 a1 a2 a3 a4) hx hb hml hown hts w_2313 w_2362 w_2311 w_2312 w_36 md_fd8608 ⟨Nat.le_of_ble_eq_true rfl, Nat.le_of_ble_eq_true rfl⟩ hG hZ hP hD hS hA 0 rfl rfl rfl [0] [] rfl rfl rfl rfl rfl hl.1 rfl (Nat.le_of_ble_eq_true rfl) d_17_11_19 ⟨Nat.le_of_ble_eq_true rfl, Nat.le_of_ble_eq_true rfl⟩ (fun u0 H locs hP hD hS => ?_)
  have hP : va_P z.1 classes [(a0, .inr (14, [.ref a1, .int 0, .ref a2, .ref a3, .int 0, .ref a4, .ref (u0.1 0)]))] H := hP
  have hD : va_D A [(a0, .inr (14, [.ref a1, .int 0, .ref a2, .ref a3, .int 0, .ref a4, .ref (u0.1 0)]))] := hD
  refine W.eq (g2 := F0 m 22 ls [.int 0, .ref a0]) rfl ?_
  refine kV (As := [.int 0]) (rest := []) (wr := [(a0, .inr (14, [.ref a1, .int 0, .ref a2, .ref a3, .int 0, .ref a4, .ref (u0.1 0)]))]) (c427_Poll_byLot l z a0) hx hb hml hown hts w_2361 w_2358 w_2359 w_2360 w_36 md_672278 ⟨Nat.le_of_ble_eq_true rfl, Nat.le_of_ble_eq_true rfl⟩ hG hZ hP hD hS hA 0 rfl rfl rfl [] [0] rfl rfl rfl rfl rfl hl.1 rfl (Nat.le_of_ble_eq_true rfl) d_17_11_22 ⟨Nat.le_of_ble_eq_true rfl, Nat.le_of_ble_eq_true rfl⟩ (fun u1 H locs hP hD hS => ?_)
  have hP : va_P z.1 classes [(a0, .inr (14, [.ref a1, .int 0, .ref a2, .ref a3, .int 0, .ref a4, .ref (u0.1 0)]))] H := hP
  have hD : va_D A [(a0, .inr (14, [.ref a1, .int 0, .ref a2, .ref a3, .int 0, .ref a4, .ref (u0.1 0)]))] := hD
  refine W.eq (g2 := F0 m 25 ls [.int (-1)]) rfl ?_
  refine lv_goto (tgt := 33) hx hb d_17_11_25 (by decide) ?_
  refine W.widen (k := 9) (n := 72) (Nat.le_of_ble_eq_true rfl) (Nat.le_of_ble_eq_true rfl) ?_
  exact W.iret hx hb hr (fun t ht hW => qk hP hD hS [0] rfl ((fun k => ([(u0.1 0)] : List Nat).getD k 0), (fun _ _ => none)) rfl rfl rfl ht) hS.2.2 d_17_11_33
set_option maxRecDepth 100000 in
set_option maxHeartbeats 4000000 in
theorem c432_BModel_winner (l : Launch) (z : Zz) (a0 a1 a2 a3 a4 a5 a6 a7 a8 a9 a10 a11 a12 a13 : Nat) (x0 : Int32) (h0 : ¬ x0 < 0) (h1 : ¬ 4 < x0) (h2 : ¬ x0 = 1) (h3 : x0 = 2) : CT l z ⟨"BallothallModel", "winner", "(I)I"⟩ prog_14_method_67_code 2 (some .int) [.ref a0, .int x0] [(a0, .inr (18, [.ref a1, .ref a2, .int 0, .ref a3, .int 0, .ref a4, .int 0, .null, .int 0, .null, .long 0, .int 0, .null])), (a1, .inr (17, [.int 0, .ref a5, .ref a6, .int 0, .ref a7, .ref a8, .ref a9, .null, .null, .int 0, .ref a10, .ref a11, .ref a12, .int 0, .ref a13, .int 1]))] 4 122 12 95 (fun u => some (.int (-1))) (fun u => [(a0, .inr (18, [.ref a1, .ref a2, .int 0, .ref a3, .int 0, .ref a4, .int 0, .null, .int 0, .null, .long 0, .int 0, .null])), (a1, .inr (17, [.int 0, .ref a5, .ref a6, .int 0, .ref a7, .ref a8, .ref a9, .null, .null, .int 0, .ref a10, .ref a11, .ref a12, .int 0, .ref a13, .int 1]))]) := by
  refine CT.of (own := "BallothallModel") (by decide +kernel) (Nat.le_of_ble_eq_true rfl) rfl (fun p e s m below meth c A ls hx hb hml hr hts hown hlocks hin hA hG hZ hP hD hS hl => ?_)
  have hl : lv_has ls 2 [(0, .ref a0), (1, .int x0)] := hl
  refine lv_aload_n hx hb d_14_67_0 rfl (lv_at hl 0 rfl) ?_
  refine lv_iload_n hx hb d_14_67_1 rfl (lv_at hl 1 rfl) ?_
  refine lv_iconst (v := 0) hx hb d_14_67_2 (by decide +kernel) ?_
  refine lv_iconst (v := 4) hx hb d_14_67_3 (by decide +kernel) ?_
  refine kS (As := [.int x0, .int 0, .int 4]) (rest := [.ref a0]) (wr := [(a0, .inr (18, [.ref a1, .ref a2, .int 0, .ref a3, .int 0, .ref a4, .int 0, .null, .int 0, .null, .long 0, .int 0, .null])), (a1, .inr (17, [.int 0, .ref a5, .ref a6, .int 0, .ref a7, .ref a8, .ref a9, .null, .null, .int 0, .ref a10, .ref a11, .ref a12, .int 0, .ref a13, .int 1]))]) (c425_BModel_isIn l z x0 h0 h1) hx hb hml hown hts w_1718 w_1716 w_1717 w_12 md_bca45c ⟨Nat.le_of_ble_eq_true rfl, Nat.le_of_ble_eq_true rfl⟩ hG hZ hP hD hS hA [] [0, 1] rfl rfl rfl rfl rfl hl.1 rfl (Nat.le_of_ble_eq_true rfl) d_14_67_4 ⟨Nat.le_of_ble_eq_true rfl, Nat.le_of_ble_eq_true rfl⟩ (fun u0 H locs hP hD hS => ?_)
  have hP : va_P z.1 classes [(a0, .inr (18, [.ref a1, .ref a2, .int 0, .ref a3, .int 0, .ref a4, .int 0, .null, .int 0, .null, .long 0, .int 0, .null])), (a1, .inr (17, [.int 0, .ref a5, .ref a6, .int 0, .ref a7, .ref a8, .ref a9, .null, .null, .int 0, .ref a10, .ref a11, .ref a12, .int 0, .ref a13, .int 1]))] H := hP
  have hD : va_D A [(a0, .inr (18, [.ref a1, .ref a2, .int 0, .ref a3, .int 0, .ref a4, .int 0, .null, .int 0, .null, .long 0, .int 0, .null])), (a1, .inr (17, [.int 0, .ref a5, .ref a6, .int 0, .ref a7, .ref a8, .ref a9, .null, .null, .int 0, .ref a10, .ref a11, .ref a12, .int 0, .ref a13, .int 1]))] := hD
  refine W.eq (g2 := F0 m 7 ls [.int 1, .ref a0]) rfl ?_
  refine lv_iconst (v := 1) hx hb d_14_67_7 (by decide +kernel) ?_
  refine kV (As := [.int 1, .int 1]) (rest := []) (wr := [(a1, .inr (17, [.int 0, .ref a5, .ref a6, .int 0, .ref a7, .ref a8, .ref a9, .null, .null, .int 0, .ref a10, .ref a11, .ref a12, .int 0, .ref a13, .int 1]))]) (c16_BModel_ends l z a0 a1 a2 a3 a4) hx hb hml hown hts w_1696 w_1693 w_1695 w_s_f8f2b7 w_12 md_77b0f8 ⟨Nat.le_of_ble_eq_true rfl, Nat.le_of_ble_eq_true rfl⟩ hG hZ hP hD hS hA 0 rfl rfl rfl [0] [1] rfl rfl rfl rfl rfl hl.1 rfl (Nat.le_of_ble_eq_true rfl) d_14_67_8 ⟨Nat.le_of_ble_eq_true rfl, Nat.le_of_ble_eq_true rfl⟩ (fun u1 H locs hP hD hS => ?_)
  have hP : va_P z.1 classes [(a1, .inr (17, [.int 0, .ref a5, .ref a6, .int 0, .ref a7, .ref a8, .ref a9, .null, .null, .int 0, .ref a10, .ref a11, .ref a12, .int 0, .ref a13, .int 1])), (a0, .inr (18, [.ref a1, .ref a2, .int 0, .ref a3, .int 0, .ref a4, .int 0, .null, .int 0, .null, .long 0, .int 0, .null]))] H := hP
  have hD : va_D A [(a1, .inr (17, [.int 0, .ref a5, .ref a6, .int 0, .ref a7, .ref a8, .ref a9, .null, .null, .int 0, .ref a10, .ref a11, .ref a12, .int 0, .ref a13, .int 1])), (a0, .inr (18, [.ref a1, .ref a2, .int 0, .ref a3, .int 0, .ref a4, .int 0, .null, .int 0, .null, .long 0, .int 0, .null]))] := hD
  refine W.eq (g2 := F0 m 11 ls [.int 0]) rfl ?_
  refine lv_if_eq (tgt := 18) hx hb d_14_67_11 (by decide) (fun _ => ?_) (fun c9 => absurd (by decide +kernel) c9)
  refine lv_aload_n hx hb d_14_67_18 rfl (lv_at hl 0 rfl) ?_
  refine kV (As := []) (rest := []) (wr := []) (c301_BModel_poll l z a0 a1 a2 a3 a4 a5 a6 a7 a8 a9 a10 a11 a12 a13) hx hb hml hown hts w_2246 w_2243 w_2245 w_s_14a2f1 w_12 md_55febb ⟨Nat.le_of_ble_eq_true rfl, Nat.le_of_ble_eq_true rfl⟩ hG hZ hP hD hS hA 1 rfl rfl rfl [1, 0] [] rfl rfl rfl rfl rfl hl.1 rfl (Nat.le_of_ble_eq_true rfl) d_14_67_19 ⟨Nat.le_of_ble_eq_true rfl, Nat.le_of_ble_eq_true rfl⟩ (fun u2 H locs hP hD hS => ?_)
  have hP : va_P z.1 classes [(a0, .inr (18, [.ref a1, .ref a2, .int 0, .ref a3, .int 0, .ref a4, .int 0, .null, .int 0, .null, .long 0, .int 0, .null])), (a1, .inr (17, [.int 0, .ref a5, .ref a6, .int 0, .ref a7, .ref a8, .ref a9, .null, .null, .int 0, .ref a10, .ref a11, .ref a12, .int 0, .ref a13, .int 1])), ((u2.1 0), .inr (14, [.ref a6, .int 0, .ref a5, .ref (u2.1 1), .int 0, .ref (u2.1 2), .null]))] H := hP
  have hD : va_D A [(a0, .inr (18, [.ref a1, .ref a2, .int 0, .ref a3, .int 0, .ref a4, .int 0, .null, .int 0, .null, .long 0, .int 0, .null])), (a1, .inr (17, [.int 0, .ref a5, .ref a6, .int 0, .ref a7, .ref a8, .ref a9, .null, .null, .int 0, .ref a10, .ref a11, .ref a12, .int 0, .ref a13, .int 1])), ((u2.1 0), .inr (14, [.ref a6, .int 0, .ref a5, .ref (u2.1 1), .int 0, .ref (u2.1 2), .null]))] := hD
  refine W.eq (g2 := F0 m 22 ls [.ref (u2.1 0)]) rfl ?_
  refine lv_iload_n hx hb d_14_67_22 rfl (lv_at hl 1 rfl) ?_
  refine kV (As := [.int x0]) (rest := []) (wr := [(a0, .inr (18, [.ref a1, .ref a2, .int 0, .ref a3, .int 0, .ref a4, .int 0, .null, .int 0, .null, .long 0, .int 0, .null])), (a1, .inr (17, [.int 0, .ref a5, .ref a6, .int 0, .ref a7, .ref a8, .ref a9, .null, .null, .int 0, .ref a10, .ref a11, .ref a12, .int 0, .ref a13, .int 1]))]) (c431_Poll_winner l z (u2.1 0) a6 a5 (u2.1 1) (u2.1 2) x0 h2 h3) hx hb hml hown hts w_2342 w_2339 w_2340 w_2341 w_36 md_ba59c7 ⟨Nat.le_of_ble_eq_true rfl, Nat.le_of_ble_eq_true rfl⟩ hG hZ hP hD hS hA 2 rfl rfl rfl [2] [0, 1] rfl rfl rfl rfl rfl hl.1 rfl (Nat.le_of_ble_eq_true rfl) d_14_67_23 ⟨Nat.le_of_ble_eq_true rfl, Nat.le_of_ble_eq_true rfl⟩ (fun u3 H locs hP hD hS => ?_)
  have hP : va_P z.1 classes [(a0, .inr (18, [.ref a1, .ref a2, .int 0, .ref a3, .int 0, .ref a4, .int 0, .null, .int 0, .null, .long 0, .int 0, .null])), (a1, .inr (17, [.int 0, .ref a5, .ref a6, .int 0, .ref a7, .ref a8, .ref a9, .null, .null, .int 0, .ref a10, .ref a11, .ref a12, .int 0, .ref a13, .int 1])), ((u2.1 0), .inr (14, [.ref a6, .int 0, .ref a5, .ref (u2.1 1), .int 0, .ref (u2.1 2), .ref (u3.1 0)]))] H := hP
  have hD : va_D A [(a0, .inr (18, [.ref a1, .ref a2, .int 0, .ref a3, .int 0, .ref a4, .int 0, .null, .int 0, .null, .long 0, .int 0, .null])), (a1, .inr (17, [.int 0, .ref a5, .ref a6, .int 0, .ref a7, .ref a8, .ref a9, .null, .null, .int 0, .ref a10, .ref a11, .ref a12, .int 0, .ref a13, .int 1])), ((u2.1 0), .inr (14, [.ref a6, .int 0, .ref a5, .ref (u2.1 1), .int 0, .ref (u2.1 2), .ref (u3.1 0)]))] := hD
  refine W.eq (g2 := F0 m 26 ls [.int (-1)]) rfl ?_
  refine W.widen (k := 12) (n := 95) (Nat.le_of_ble_eq_true rfl) (Nat.le_of_ble_eq_true rfl) ?_
  exact W.iret hx hb hr (fun t ht hW => qk hP hD hS [0, 1] rfl ((fun k => k), (fun _ _ => none)) rfl rfl rfl ht) hS.2.2 d_14_67_26
set_option maxRecDepth 100000 in
set_option maxHeartbeats 4000000 in
theorem c433_Poll_isIn (l : Launch) (z : Zz) (a0 a1 a2 a3 a4 : Nat) : CT l z ⟨"BallothallModel$Poll", "isIn", "(I)Z"⟩ prog_17_method_2_code 2 (some .boolean) [.ref a0, .int 0] [(a0, .inr (14, [.ref a1, .int 0, .ref a2, .ref a3, .int 0, .ref a4, .null]))] 0 0 0 0 (fun u => some (.int 0)) (fun u => [(a0, .inr (14, [.ref a1, .int 0, .ref a2, .ref a3, .int 0, .ref a4, .null]))]) := by
  refine CT.of (own := "BallothallModel$Poll") (by decide +kernel) (Nat.le_of_ble_eq_true rfl) rfl (fun p e s m below meth c A ls hx hb hml hr hts hown hlocks hin hA hG hZ hP hD hS hl => ?_)
  have hl : lv_has ls 2 [(0, .ref a0), (1, .int 0)] := hl
  refine lv_aload_n hx hb d_17_2_0 rfl (lv_at hl 0 rfl) ?_
  refine va_get (D := z.1) (ci := 14) (v := .int 0) (C := "BallothallModel$Poll") (T := TX14) (N := 7) hx hb hts iX14 hown hG.1 hP 0 rfl rfl 1 (by decide) (hts _ w_2255) (fun _ h9 => h9) rfl d_17_2_1 ?_
  refine lv_iload_n hx hb d_17_2_4 rfl (lv_at hl 1 rfl) ?_
  refine lv_ishr hx hb d_17_2_5 ?_
  refine nrm (x1 := 0) (by decide +kernel) ?_
  refine lv_iconst (v := 1) hx hb d_17_2_6 (by decide +kernel) ?_
  refine lv_iand hx hb d_17_2_7 ?_
  refine nrm (x1 := 0) (by decide +kernel) ?_
  refine lv_iconst (v := 1) hx hb d_17_2_8 (by decide +kernel) ?_
  refine lv_icmp_ne (tgt := 16) hx hb d_17_2_9 (by decide) (fun _ => ?_) (fun c9 => absurd c9 (by decide +kernel))
  refine lv_iconst (v := 0) hx hb d_17_2_16 (by decide +kernel) ?_
  refine W.widen (k := 0) (n := 0) (Nat.le_of_ble_eq_true rfl) (Nat.le_of_ble_eq_true rfl) ?_
  exact W.zret hx hb hr rfl (fun t ht hW => qk hP hD hS [0] rfl ((fun k => k), (fun _ _ => none)) rfl rfl rfl ht) hS.2.2 d_17_2_17
set_option maxRecDepth 100000 in
set_option maxHeartbeats 4000000 in
theorem c434_Poll_isIn (l : Launch) (z : Zz) (a0 a1 a2 a3 a4 : Nat) : CT l z ⟨"BallothallModel$Poll", "isIn", "(I)Z"⟩ prog_17_method_2_code 2 (some .boolean) [.ref a0, .int 1] [(a0, .inr (14, [.ref a1, .int 0, .ref a2, .ref a3, .int 0, .ref a4, .null]))] 0 0 0 0 (fun u => some (.int 0)) (fun u => [(a0, .inr (14, [.ref a1, .int 0, .ref a2, .ref a3, .int 0, .ref a4, .null]))]) := by
  refine CT.of (own := "BallothallModel$Poll") (by decide +kernel) (Nat.le_of_ble_eq_true rfl) rfl (fun p e s m below meth c A ls hx hb hml hr hts hown hlocks hin hA hG hZ hP hD hS hl => ?_)
  have hl : lv_has ls 2 [(0, .ref a0), (1, .int 1)] := hl
  refine lv_aload_n hx hb d_17_2_0 rfl (lv_at hl 0 rfl) ?_
  refine va_get (D := z.1) (ci := 14) (v := .int 0) (C := "BallothallModel$Poll") (T := TX14) (N := 7) hx hb hts iX14 hown hG.1 hP 0 rfl rfl 1 (by decide) (hts _ w_2255) (fun _ h9 => h9) rfl d_17_2_1 ?_
  refine lv_iload_n hx hb d_17_2_4 rfl (lv_at hl 1 rfl) ?_
  refine lv_ishr hx hb d_17_2_5 ?_
  refine nrm (x1 := 0) (by decide +kernel) ?_
  refine lv_iconst (v := 1) hx hb d_17_2_6 (by decide +kernel) ?_
  refine lv_iand hx hb d_17_2_7 ?_
  refine nrm (x1 := 0) (by decide +kernel) ?_
  refine lv_iconst (v := 1) hx hb d_17_2_8 (by decide +kernel) ?_
  refine lv_icmp_ne (tgt := 16) hx hb d_17_2_9 (by decide) (fun _ => ?_) (fun c9 => absurd c9 (by decide +kernel))
  refine lv_iconst (v := 0) hx hb d_17_2_16 (by decide +kernel) ?_
  refine W.widen (k := 0) (n := 0) (Nat.le_of_ble_eq_true rfl) (Nat.le_of_ble_eq_true rfl) ?_
  exact W.zret hx hb hr rfl (fun t ht hW => qk hP hD hS [0] rfl ((fun k => k), (fun _ _ => none)) rfl rfl rfl ht) hS.2.2 d_17_2_17
set_option maxRecDepth 100000 in
set_option maxHeartbeats 4000000 in
theorem c435_Poll_isIn (l : Launch) (z : Zz) (a0 a1 a2 a3 a4 : Nat) : CT l z ⟨"BallothallModel$Poll", "isIn", "(I)Z"⟩ prog_17_method_2_code 2 (some .boolean) [.ref a0, .int 2] [(a0, .inr (14, [.ref a1, .int 0, .ref a2, .ref a3, .int 0, .ref a4, .null]))] 0 0 0 0 (fun u => some (.int 0)) (fun u => [(a0, .inr (14, [.ref a1, .int 0, .ref a2, .ref a3, .int 0, .ref a4, .null]))]) := by
  refine CT.of (own := "BallothallModel$Poll") (by decide +kernel) (Nat.le_of_ble_eq_true rfl) rfl (fun p e s m below meth c A ls hx hb hml hr hts hown hlocks hin hA hG hZ hP hD hS hl => ?_)
  have hl : lv_has ls 2 [(0, .ref a0), (1, .int 2)] := hl
  refine lv_aload_n hx hb d_17_2_0 rfl (lv_at hl 0 rfl) ?_
  refine va_get (D := z.1) (ci := 14) (v := .int 0) (C := "BallothallModel$Poll") (T := TX14) (N := 7) hx hb hts iX14 hown hG.1 hP 0 rfl rfl 1 (by decide) (hts _ w_2255) (fun _ h9 => h9) rfl d_17_2_1 ?_
  refine lv_iload_n hx hb d_17_2_4 rfl (lv_at hl 1 rfl) ?_
  refine lv_ishr hx hb d_17_2_5 ?_
  refine nrm (x1 := 0) (by decide +kernel) ?_
  refine lv_iconst (v := 1) hx hb d_17_2_6 (by decide +kernel) ?_
  refine lv_iand hx hb d_17_2_7 ?_
  refine nrm (x1 := 0) (by decide +kernel) ?_
  refine lv_iconst (v := 1) hx hb d_17_2_8 (by decide +kernel) ?_
  refine lv_icmp_ne (tgt := 16) hx hb d_17_2_9 (by decide) (fun _ => ?_) (fun c9 => absurd c9 (by decide +kernel))
  refine lv_iconst (v := 0) hx hb d_17_2_16 (by decide +kernel) ?_
  refine W.widen (k := 0) (n := 0) (Nat.le_of_ble_eq_true rfl) (Nat.le_of_ble_eq_true rfl) ?_
  exact W.zret hx hb hr rfl (fun t ht hW => qk hP hD hS [0] rfl ((fun k => k), (fun _ _ => none)) rfl rfl rfl ht) hS.2.2 d_17_2_17
set_option maxRecDepth 100000 in
set_option maxHeartbeats 4000000 in
theorem c436_Poll_isIn (l : Launch) (z : Zz) (a0 a1 a2 a3 a4 : Nat) : CT l z ⟨"BallothallModel$Poll", "isIn", "(I)Z"⟩ prog_17_method_2_code 2 (some .boolean) [.ref a0, .int 3] [(a0, .inr (14, [.ref a1, .int 0, .ref a2, .ref a3, .int 0, .ref a4, .null]))] 0 0 0 0 (fun u => some (.int 0)) (fun u => [(a0, .inr (14, [.ref a1, .int 0, .ref a2, .ref a3, .int 0, .ref a4, .null]))]) := by
  refine CT.of (own := "BallothallModel$Poll") (by decide +kernel) (Nat.le_of_ble_eq_true rfl) rfl (fun p e s m below meth c A ls hx hb hml hr hts hown hlocks hin hA hG hZ hP hD hS hl => ?_)
  have hl : lv_has ls 2 [(0, .ref a0), (1, .int 3)] := hl
  refine lv_aload_n hx hb d_17_2_0 rfl (lv_at hl 0 rfl) ?_
  refine va_get (D := z.1) (ci := 14) (v := .int 0) (C := "BallothallModel$Poll") (T := TX14) (N := 7) hx hb hts iX14 hown hG.1 hP 0 rfl rfl 1 (by decide) (hts _ w_2255) (fun _ h9 => h9) rfl d_17_2_1 ?_
  refine lv_iload_n hx hb d_17_2_4 rfl (lv_at hl 1 rfl) ?_
  refine lv_ishr hx hb d_17_2_5 ?_
  refine nrm (x1 := 0) (by decide +kernel) ?_
  refine lv_iconst (v := 1) hx hb d_17_2_6 (by decide +kernel) ?_
  refine lv_iand hx hb d_17_2_7 ?_
  refine nrm (x1 := 0) (by decide +kernel) ?_
  refine lv_iconst (v := 1) hx hb d_17_2_8 (by decide +kernel) ?_
  refine lv_icmp_ne (tgt := 16) hx hb d_17_2_9 (by decide) (fun _ => ?_) (fun c9 => absurd c9 (by decide +kernel))
  refine lv_iconst (v := 0) hx hb d_17_2_16 (by decide +kernel) ?_
  refine W.widen (k := 0) (n := 0) (Nat.le_of_ble_eq_true rfl) (Nat.le_of_ble_eq_true rfl) ?_
  exact W.zret hx hb hr rfl (fun t ht hW => qk hP hD hS [0] rfl ((fun k => k), (fun _ _ => none)) rfl rfl rfl ht) hS.2.2 d_17_2_17
set_option maxRecDepth 100000 in
set_option maxHeartbeats 4000000 in
theorem c437_Poll_isIn (l : Launch) (z : Zz) (a0 a1 a2 a3 a4 : Nat) : CT l z ⟨"BallothallModel$Poll", "isIn", "(I)Z"⟩ prog_17_method_2_code 2 (some .boolean) [.ref a0, .int 4] [(a0, .inr (14, [.ref a1, .int 0, .ref a2, .ref a3, .int 0, .ref a4, .null]))] 0 0 0 0 (fun u => some (.int 0)) (fun u => [(a0, .inr (14, [.ref a1, .int 0, .ref a2, .ref a3, .int 0, .ref a4, .null]))]) := by
  refine CT.of (own := "BallothallModel$Poll") (by decide +kernel) (Nat.le_of_ble_eq_true rfl) rfl (fun p e s m below meth c A ls hx hb hml hr hts hown hlocks hin hA hG hZ hP hD hS hl => ?_)
  have hl : lv_has ls 2 [(0, .ref a0), (1, .int 4)] := hl
  refine lv_aload_n hx hb d_17_2_0 rfl (lv_at hl 0 rfl) ?_
  refine va_get (D := z.1) (ci := 14) (v := .int 0) (C := "BallothallModel$Poll") (T := TX14) (N := 7) hx hb hts iX14 hown hG.1 hP 0 rfl rfl 1 (by decide) (hts _ w_2255) (fun _ h9 => h9) rfl d_17_2_1 ?_
  refine lv_iload_n hx hb d_17_2_4 rfl (lv_at hl 1 rfl) ?_
  refine lv_ishr hx hb d_17_2_5 ?_
  refine nrm (x1 := 0) (by decide +kernel) ?_
  refine lv_iconst (v := 1) hx hb d_17_2_6 (by decide +kernel) ?_
  refine lv_iand hx hb d_17_2_7 ?_
  refine nrm (x1 := 0) (by decide +kernel) ?_
  refine lv_iconst (v := 1) hx hb d_17_2_8 (by decide +kernel) ?_
  refine lv_icmp_ne (tgt := 16) hx hb d_17_2_9 (by decide) (fun _ => ?_) (fun c9 => absurd c9 (by decide +kernel))
  refine lv_iconst (v := 0) hx hb d_17_2_16 (by decide +kernel) ?_
  refine W.widen (k := 0) (n := 0) (Nat.le_of_ble_eq_true rfl) (Nat.le_of_ble_eq_true rfl) ?_
  exact W.zret hx hb hr rfl (fun t ht hW => qk hP hD hS [0] rfl ((fun k => k), (fun _ _ => none)) rfl rfl rfl ht) hS.2.2 d_17_2_17
set_option maxRecDepth 100000 in
set_option maxHeartbeats 4000000 in
theorem c438_Poll_isIn (l : Launch) (z : Zz) (a0 a1 a2 a3 a4 : Nat) : CT l z ⟨"BallothallModel$Poll", "isIn", "(I)Z"⟩ prog_17_method_2_code 2 (some .boolean) [.ref a0, .int 5] [(a0, .inr (14, [.ref a1, .int 0, .ref a2, .ref a3, .int 0, .ref a4, .null]))] 0 0 0 0 (fun u => some (.int 0)) (fun u => [(a0, .inr (14, [.ref a1, .int 0, .ref a2, .ref a3, .int 0, .ref a4, .null]))]) := by
  refine CT.of (own := "BallothallModel$Poll") (by decide +kernel) (Nat.le_of_ble_eq_true rfl) rfl (fun p e s m below meth c A ls hx hb hml hr hts hown hlocks hin hA hG hZ hP hD hS hl => ?_)
  have hl : lv_has ls 2 [(0, .ref a0), (1, .int 5)] := hl
  refine lv_aload_n hx hb d_17_2_0 rfl (lv_at hl 0 rfl) ?_
  refine va_get (D := z.1) (ci := 14) (v := .int 0) (C := "BallothallModel$Poll") (T := TX14) (N := 7) hx hb hts iX14 hown hG.1 hP 0 rfl rfl 1 (by decide) (hts _ w_2255) (fun _ h9 => h9) rfl d_17_2_1 ?_
  refine lv_iload_n hx hb d_17_2_4 rfl (lv_at hl 1 rfl) ?_
  refine lv_ishr hx hb d_17_2_5 ?_
  refine nrm (x1 := 0) (by decide +kernel) ?_
  refine lv_iconst (v := 1) hx hb d_17_2_6 (by decide +kernel) ?_
  refine lv_iand hx hb d_17_2_7 ?_
  refine nrm (x1 := 0) (by decide +kernel) ?_
  refine lv_iconst (v := 1) hx hb d_17_2_8 (by decide +kernel) ?_
  refine lv_icmp_ne (tgt := 16) hx hb d_17_2_9 (by decide) (fun _ => ?_) (fun c9 => absurd c9 (by decide +kernel))
  refine lv_iconst (v := 0) hx hb d_17_2_16 (by decide +kernel) ?_
  refine W.widen (k := 0) (n := 0) (Nat.le_of_ble_eq_true rfl) (Nat.le_of_ble_eq_true rfl) ?_
  exact W.zret hx hb hr rfl (fun t ht hW => qk hP hD hS [0] rfl ((fun k => k), (fun _ _ => none)) rfl rfl rfl ht) hS.2.2 d_17_2_17
set_option maxRecDepth 100000 in
set_option maxHeartbeats 4000000 in
theorem c439_Poll_isIn (l : Launch) (z : Zz) (a0 a1 a2 a3 a4 : Nat) : CT l z ⟨"BallothallModel$Poll", "isIn", "(I)Z"⟩ prog_17_method_2_code 2 (some .boolean) [.ref a0, .int 6] [(a0, .inr (14, [.ref a1, .int 0, .ref a2, .ref a3, .int 0, .ref a4, .null]))] 0 0 0 0 (fun u => some (.int 0)) (fun u => [(a0, .inr (14, [.ref a1, .int 0, .ref a2, .ref a3, .int 0, .ref a4, .null]))]) := by
  refine CT.of (own := "BallothallModel$Poll") (by decide +kernel) (Nat.le_of_ble_eq_true rfl) rfl (fun p e s m below meth c A ls hx hb hml hr hts hown hlocks hin hA hG hZ hP hD hS hl => ?_)
  have hl : lv_has ls 2 [(0, .ref a0), (1, .int 6)] := hl
  refine lv_aload_n hx hb d_17_2_0 rfl (lv_at hl 0 rfl) ?_
  refine va_get (D := z.1) (ci := 14) (v := .int 0) (C := "BallothallModel$Poll") (T := TX14) (N := 7) hx hb hts iX14 hown hG.1 hP 0 rfl rfl 1 (by decide) (hts _ w_2255) (fun _ h9 => h9) rfl d_17_2_1 ?_
  refine lv_iload_n hx hb d_17_2_4 rfl (lv_at hl 1 rfl) ?_
  refine lv_ishr hx hb d_17_2_5 ?_
  refine nrm (x1 := 0) (by decide +kernel) ?_
  refine lv_iconst (v := 1) hx hb d_17_2_6 (by decide +kernel) ?_
  refine lv_iand hx hb d_17_2_7 ?_
  refine nrm (x1 := 0) (by decide +kernel) ?_
  refine lv_iconst (v := 1) hx hb d_17_2_8 (by decide +kernel) ?_
  refine lv_icmp_ne (tgt := 16) hx hb d_17_2_9 (by decide) (fun _ => ?_) (fun c9 => absurd c9 (by decide +kernel))
  refine lv_iconst (v := 0) hx hb d_17_2_16 (by decide +kernel) ?_
  refine W.widen (k := 0) (n := 0) (Nat.le_of_ble_eq_true rfl) (Nat.le_of_ble_eq_true rfl) ?_
  exact W.zret hx hb hr rfl (fun t ht hW => qk hP hD hS [0] rfl ((fun k => k), (fun _ _ => none)) rfl rfl rfl ht) hS.2.2 d_17_2_17
set_option maxRecDepth 100000 in
set_option maxHeartbeats 4000000 in
theorem c440_Poll_isIn (l : Launch) (z : Zz) (a0 a1 a2 a3 a4 : Nat) : CT l z ⟨"BallothallModel$Poll", "isIn", "(I)Z"⟩ prog_17_method_2_code 2 (some .boolean) [.ref a0, .int 7] [(a0, .inr (14, [.ref a1, .int 0, .ref a2, .ref a3, .int 0, .ref a4, .null]))] 0 0 0 0 (fun u => some (.int 0)) (fun u => [(a0, .inr (14, [.ref a1, .int 0, .ref a2, .ref a3, .int 0, .ref a4, .null]))]) := by
  refine CT.of (own := "BallothallModel$Poll") (by decide +kernel) (Nat.le_of_ble_eq_true rfl) rfl (fun p e s m below meth c A ls hx hb hml hr hts hown hlocks hin hA hG hZ hP hD hS hl => ?_)
  have hl : lv_has ls 2 [(0, .ref a0), (1, .int 7)] := hl
  refine lv_aload_n hx hb d_17_2_0 rfl (lv_at hl 0 rfl) ?_
  refine va_get (D := z.1) (ci := 14) (v := .int 0) (C := "BallothallModel$Poll") (T := TX14) (N := 7) hx hb hts iX14 hown hG.1 hP 0 rfl rfl 1 (by decide) (hts _ w_2255) (fun _ h9 => h9) rfl d_17_2_1 ?_
  refine lv_iload_n hx hb d_17_2_4 rfl (lv_at hl 1 rfl) ?_
  refine lv_ishr hx hb d_17_2_5 ?_
  refine nrm (x1 := 0) (by decide +kernel) ?_
  refine lv_iconst (v := 1) hx hb d_17_2_6 (by decide +kernel) ?_
  refine lv_iand hx hb d_17_2_7 ?_
  refine nrm (x1 := 0) (by decide +kernel) ?_
  refine lv_iconst (v := 1) hx hb d_17_2_8 (by decide +kernel) ?_
  refine lv_icmp_ne (tgt := 16) hx hb d_17_2_9 (by decide) (fun _ => ?_) (fun c9 => absurd c9 (by decide +kernel))
  refine lv_iconst (v := 0) hx hb d_17_2_16 (by decide +kernel) ?_
  refine W.widen (k := 0) (n := 0) (Nat.le_of_ble_eq_true rfl) (Nat.le_of_ble_eq_true rfl) ?_
  exact W.zret hx hb hr rfl (fun t ht hW => qk hP hD hS [0] rfl ((fun k => k), (fun _ _ => none)) rfl rfl rfl ht) hS.2.2 d_17_2_17
set_option maxRecDepth 100000 in
set_option maxHeartbeats 4000000 in
theorem c441_Poll_most (l : Launch) (z : Zz) (a0 a1 a2 a3 a4 : Nat) (x0 : Int32) : CT l z ⟨"BallothallModel$Poll", "most", "(I)I"⟩ prog_17_method_7_code 6 (some .int) [.ref a0, .int x0] [(a0, .inr (14, [.ref a1, .int 0, .ref a2, .ref a3, .int 0, .ref a4, .null]))] 1 29 0 0 (fun u => some (.int (-1))) (fun u => [(a0, .inr (14, [.ref a1, .int 0, .ref a2, .ref a3, .int 0, .ref a4, .null]))]) := by
  refine CT.of (own := "BallothallModel$Poll") (by decide +kernel) (Nat.le_of_ble_eq_true rfl) rfl (fun p e s m below meth c A ls hx hb hml hr hts hown hlocks hin hA hG hZ hP hD hS hl => ?_)
  have hl : lv_has ls 6 [(0, .ref a0), (1, .int x0)] := hl
  refine lv_iconst (v := (-1)) hx hb d_17_7_0 (by decide +kernel) ?_
  refine lv_istore_n (lv' := [(2, .int (-1)), (0, .ref a0), (1, .int x0)]) hx hb d_17_7_1 rfl hl (by decide) rfl (fun ls hl => ?_)
  refine lv_iconst (v := 0) hx hb d_17_7_2 (by decide +kernel) ?_
  refine lv_istore_n (lv' := [(3, .int 0), (2, .int (-1)), (0, .ref a0), (1, .int x0)]) hx hb d_17_7_3 rfl hl (by decide) rfl (fun ls hl => ?_)
  refine lv_iconst (v := 0) hx hb d_17_7_4 (by decide +kernel) ?_
  refine lv_istore (lv' := [(4, .int 0), (3, .int 0), (2, .int (-1)), (0, .ref a0), (1, .int x0)]) hx hb d_17_7_5 hl (by decide) rfl (fun ls hl => ?_)
  refine lv_iload hx hb d_17_7_7 (lv_at hl 0 rfl) ?_
  refine lv_bipush (v := 8) hx hb d_17_7_9 (by decide +kernel) ?_
  refine lv_icmp_ge (tgt := 74) hx hb d_17_7_11 (by decide) (fun c9 => absurd c9 (by decide +kernel)) (fun _ => ?_)
  refine lv_aload_n hx hb d_17_7_14 rfl (lv_at hl 3 rfl) ?_
  refine lv_iload hx hb d_17_7_15 (lv_at hl 0 rfl) ?_
  refine kV (As := [.int 0]) (rest := []) (wr := []) (c433_Poll_isIn l z a0 a1 a2 a3 a4) hx hb hml hown hts w_2302 w_2299 w_2300 w_2301 w_36 md_2288df ⟨Nat.le_of_ble_eq_true rfl, Nat.le_of_ble_eq_true rfl⟩ hG hZ hP hD hS hA 0 rfl rfl rfl [0] [] rfl rfl rfl rfl rfl hl.1 rfl (Nat.le_of_ble_eq_true rfl) d_17_7_17 ⟨Nat.le_of_ble_eq_true rfl, Nat.le_of_ble_eq_true rfl⟩ (fun u0 H locs hP hD hS => ?_)
  have hP : va_P z.1 classes [(a0, .inr (14, [.ref a1, .int 0, .ref a2, .ref a3, .int 0, .ref a4, .null]))] H := hP
  have hD : va_D A [(a0, .inr (14, [.ref a1, .int 0, .ref a2, .ref a3, .int 0, .ref a4, .null]))] := hD
  refine W.eq (g2 := F0 m 20 ls [.int 0]) rfl ?_
  refine lv_if_ne (tgt := 26) hx hb d_17_7_20 (by decide) (fun c9 => absurd (by decide +kernel) c9) (fun _ => ?_)
  refine lv_goto (tgt := 68) hx hb d_17_7_23 (by decide) ?_
  refine lv_iinc (v := 1) (lv' := [(4, .int 1), (3, .int 0), (2, .int (-1)), (0, .ref a0), (1, .int x0)]) hx hb d_17_7_68 hl (k := 0) rfl (by decide +kernel) (by decide) rfl (fun ls hl => ?_)
  refine lv_goto (tgt := 7) hx hb d_17_7_71 (by decide) ?_
  refine lv_iload hx hb d_17_7_7 (lv_at hl 0 rfl) ?_
  refine lv_bipush (v := 8) hx hb d_17_7_9 (by decide +kernel) ?_
  refine lv_icmp_ge (tgt := 74) hx hb d_17_7_11 (by decide) (fun c9 => absurd c9 (by decide +kernel)) (fun _ => ?_)
  refine lv_aload_n hx hb d_17_7_14 rfl (lv_at hl 3 rfl) ?_
  refine lv_iload hx hb d_17_7_15 (lv_at hl 0 rfl) ?_
  refine kV (As := [.int 1]) (rest := []) (wr := []) (c434_Poll_isIn l z a0 a1 a2 a3 a4) hx hb hml hown hts w_2302 w_2299 w_2300 w_2301 w_36 md_2288df ⟨Nat.le_of_ble_eq_true rfl, Nat.le_of_ble_eq_true rfl⟩ hG hZ hP hD hS hA 0 rfl rfl rfl [0] [] rfl rfl rfl rfl rfl hl.1 rfl (Nat.le_of_ble_eq_true rfl) d_17_7_17 ⟨Nat.le_of_ble_eq_true rfl, Nat.le_of_ble_eq_true rfl⟩ (fun u1 H locs hP hD hS => ?_)
  have hP : va_P z.1 classes [(a0, .inr (14, [.ref a1, .int 0, .ref a2, .ref a3, .int 0, .ref a4, .null]))] H := hP
  have hD : va_D A [(a0, .inr (14, [.ref a1, .int 0, .ref a2, .ref a3, .int 0, .ref a4, .null]))] := hD
  refine W.eq (g2 := F0 m 20 ls [.int 0]) rfl ?_
  refine lv_if_ne (tgt := 26) hx hb d_17_7_20 (by decide) (fun c9 => absurd (by decide +kernel) c9) (fun _ => ?_)
  refine lv_goto (tgt := 68) hx hb d_17_7_23 (by decide) ?_
  refine lv_iinc (v := 2) (lv' := [(4, .int 2), (3, .int 0), (2, .int (-1)), (0, .ref a0), (1, .int x0)]) hx hb d_17_7_68 hl (k := 0) rfl (by decide +kernel) (by decide) rfl (fun ls hl => ?_)
  refine lv_goto (tgt := 7) hx hb d_17_7_71 (by decide) ?_
  refine lv_iload hx hb d_17_7_7 (lv_at hl 0 rfl) ?_
  refine lv_bipush (v := 8) hx hb d_17_7_9 (by decide +kernel) ?_
  refine lv_icmp_ge (tgt := 74) hx hb d_17_7_11 (by decide) (fun c9 => absurd c9 (by decide +kernel)) (fun _ => ?_)
  refine lv_aload_n hx hb d_17_7_14 rfl (lv_at hl 3 rfl) ?_
  refine lv_iload hx hb d_17_7_15 (lv_at hl 0 rfl) ?_
  refine kV (As := [.int 2]) (rest := []) (wr := []) (c435_Poll_isIn l z a0 a1 a2 a3 a4) hx hb hml hown hts w_2302 w_2299 w_2300 w_2301 w_36 md_2288df ⟨Nat.le_of_ble_eq_true rfl, Nat.le_of_ble_eq_true rfl⟩ hG hZ hP hD hS hA 0 rfl rfl rfl [0] [] rfl rfl rfl rfl rfl hl.1 rfl (Nat.le_of_ble_eq_true rfl) d_17_7_17 ⟨Nat.le_of_ble_eq_true rfl, Nat.le_of_ble_eq_true rfl⟩ (fun u2 H locs hP hD hS => ?_)
  have hP : va_P z.1 classes [(a0, .inr (14, [.ref a1, .int 0, .ref a2, .ref a3, .int 0, .ref a4, .null]))] H := hP
  have hD : va_D A [(a0, .inr (14, [.ref a1, .int 0, .ref a2, .ref a3, .int 0, .ref a4, .null]))] := hD
  refine W.eq (g2 := F0 m 20 ls [.int 0]) rfl ?_
  refine lv_if_ne (tgt := 26) hx hb d_17_7_20 (by decide) (fun c9 => absurd (by decide +kernel) c9) (fun _ => ?_)
  refine lv_goto (tgt := 68) hx hb d_17_7_23 (by decide) ?_
  refine lv_iinc (v := 3) (lv' := [(4, .int 3), (3, .int 0), (2, .int (-1)), (0, .ref a0), (1, .int x0)]) hx hb d_17_7_68 hl (k := 0) rfl (by decide +kernel) (by decide) rfl (fun ls hl => ?_)
  refine lv_goto (tgt := 7) hx hb d_17_7_71 (by decide) ?_
  refine lv_iload hx hb d_17_7_7 (lv_at hl 0 rfl) ?_
  refine lv_bipush (v := 8) hx hb d_17_7_9 (by decide +kernel) ?_
  refine lv_icmp_ge (tgt := 74) hx hb d_17_7_11 (by decide) (fun c9 => absurd c9 (by decide +kernel)) (fun _ => ?_)
  refine lv_aload_n hx hb d_17_7_14 rfl (lv_at hl 3 rfl) ?_
  refine lv_iload hx hb d_17_7_15 (lv_at hl 0 rfl) ?_
  refine kV (As := [.int 3]) (rest := []) (wr := []) (c436_Poll_isIn l z a0 a1 a2 a3 a4) hx hb hml hown hts w_2302 w_2299 w_2300 w_2301 w_36 md_2288df ⟨Nat.le_of_ble_eq_true rfl, Nat.le_of_ble_eq_true rfl⟩ hG hZ hP hD hS hA 0 rfl rfl rfl [0] [] rfl rfl rfl rfl rfl hl.1 rfl (Nat.le_of_ble_eq_true rfl) d_17_7_17 ⟨Nat.le_of_ble_eq_true rfl, Nat.le_of_ble_eq_true rfl⟩ (fun u3 H locs hP hD hS => ?_)
  have hP : va_P z.1 classes [(a0, .inr (14, [.ref a1, .int 0, .ref a2, .ref a3, .int 0, .ref a4, .null]))] H := hP
  have hD : va_D A [(a0, .inr (14, [.ref a1, .int 0, .ref a2, .ref a3, .int 0, .ref a4, .null]))] := hD
  refine W.eq (g2 := F0 m 20 ls [.int 0]) rfl ?_
  refine lv_if_ne (tgt := 26) hx hb d_17_7_20 (by decide) (fun c9 => absurd (by decide +kernel) c9) (fun _ => ?_)
  refine lv_goto (tgt := 68) hx hb d_17_7_23 (by decide) ?_
  refine lv_iinc (v := 4) (lv' := [(4, .int 4), (3, .int 0), (2, .int (-1)), (0, .ref a0), (1, .int x0)]) hx hb d_17_7_68 hl (k := 0) rfl (by decide +kernel) (by decide) rfl (fun ls hl => ?_)
  refine lv_goto (tgt := 7) hx hb d_17_7_71 (by decide) ?_
  refine lv_iload hx hb d_17_7_7 (lv_at hl 0 rfl) ?_
  refine lv_bipush (v := 8) hx hb d_17_7_9 (by decide +kernel) ?_
  refine lv_icmp_ge (tgt := 74) hx hb d_17_7_11 (by decide) (fun c9 => absurd c9 (by decide +kernel)) (fun _ => ?_)
  refine lv_aload_n hx hb d_17_7_14 rfl (lv_at hl 3 rfl) ?_
  refine lv_iload hx hb d_17_7_15 (lv_at hl 0 rfl) ?_
  refine kV (As := [.int 4]) (rest := []) (wr := []) (c437_Poll_isIn l z a0 a1 a2 a3 a4) hx hb hml hown hts w_2302 w_2299 w_2300 w_2301 w_36 md_2288df ⟨Nat.le_of_ble_eq_true rfl, Nat.le_of_ble_eq_true rfl⟩ hG hZ hP hD hS hA 0 rfl rfl rfl [0] [] rfl rfl rfl rfl rfl hl.1 rfl (Nat.le_of_ble_eq_true rfl) d_17_7_17 ⟨Nat.le_of_ble_eq_true rfl, Nat.le_of_ble_eq_true rfl⟩ (fun u4 H locs hP hD hS => ?_)
  have hP : va_P z.1 classes [(a0, .inr (14, [.ref a1, .int 0, .ref a2, .ref a3, .int 0, .ref a4, .null]))] H := hP
  have hD : va_D A [(a0, .inr (14, [.ref a1, .int 0, .ref a2, .ref a3, .int 0, .ref a4, .null]))] := hD
  refine W.eq (g2 := F0 m 20 ls [.int 0]) rfl ?_
  refine lv_if_ne (tgt := 26) hx hb d_17_7_20 (by decide) (fun c9 => absurd (by decide +kernel) c9) (fun _ => ?_)
  refine lv_goto (tgt := 68) hx hb d_17_7_23 (by decide) ?_
  refine lv_iinc (v := 5) (lv' := [(4, .int 5), (3, .int 0), (2, .int (-1)), (0, .ref a0), (1, .int x0)]) hx hb d_17_7_68 hl (k := 0) rfl (by decide +kernel) (by decide) rfl (fun ls hl => ?_)
  refine lv_goto (tgt := 7) hx hb d_17_7_71 (by decide) ?_
  refine lv_iload hx hb d_17_7_7 (lv_at hl 0 rfl) ?_
  refine lv_bipush (v := 8) hx hb d_17_7_9 (by decide +kernel) ?_
  refine lv_icmp_ge (tgt := 74) hx hb d_17_7_11 (by decide) (fun c9 => absurd c9 (by decide +kernel)) (fun _ => ?_)
  refine lv_aload_n hx hb d_17_7_14 rfl (lv_at hl 3 rfl) ?_
  refine lv_iload hx hb d_17_7_15 (lv_at hl 0 rfl) ?_
  refine kV (As := [.int 5]) (rest := []) (wr := []) (c438_Poll_isIn l z a0 a1 a2 a3 a4) hx hb hml hown hts w_2302 w_2299 w_2300 w_2301 w_36 md_2288df ⟨Nat.le_of_ble_eq_true rfl, Nat.le_of_ble_eq_true rfl⟩ hG hZ hP hD hS hA 0 rfl rfl rfl [0] [] rfl rfl rfl rfl rfl hl.1 rfl (Nat.le_of_ble_eq_true rfl) d_17_7_17 ⟨Nat.le_of_ble_eq_true rfl, Nat.le_of_ble_eq_true rfl⟩ (fun u5 H locs hP hD hS => ?_)
  have hP : va_P z.1 classes [(a0, .inr (14, [.ref a1, .int 0, .ref a2, .ref a3, .int 0, .ref a4, .null]))] H := hP
  have hD : va_D A [(a0, .inr (14, [.ref a1, .int 0, .ref a2, .ref a3, .int 0, .ref a4, .null]))] := hD
  refine W.eq (g2 := F0 m 20 ls [.int 0]) rfl ?_
  refine lv_if_ne (tgt := 26) hx hb d_17_7_20 (by decide) (fun c9 => absurd (by decide +kernel) c9) (fun _ => ?_)
  refine lv_goto (tgt := 68) hx hb d_17_7_23 (by decide) ?_
  refine lv_iinc (v := 6) (lv' := [(4, .int 6), (3, .int 0), (2, .int (-1)), (0, .ref a0), (1, .int x0)]) hx hb d_17_7_68 hl (k := 0) rfl (by decide +kernel) (by decide) rfl (fun ls hl => ?_)
  refine lv_goto (tgt := 7) hx hb d_17_7_71 (by decide) ?_
  refine lv_iload hx hb d_17_7_7 (lv_at hl 0 rfl) ?_
  refine lv_bipush (v := 8) hx hb d_17_7_9 (by decide +kernel) ?_
  refine lv_icmp_ge (tgt := 74) hx hb d_17_7_11 (by decide) (fun c9 => absurd c9 (by decide +kernel)) (fun _ => ?_)
  refine lv_aload_n hx hb d_17_7_14 rfl (lv_at hl 3 rfl) ?_
  refine lv_iload hx hb d_17_7_15 (lv_at hl 0 rfl) ?_
  refine kV (As := [.int 6]) (rest := []) (wr := []) (c439_Poll_isIn l z a0 a1 a2 a3 a4) hx hb hml hown hts w_2302 w_2299 w_2300 w_2301 w_36 md_2288df ⟨Nat.le_of_ble_eq_true rfl, Nat.le_of_ble_eq_true rfl⟩ hG hZ hP hD hS hA 0 rfl rfl rfl [0] [] rfl rfl rfl rfl rfl hl.1 rfl (Nat.le_of_ble_eq_true rfl) d_17_7_17 ⟨Nat.le_of_ble_eq_true rfl, Nat.le_of_ble_eq_true rfl⟩ (fun u6 H locs hP hD hS => ?_)
  have hP : va_P z.1 classes [(a0, .inr (14, [.ref a1, .int 0, .ref a2, .ref a3, .int 0, .ref a4, .null]))] H := hP
  have hD : va_D A [(a0, .inr (14, [.ref a1, .int 0, .ref a2, .ref a3, .int 0, .ref a4, .null]))] := hD
  refine W.eq (g2 := F0 m 20 ls [.int 0]) rfl ?_
  refine lv_if_ne (tgt := 26) hx hb d_17_7_20 (by decide) (fun c9 => absurd (by decide +kernel) c9) (fun _ => ?_)
  refine lv_goto (tgt := 68) hx hb d_17_7_23 (by decide) ?_
  refine lv_iinc (v := 7) (lv' := [(4, .int 7), (3, .int 0), (2, .int (-1)), (0, .ref a0), (1, .int x0)]) hx hb d_17_7_68 hl (k := 0) rfl (by decide +kernel) (by decide) rfl (fun ls hl => ?_)
  refine lv_goto (tgt := 7) hx hb d_17_7_71 (by decide) ?_
  refine lv_iload hx hb d_17_7_7 (lv_at hl 0 rfl) ?_
  refine lv_bipush (v := 8) hx hb d_17_7_9 (by decide +kernel) ?_
  refine lv_icmp_ge (tgt := 74) hx hb d_17_7_11 (by decide) (fun c9 => absurd c9 (by decide +kernel)) (fun _ => ?_)
  refine lv_aload_n hx hb d_17_7_14 rfl (lv_at hl 3 rfl) ?_
  refine lv_iload hx hb d_17_7_15 (lv_at hl 0 rfl) ?_
  refine kV (As := [.int 7]) (rest := []) (wr := []) (c440_Poll_isIn l z a0 a1 a2 a3 a4) hx hb hml hown hts w_2302 w_2299 w_2300 w_2301 w_36 md_2288df ⟨Nat.le_of_ble_eq_true rfl, Nat.le_of_ble_eq_true rfl⟩ hG hZ hP hD hS hA 0 rfl rfl rfl [0] [] rfl rfl rfl rfl rfl hl.1 rfl (Nat.le_of_ble_eq_true rfl) d_17_7_17 ⟨Nat.le_of_ble_eq_true rfl, Nat.le_of_ble_eq_true rfl⟩ (fun u7 H locs hP hD hS => ?_)
  have hP : va_P z.1 classes [(a0, .inr (14, [.ref a1, .int 0, .ref a2, .ref a3, .int 0, .ref a4, .null]))] H := hP
  have hD : va_D A [(a0, .inr (14, [.ref a1, .int 0, .ref a2, .ref a3, .int 0, .ref a4, .null]))] := hD
  refine W.eq (g2 := F0 m 20 ls [.int 0]) rfl ?_
  refine lv_if_ne (tgt := 26) hx hb d_17_7_20 (by decide) (fun c9 => absurd (by decide +kernel) c9) (fun _ => ?_)
  refine lv_goto (tgt := 68) hx hb d_17_7_23 (by decide) ?_
  refine lv_iinc (v := 8) (lv' := [(4, .int 8), (3, .int 0), (2, .int (-1)), (0, .ref a0), (1, .int x0)]) hx hb d_17_7_68 hl (k := 0) rfl (by decide +kernel) (by decide) rfl (fun ls hl => ?_)
  refine lv_goto (tgt := 7) hx hb d_17_7_71 (by decide) ?_
  refine lv_iload hx hb d_17_7_7 (lv_at hl 0 rfl) ?_
  refine lv_bipush (v := 8) hx hb d_17_7_9 (by decide +kernel) ?_
  refine lv_icmp_ge (tgt := 74) hx hb d_17_7_11 (by decide) (fun _ => ?_) (fun c9 => absurd (by decide +kernel) c9)
  refine lv_iload_n hx hb d_17_7_74 rfl (lv_at hl 2 rfl) ?_
  refine W.widen (k := 0) (n := 0) (Nat.le_of_ble_eq_true rfl) (Nat.le_of_ble_eq_true rfl) ?_
  exact W.iret hx hb hr (fun t ht hW => qk hP hD hS [0] rfl ((fun k => k), (fun _ _ => none)) rfl rfl rfl ht) hS.2.2 d_17_7_75
set_option maxRecDepth 100000 in
set_option maxHeartbeats 4000000 in
theorem c442_Poll_winner (l : Launch) (z : Zz) (a0 a1 a2 a3 a4 : Nat) (x0 : Int32) (h0 : ¬ x0 = 1) (h1 : ¬ x0 = 2) : CT l z ⟨"BallothallModel$Poll", "winner", "(I)I"⟩ prog_17_method_11_code 2 (some .int) [.ref a0, .int x0] [(a0, .inr (14, [.ref a1, .int 0, .ref a2, .ref a3, .int 0, .ref a4, .null]))] 2 62 0 0 (fun u => some (.int (-1))) (fun u => [(a0, .inr (14, [.ref a1, .int 0, .ref a2, .ref a3, .int 0, .ref a4, .null]))]) := by
  refine CT.of (own := "BallothallModel$Poll") (by decide +kernel) (Nat.le_of_ble_eq_true rfl) rfl (fun p e s m below meth c A ls hx hb hml hr hts hown hlocks hin hA hG hZ hP hD hS hl => ?_)
  have hl : lv_has ls 2 [(0, .ref a0), (1, .int x0)] := hl
  refine lv_iload_n hx hb d_17_11_0 rfl (lv_at hl 1 rfl) ?_
  refine lv_iconst (v := 1) hx hb d_17_11_1 (by decide +kernel) ?_
  refine lv_icmp_ne (tgt := 12) hx hb d_17_11_2 (by decide) (fun _ => ?_) (fun c9 => absurd c9 h0)
  refine lv_iload_n hx hb d_17_11_12 rfl (lv_at hl 1 rfl) ?_
  refine lv_iconst (v := 2) hx hb d_17_11_13 (by decide +kernel) ?_
  refine lv_icmp_ne (tgt := 28) hx hb d_17_11_14 (by decide) (fun _ => ?_) (fun c9 => absurd c9 h1)
  refine lv_aload_n hx hb d_17_11_28 rfl (lv_at hl 0 rfl) ?_
  refine lv_iload_n hx hb d_17_11_29 rfl (lv_at hl 1 rfl) ?_
  refine kV (As := [.int x0]) (rest := []) (wr := []) (c441_Poll_most l z a0 a1 a2 a3 a4 x0) hx hb hml hown hts w_2366 w_2363 w_2365 w_s_bc533d w_36 md_b9689e ⟨Nat.le_of_ble_eq_true rfl, Nat.le_of_ble_eq_true rfl⟩ hG hZ hP hD hS hA 0 rfl rfl rfl [0] [] rfl rfl rfl rfl rfl hl.1 rfl (Nat.le_of_ble_eq_true rfl) d_17_11_30 ⟨Nat.le_of_ble_eq_true rfl, Nat.le_of_ble_eq_true rfl⟩ (fun u0 H locs hP hD hS => ?_)
  have hP : va_P z.1 classes [(a0, .inr (14, [.ref a1, .int 0, .ref a2, .ref a3, .int 0, .ref a4, .null]))] H := hP
  have hD : va_D A [(a0, .inr (14, [.ref a1, .int 0, .ref a2, .ref a3, .int 0, .ref a4, .null]))] := hD
  refine W.eq (g2 := F0 m 33 ls [.int (-1)]) rfl ?_
  refine W.widen (k := 0) (n := 0) (Nat.le_of_ble_eq_true rfl) (Nat.le_of_ble_eq_true rfl) ?_
  exact W.iret hx hb hr (fun t ht hW => qk hP hD hS [0] rfl ((fun k => k), (fun _ _ => none)) rfl rfl rfl ht) hS.2.2 d_17_11_33
set_option maxRecDepth 100000 in
set_option maxHeartbeats 4000000 in
theorem c443_BModel_winner (l : Launch) (z : Zz) (a0 a1 a2 a3 a4 a5 a6 a7 a8 a9 a10 a11 a12 a13 : Nat) (x0 : Int32) (h0 : ¬ x0 < 0) (h1 : ¬ 4 < x0) (h2 : ¬ x0 = 1) (h3 : ¬ x0 = 2) : CT l z ⟨"BallothallModel", "winner", "(I)I"⟩ prog_14_method_67_code 2 (some .int) [.ref a0, .int x0] [(a0, .inr (18, [.ref a1, .ref a2, .int 0, .ref a3, .int 0, .ref a4, .int 0, .null, .int 0, .null, .long 0, .int 0, .null])), (a1, .inr (17, [.int 0, .ref a5, .ref a6, .int 0, .ref a7, .ref a8, .ref a9, .null, .null, .int 0, .ref a10, .ref a11, .ref a12, .int 0, .ref a13, .int 1]))] 3 91 3 23 (fun u => some (.int (-1))) (fun u => [(a0, .inr (18, [.ref a1, .ref a2, .int 0, .ref a3, .int 0, .ref a4, .int 0, .null, .int 0, .null, .long 0, .int 0, .null])), (a1, .inr (17, [.int 0, .ref a5, .ref a6, .int 0, .ref a7, .ref a8, .ref a9, .null, .null, .int 0, .ref a10, .ref a11, .ref a12, .int 0, .ref a13, .int 1]))]) := by
  refine CT.of (own := "BallothallModel") (by decide +kernel) (Nat.le_of_ble_eq_true rfl) rfl (fun p e s m below meth c A ls hx hb hml hr hts hown hlocks hin hA hG hZ hP hD hS hl => ?_)
  have hl : lv_has ls 2 [(0, .ref a0), (1, .int x0)] := hl
  refine lv_aload_n hx hb d_14_67_0 rfl (lv_at hl 0 rfl) ?_
  refine lv_iload_n hx hb d_14_67_1 rfl (lv_at hl 1 rfl) ?_
  refine lv_iconst (v := 0) hx hb d_14_67_2 (by decide +kernel) ?_
  refine lv_iconst (v := 4) hx hb d_14_67_3 (by decide +kernel) ?_
  refine kS (As := [.int x0, .int 0, .int 4]) (rest := [.ref a0]) (wr := [(a0, .inr (18, [.ref a1, .ref a2, .int 0, .ref a3, .int 0, .ref a4, .int 0, .null, .int 0, .null, .long 0, .int 0, .null])), (a1, .inr (17, [.int 0, .ref a5, .ref a6, .int 0, .ref a7, .ref a8, .ref a9, .null, .null, .int 0, .ref a10, .ref a11, .ref a12, .int 0, .ref a13, .int 1]))]) (c425_BModel_isIn l z x0 h0 h1) hx hb hml hown hts w_1718 w_1716 w_1717 w_12 md_bca45c ⟨Nat.le_of_ble_eq_true rfl, Nat.le_of_ble_eq_true rfl⟩ hG hZ hP hD hS hA [] [0, 1] rfl rfl rfl rfl rfl hl.1 rfl (Nat.le_of_ble_eq_true rfl) d_14_67_4 ⟨Nat.le_of_ble_eq_true rfl, Nat.le_of_ble_eq_true rfl⟩ (fun u0 H locs hP hD hS => ?_)
  have hP : va_P z.1 classes [(a0, .inr (18, [.ref a1, .ref a2, .int 0, .ref a3, .int 0, .ref a4, .int 0, .null, .int 0, .null, .long 0, .int 0, .null])), (a1, .inr (17, [.int 0, .ref a5, .ref a6, .int 0, .ref a7, .ref a8, .ref a9, .null, .null, .int 0, .ref a10, .ref a11, .ref a12, .int 0, .ref a13, .int 1]))] H := hP
  have hD : va_D A [(a0, .inr (18, [.ref a1, .ref a2, .int 0, .ref a3, .int 0, .ref a4, .int 0, .null, .int 0, .null, .long 0, .int 0, .null])), (a1, .inr (17, [.int 0, .ref a5, .ref a6, .int 0, .ref a7, .ref a8, .ref a9, .null, .null, .int 0, .ref a10, .ref a11, .ref a12, .int 0, .ref a13, .int 1]))] := hD
  refine W.eq (g2 := F0 m 7 ls [.int 1, .ref a0]) rfl ?_
  refine lv_iconst (v := 1) hx hb d_14_67_7 (by decide +kernel) ?_
  refine kV (As := [.int 1, .int 1]) (rest := []) (wr := [(a1, .inr (17, [.int 0, .ref a5, .ref a6, .int 0, .ref a7, .ref a8, .ref a9, .null, .null, .int 0, .ref a10, .ref a11, .ref a12, .int 0, .ref a13, .int 1]))]) (c16_BModel_ends l z a0 a1 a2 a3 a4) hx hb hml hown hts w_1696 w_1693 w_1695 w_s_f8f2b7 w_12 md_77b0f8 ⟨Nat.le_of_ble_eq_true rfl, Nat.le_of_ble_eq_true rfl⟩ hG hZ hP hD hS hA 0 rfl rfl rfl [0] [1] rfl rfl rfl rfl rfl hl.1 rfl (Nat.le_of_ble_eq_true rfl) d_14_67_8 ⟨Nat.le_of_ble_eq_true rfl, Nat.le_of_ble_eq_true rfl⟩ (fun u1 H locs hP hD hS => ?_)
  have hP : va_P z.1 classes [(a1, .inr (17, [.int 0, .ref a5, .ref a6, .int 0, .ref a7, .ref a8, .ref a9, .null, .null, .int 0, .ref a10, .ref a11, .ref a12, .int 0, .ref a13, .int 1])), (a0, .inr (18, [.ref a1, .ref a2, .int 0, .ref a3, .int 0, .ref a4, .int 0, .null, .int 0, .null, .long 0, .int 0, .null]))] H := hP
  have hD : va_D A [(a1, .inr (17, [.int 0, .ref a5, .ref a6, .int 0, .ref a7, .ref a8, .ref a9, .null, .null, .int 0, .ref a10, .ref a11, .ref a12, .int 0, .ref a13, .int 1])), (a0, .inr (18, [.ref a1, .ref a2, .int 0, .ref a3, .int 0, .ref a4, .int 0, .null, .int 0, .null, .long 0, .int 0, .null]))] := hD
  refine W.eq (g2 := F0 m 11 ls [.int 0]) rfl ?_
  refine lv_if_eq (tgt := 18) hx hb d_14_67_11 (by decide) (fun _ => ?_) (fun c9 => absurd (by decide +kernel) c9)
  refine lv_aload_n hx hb d_14_67_18 rfl (lv_at hl 0 rfl) ?_
  refine kV (As := []) (rest := []) (wr := []) (c301_BModel_poll l z a0 a1 a2 a3 a4 a5 a6 a7 a8 a9 a10 a11 a12 a13) hx hb hml hown hts w_2246 w_2243 w_2245 w_s_14a2f1 w_12 md_55febb ⟨Nat.le_of_ble_eq_true rfl, Nat.le_of_ble_eq_true rfl⟩ hG hZ hP hD hS hA 1 rfl rfl rfl [1, 0] [] rfl rfl rfl rfl rfl hl.1 rfl (Nat.le_of_ble_eq_true rfl) d_14_67_19 ⟨Nat.le_of_ble_eq_true rfl, Nat.le_of_ble_eq_true rfl⟩ (fun u2 H locs hP hD hS => ?_)
  have hP : va_P z.1 classes [(a0, .inr (18, [.ref a1, .ref a2, .int 0, .ref a3, .int 0, .ref a4, .int 0, .null, .int 0, .null, .long 0, .int 0, .null])), (a1, .inr (17, [.int 0, .ref a5, .ref a6, .int 0, .ref a7, .ref a8, .ref a9, .null, .null, .int 0, .ref a10, .ref a11, .ref a12, .int 0, .ref a13, .int 1])), ((u2.1 0), .inr (14, [.ref a6, .int 0, .ref a5, .ref (u2.1 1), .int 0, .ref (u2.1 2), .null]))] H := hP
  have hD : va_D A [(a0, .inr (18, [.ref a1, .ref a2, .int 0, .ref a3, .int 0, .ref a4, .int 0, .null, .int 0, .null, .long 0, .int 0, .null])), (a1, .inr (17, [.int 0, .ref a5, .ref a6, .int 0, .ref a7, .ref a8, .ref a9, .null, .null, .int 0, .ref a10, .ref a11, .ref a12, .int 0, .ref a13, .int 1])), ((u2.1 0), .inr (14, [.ref a6, .int 0, .ref a5, .ref (u2.1 1), .int 0, .ref (u2.1 2), .null]))] := hD
  refine W.eq (g2 := F0 m 22 ls [.ref (u2.1 0)]) rfl ?_
  refine lv_iload_n hx hb d_14_67_22 rfl (lv_at hl 1 rfl) ?_
  refine kV (As := [.int x0]) (rest := []) (wr := [(a0, .inr (18, [.ref a1, .ref a2, .int 0, .ref a3, .int 0, .ref a4, .int 0, .null, .int 0, .null, .long 0, .int 0, .null])), (a1, .inr (17, [.int 0, .ref a5, .ref a6, .int 0, .ref a7, .ref a8, .ref a9, .null, .null, .int 0, .ref a10, .ref a11, .ref a12, .int 0, .ref a13, .int 1]))]) (c442_Poll_winner l z (u2.1 0) a6 a5 (u2.1 1) (u2.1 2) x0 h2 h3) hx hb hml hown hts w_2342 w_2339 w_2340 w_2341 w_36 md_ba59c7 ⟨Nat.le_of_ble_eq_true rfl, Nat.le_of_ble_eq_true rfl⟩ hG hZ hP hD hS hA 2 rfl rfl rfl [2] [0, 1] rfl rfl rfl rfl rfl hl.1 rfl (Nat.le_of_ble_eq_true rfl) d_14_67_23 ⟨Nat.le_of_ble_eq_true rfl, Nat.le_of_ble_eq_true rfl⟩ (fun u3 H locs hP hD hS => ?_)
  have hP : va_P z.1 classes [(a0, .inr (18, [.ref a1, .ref a2, .int 0, .ref a3, .int 0, .ref a4, .int 0, .null, .int 0, .null, .long 0, .int 0, .null])), (a1, .inr (17, [.int 0, .ref a5, .ref a6, .int 0, .ref a7, .ref a8, .ref a9, .null, .null, .int 0, .ref a10, .ref a11, .ref a12, .int 0, .ref a13, .int 1])), ((u2.1 0), .inr (14, [.ref a6, .int 0, .ref a5, .ref (u2.1 1), .int 0, .ref (u2.1 2), .null]))] H := hP
  have hD : va_D A [(a0, .inr (18, [.ref a1, .ref a2, .int 0, .ref a3, .int 0, .ref a4, .int 0, .null, .int 0, .null, .long 0, .int 0, .null])), (a1, .inr (17, [.int 0, .ref a5, .ref a6, .int 0, .ref a7, .ref a8, .ref a9, .null, .null, .int 0, .ref a10, .ref a11, .ref a12, .int 0, .ref a13, .int 1])), ((u2.1 0), .inr (14, [.ref a6, .int 0, .ref a5, .ref (u2.1 1), .int 0, .ref (u2.1 2), .null]))] := hD
  refine W.eq (g2 := F0 m 26 ls [.int (-1)]) rfl ?_
  refine W.widen (k := 3) (n := 23) (Nat.le_of_ble_eq_true rfl) (Nat.le_of_ble_eq_true rfl) ?_
  exact W.iret hx hb hr (fun t ht hW => qk hP hD hS [0, 1] rfl ((fun k => k), (fun _ _ => none)) rfl rfl rfl ht) hS.2.2 d_14_67_26
set_option maxRecDepth 100000 in
set_option maxHeartbeats 4000000 in
theorem c444_B_votesFor (l : Launch) (z : Zz) (hl0 : l.stackTraces = false) (a0 a1 a2 a3 a4 a5 a6 a7 a8 a9 a10 a11 a12 a13 a14 a15 a16 a17 a18 : Nat) (x0 : Int32) (x1 : Int32) (h0 : x1 < 0) : XT l z ⟨"Ballothall", "votesFor", "(II)I"⟩ prog_1_method_33_code 3 (some .int) [.ref a0, .int x0, .int x1] [(a0, .inr (11, [.ref a1, .ref a2, .ref a3, .ref a4, .ref a5, .ref a6, .ref a7, .ref a8, .ref a9, .ref a10, .int 0, .int 0, .ref a11, .int 0])), (a1, .inr (0, [.ref a12, .int 0, .int 0, .int 0, .ref a13, .ref a14, .ref a15, .ref a16, .ref a17, .ref a18]))] 7 127 1 6 "java/lang/IndexOutOfBoundsException" := by
  refine XT.of (own := "Ballothall") (by decide +kernel) (Nat.le_of_ble_eq_true rfl) rfl (fun p e s m below meth c A ls hx hb hml hr hts hown hlocks hin hA hG hZ hP hD hS hl hnt => ?_)
  have hl : lv_has ls 3 [(0, .ref a0), (1, .int x0), (2, .int x1)] := hl
  refine lv_iload_n hx hb d_1_33_0 rfl (lv_at hl 2 rfl) ?_
  refine lv_aload_n hx hb d_1_33_1 rfl (lv_at hl 0 rfl) ?_
  refine va_get (D := z.1) (ci := 11) (v := .ref a1) (C := "Ballothall") (T := TX11) (N := 14) hx hb hts iX11 hown hG.1 hP 0 rfl rfl 0 (by decide) (hts _ w_406) (fun _ h9 => h9) rfl d_1_33_2 ?_
  refine va_getN (D := z.1) (ci := 0) (v := .int 0) (C := "Ballothall$BallotBox") (T := TX0) (N := 10) hx hb hts iX0 hown hG.1 hP 1 rfl rfl 2 (by decide) (va_Nw.use rfl (hG.2.1 _ n_57 rfl)) (fun _ h9 => h9) rfl d_1_33_5 ?_
  exact xS (As := [.int x1, .int 0]) (rest := []) (wr := [(a0, .inr (11, [.ref a1, .ref a2, .ref a3, .ref a4, .ref a5, .ref a6, .ref a7, .ref a8, .ref a9, .ref a10, .int 0, .int 0, .ref a11, .int 0])), (a1, .inr (0, [.ref a12, .int 0, .int 0, .int 0, .ref a13, .ref a14, .ref a15, .ref a16, .ref a17, .ref a18]))]) (c26_B_needIndex l z hl0 x1 h0) hx hb hml hown hts w_857 w_855 w_856 w_1 md_6cb26b ⟨Nat.le_of_ble_eq_true rfl, Nat.le_of_ble_eq_true rfl⟩ hG hZ hP hD hS hA [] [0, 1] rfl rfl rfl rfl rfl hl.1 rfl (Nat.le_of_ble_eq_true rfl) d_1_33_8 ⟨Nat.le_of_ble_eq_true rfl, Nat.le_of_ble_eq_true rfl⟩ (fun q9 ce9 H locs hP hD hS h7 h8 h9 => x_out hnt hlocks hS h7 h8 h9 (Nat.le_of_ble_eq_true rfl) (Nat.le_of_ble_eq_true rfl))
set_option maxRecDepth 100000 in
set_option maxHeartbeats 4000000 in
theorem c445_BLaw_votesFor (l : Launch) (z : Zz) (hl0 : l.stackTraces = false) (a0 a1 a2 a3 a4 a5 a6 a7 a8 a9 a10 a11 a12 a13 a14 a15 a16 a17 a18 a19 : Nat) (x0 : Int32) (x1 : Int32) (h0 : x1 < 0) : HT l z ⟨"BallothallLaw", "votesFor", "(LBallothall;II[J)I"⟩ method_26_code 5 (some .int) [(0, 10, 13, 19), (0, 10, 17, 21)] [.ref a0, .int x0, .int x1, .ref a1] [(a0, .inr (11, [.ref a2, .ref a3, .ref a4, .ref a5, .ref a6, .ref a7, .ref a8, .ref a9, .ref a10, .ref a11, .int 0, .int 0, .ref a12, .int 0])), (a2, .inr (0, [.ref a13, .int 0, .int 0, .int 0, .ref a14, .ref a15, .ref a16, .ref a17, .ref a18, .ref a19]))] 8 157 1 6 (fun u => some (.int 1)) (fun u => []) := by
  refine HT.of (own := "BallothallLaw") (by decide +kernel) (Nat.le_of_ble_eq_true rfl) rfl (fun p e s m below meth c A ls hx hb hml hr hts hown hlocks hin hA hG hZ hP hD hS hl htab => ?_)
  have hl : lv_has ls 5 [(0, .ref a0), (1, .int x0), (2, .int x1), (3, .ref a1)] := hl
  refine lv_aload_n hx hb d_L26_0 rfl (lv_at hl 3 rfl) ?_
  refine lv_iconst (v := 0) hx hb d_L26_1 (by decide +kernel) ?_
  refine lv_aload_n hx hb d_L26_2 rfl (lv_at hl 0 rfl) ?_
  refine lv_iload_n hx hb d_L26_3 rfl (lv_at hl 1 rfl) ?_
  refine lv_iload_n hx hb d_L26_4 rfl (lv_at hl 2 rfl) ?_
  refine xV (As := [.int x0, .int x1]) (rest := [.int 0, .ref a1]) (wr := []) (c444_B_votesFor l z hl0 a0 a2 a3 a4 a5 a6 a7 a8 a9 a10 a11 a12 a13 a14 a15 a16 a17 a18 a19 x0 x1 h0) hx hb hml hown hts w_1358 w_1355 w_1356 w_1357 w_1 md_eb71e6 ⟨Nat.le_of_ble_eq_true rfl, Nat.le_of_ble_eq_true rfl⟩ hG hZ hP hD hS hA 0 rfl rfl rfl [0, 1] [] rfl rfl rfl rfl rfl hl.1 rfl (Nat.le_of_ble_eq_true rfl) d_L26_5 ⟨Nat.le_of_ble_eq_true rfl, Nat.le_of_ble_eq_true rfl⟩ (fun q0 ce9 H locs hP hD hS h7 h8 h9 => ?_)
  have hP : va_P z.1 classes [] H := hP
  have hD : va_D A [] := hD
  refine vx_catch hown [] ⟨0, 10, 13, 19⟩ [⟨0, 10, 17, 21⟩] (htab.trans rfl) (fun _ h9 => absurd h9 List.not_mem_nil) rfl (by decide) (hts _ w_849) (va_Nw.use rfl (hG.2.1 _ n_860 rfl)) h7 h8 h9 ?_
  refine lv_astore (lv' := [(4, .ref q0), (0, .ref a0), (1, .int x0), (2, .int x1), (3, .ref a1)]) hx hb d_L26_13 hl (by decide) rfl (fun ls hl => ?_)
  refine lv_iconst (v := 1) hx hb d_L26_15 (by decide +kernel) ?_
  refine W.widen (k := 1) (n := 6) (Nat.le_of_ble_eq_true rfl) (Nat.le_of_ble_eq_true rfl) ?_
  refine vx_ret ?_
  exact W.iret hx hb hr (fun t ht hW => qk hP hD hS [] rfl ((fun k => k), (fun _ _ => none)) rfl rfl rfl ht) hS.2.2 d_L26_16
set_option maxRecDepth 100000 in
set_option maxHeartbeats 4000000 in
theorem c446_BModel_votesFor (l : Launch) (z : Zz) (a0 a1 a2 a3 a4 a5 a6 a7 a8 a9 a10 a11 a12 a13 : Nat) (x0 : Int32) (x1 : Int32) (h0 : x1 < 0) : CT l z ⟨"BallothallModel", "votesFor", "(II)I"⟩ prog_14_method_68_code 3 (some .int) [.ref a0, .int x0, .int x1] [(a0, .inr (18, [.ref a1, .ref a2, .int 0, .ref a3, .int 0, .ref a4, .int 0, .null, .int 0, .null, .long 0, .int 0, .null])), (a1, .inr (17, [.int 0, .ref a5, .ref a6, .int 0, .ref a7, .ref a8, .ref a9, .null, .null, .int 0, .ref a10, .ref a11, .ref a12, .int 0, .ref a13, .int 1]))] 2 59 0 0 (fun u => some (.int 0)) (fun u => [(a0, .inr (18, [.ref a1, .ref a2, .int 0, .ref a3, .int 0, .ref a4, .int 1, .null, .int 0, .null, .long 0, .int 0, .null])), (a1, .inr (17, [.int 0, .ref a5, .ref a6, .int 0, .ref a7, .ref a8, .ref a9, .null, .null, .int 0, .ref a10, .ref a11, .ref a12, .int 0, .ref a13, .int 1]))]) := by
  refine CT.of (own := "BallothallModel") (by decide +kernel) (Nat.le_of_ble_eq_true rfl) rfl (fun p e s m below meth c A ls hx hb hml hr hts hown hlocks hin hA hG hZ hP hD hS hl => ?_)
  have hl : lv_has ls 3 [(0, .ref a0), (1, .int x0), (2, .int x1)] := hl
  refine lv_aload_n hx hb d_14_68_0 rfl (lv_at hl 0 rfl) ?_
  refine lv_aload_n hx hb d_14_68_1 rfl (lv_at hl 0 rfl) ?_
  refine lv_iload_n hx hb d_14_68_2 rfl (lv_at hl 2 rfl) ?_
  refine kV (As := [.int x1]) (rest := [.ref a0]) (wr := []) (c30_BModel_isCandidate l z a0 a1 a2 a3 a4 a5 a6 a7 a8 a9 a10 a11 a12 a13 x1 h0) hx hb hml hown hts w_1722 w_1719 w_1721 w_s_8d307b w_12 md_521241 ⟨Nat.le_of_ble_eq_true rfl, Nat.le_of_ble_eq_true rfl⟩ hG hZ hP hD hS hA 0 rfl rfl rfl [0, 1] [] rfl rfl rfl rfl rfl hl.1 rfl (Nat.le_of_ble_eq_true rfl) d_14_68_3 ⟨Nat.le_of_ble_eq_true rfl, Nat.le_of_ble_eq_true rfl⟩ (fun u0 H locs hP hD hS => ?_)
  have hP : va_P z.1 classes [(a0, .inr (18, [.ref a1, .ref a2, .int 0, .ref a3, .int 0, .ref a4, .int 0, .null, .int 0, .null, .long 0, .int 0, .null])), (a1, .inr (17, [.int 0, .ref a5, .ref a6, .int 0, .ref a7, .ref a8, .ref a9, .null, .null, .int 0, .ref a10, .ref a11, .ref a12, .int 0, .ref a13, .int 1]))] H := hP
  have hD : va_D A [(a0, .inr (18, [.ref a1, .ref a2, .int 0, .ref a3, .int 0, .ref a4, .int 0, .null, .int 0, .null, .long 0, .int 0, .null])), (a1, .inr (17, [.int 0, .ref a5, .ref a6, .int 0, .ref a7, .ref a8, .ref a9, .null, .null, .int 0, .ref a10, .ref a11, .ref a12, .int 0, .ref a13, .int 1]))] := hD
  refine W.eq (g2 := F0 m 6 ls [.int 0, .ref a0]) rfl ?_
  refine lv_iconst (v := 1) hx hb d_14_68_6 (by decide +kernel) ?_
  refine kV (As := [.int 0, .int 1]) (rest := []) (wr := [(a1, .inr (17, [.int 0, .ref a5, .ref a6, .int 0, .ref a7, .ref a8, .ref a9, .null, .null, .int 0, .ref a10, .ref a11, .ref a12, .int 0, .ref a13, .int 1]))]) (c31_BModel_ends l z a0 a1 a2 a3 a4) hx hb hml hown hts w_1696 w_1693 w_1695 w_s_f8f2b7 w_12 md_77b0f8 ⟨Nat.le_of_ble_eq_true rfl, Nat.le_of_ble_eq_true rfl⟩ hG hZ hP hD hS hA 0 rfl rfl rfl [0] [1] rfl rfl rfl rfl rfl hl.1 rfl (Nat.le_of_ble_eq_true rfl) d_14_68_7 ⟨Nat.le_of_ble_eq_true rfl, Nat.le_of_ble_eq_true rfl⟩ (fun u1 H locs hP hD hS => ?_)
  have hP : va_P z.1 classes [(a1, .inr (17, [.int 0, .ref a5, .ref a6, .int 0, .ref a7, .ref a8, .ref a9, .null, .null, .int 0, .ref a10, .ref a11, .ref a12, .int 0, .ref a13, .int 1])), (a0, .inr (18, [.ref a1, .ref a2, .int 0, .ref a3, .int 0, .ref a4, .int 1, .null, .int 0, .null, .long 0, .int 0, .null]))] H := hP
  have hD : va_D A [(a1, .inr (17, [.int 0, .ref a5, .ref a6, .int 0, .ref a7, .ref a8, .ref a9, .null, .null, .int 0, .ref a10, .ref a11, .ref a12, .int 0, .ref a13, .int 1])), (a0, .inr (18, [.ref a1, .ref a2, .int 0, .ref a3, .int 0, .ref a4, .int 1, .null, .int 0, .null, .long 0, .int 0, .null]))] := hD
  refine W.eq (g2 := F0 m 10 ls [.int 1]) rfl ?_
  refine lv_if_ne (tgt := 40) hx hb d_14_68_10 (by decide) (fun _ => ?_) (fun c9 => absurd c9 (by decide +kernel))
  refine lv_iconst (v := 0) hx hb d_14_68_40 (by decide +kernel) ?_
  refine lv_goto (tgt := 53) hx hb d_14_68_41 (by decide) ?_
  refine W.widen (k := 0) (n := 0) (Nat.le_of_ble_eq_true rfl) (Nat.le_of_ble_eq_true rfl) ?_
  exact W.iret hx hb hr (fun t ht hW => qk hP hD hS [1, 0] rfl ((fun k => k), (fun _ _ => none)) rfl rfl rfl ht) hS.2.2 d_14_68_53
set_option maxRecDepth 100000 in
set_option maxHeartbeats 4000000 in
theorem c447_B_votesFor (l : Launch) (z : Zz) (hl0 : l.stackTraces = false) (a0 a1 a2 a3 a4 a5 a6 a7 a8 a9 a10 a11 a12 a13 a14 a15 a16 a17 a18 : Nat) (x0 : Int32) (x1 : Int32) (h0 : ¬ x1 < 0) : XT l z ⟨"Ballothall", "votesFor", "(II)I"⟩ prog_1_method_33_code 3 (some .int) [.ref a0, .int x0, .int x1] [(a0, .inr (11, [.ref a1, .ref a2, .ref a3, .ref a4, .ref a5, .ref a6, .ref a7, .ref a8, .ref a9, .ref a10, .int 0, .int 0, .ref a11, .int 0])), (a1, .inr (0, [.ref a12, .int 0, .int 0, .int 0, .ref a13, .ref a14, .ref a15, .ref a16, .ref a17, .ref a18]))] 7 127 1 6 "java/lang/IndexOutOfBoundsException" := by
  refine XT.of (own := "Ballothall") (by decide +kernel) (Nat.le_of_ble_eq_true rfl) rfl (fun p e s m below meth c A ls hx hb hml hr hts hown hlocks hin hA hG hZ hP hD hS hl hnt => ?_)
  have hl : lv_has ls 3 [(0, .ref a0), (1, .int x0), (2, .int x1)] := hl
  refine lv_iload_n hx hb d_1_33_0 rfl (lv_at hl 2 rfl) ?_
  refine lv_aload_n hx hb d_1_33_1 rfl (lv_at hl 0 rfl) ?_
  refine va_get (D := z.1) (ci := 11) (v := .ref a1) (C := "Ballothall") (T := TX11) (N := 14) hx hb hts iX11 hown hG.1 hP 0 rfl rfl 0 (by decide) (hts _ w_406) (fun _ h9 => h9) rfl d_1_33_2 ?_
  refine va_getN (D := z.1) (ci := 0) (v := .int 0) (C := "Ballothall$BallotBox") (T := TX0) (N := 10) hx hb hts iX0 hown hG.1 hP 1 rfl rfl 2 (by decide) (va_Nw.use rfl (hG.2.1 _ n_57 rfl)) (fun _ h9 => h9) rfl d_1_33_5 ?_
  exact xS (As := [.int x1, .int 0]) (rest := []) (wr := [(a0, .inr (11, [.ref a1, .ref a2, .ref a3, .ref a4, .ref a5, .ref a6, .ref a7, .ref a8, .ref a9, .ref a10, .int 0, .int 0, .ref a11, .int 0])), (a1, .inr (0, [.ref a12, .int 0, .int 0, .int 0, .ref a13, .ref a14, .ref a15, .ref a16, .ref a17, .ref a18]))]) (c34_B_needIndex l z hl0 x1 h0) hx hb hml hown hts w_857 w_855 w_856 w_1 md_6cb26b ⟨Nat.le_of_ble_eq_true rfl, Nat.le_of_ble_eq_true rfl⟩ hG hZ hP hD hS hA [] [0, 1] rfl rfl rfl rfl rfl hl.1 rfl (Nat.le_of_ble_eq_true rfl) d_1_33_8 ⟨Nat.le_of_ble_eq_true rfl, Nat.le_of_ble_eq_true rfl⟩ (fun q9 ce9 H locs hP hD hS h7 h8 h9 => x_out hnt hlocks hS h7 h8 h9 (Nat.le_of_ble_eq_true rfl) (Nat.le_of_ble_eq_true rfl))
set_option maxRecDepth 100000 in
set_option maxHeartbeats 4000000 in
theorem c448_BLaw_votesFor (l : Launch) (z : Zz) (hl0 : l.stackTraces = false) (a0 a1 a2 a3 a4 a5 a6 a7 a8 a9 a10 a11 a12 a13 a14 a15 a16 a17 a18 a19 : Nat) (x0 : Int32) (x1 : Int32) (h0 : ¬ x1 < 0) : HT l z ⟨"BallothallLaw", "votesFor", "(LBallothall;II[J)I"⟩ method_26_code 5 (some .int) [(0, 10, 13, 19), (0, 10, 17, 21)] [.ref a0, .int x0, .int x1, .ref a1] [(a0, .inr (11, [.ref a2, .ref a3, .ref a4, .ref a5, .ref a6, .ref a7, .ref a8, .ref a9, .ref a10, .ref a11, .int 0, .int 0, .ref a12, .int 0])), (a2, .inr (0, [.ref a13, .int 0, .int 0, .int 0, .ref a14, .ref a15, .ref a16, .ref a17, .ref a18, .ref a19]))] 8 157 1 6 (fun u => some (.int 1)) (fun u => []) := by
  refine HT.of (own := "BallothallLaw") (by decide +kernel) (Nat.le_of_ble_eq_true rfl) rfl (fun p e s m below meth c A ls hx hb hml hr hts hown hlocks hin hA hG hZ hP hD hS hl htab => ?_)
  have hl : lv_has ls 5 [(0, .ref a0), (1, .int x0), (2, .int x1), (3, .ref a1)] := hl
  refine lv_aload_n hx hb d_L26_0 rfl (lv_at hl 3 rfl) ?_
  refine lv_iconst (v := 0) hx hb d_L26_1 (by decide +kernel) ?_
  refine lv_aload_n hx hb d_L26_2 rfl (lv_at hl 0 rfl) ?_
  refine lv_iload_n hx hb d_L26_3 rfl (lv_at hl 1 rfl) ?_
  refine lv_iload_n hx hb d_L26_4 rfl (lv_at hl 2 rfl) ?_
  refine xV (As := [.int x0, .int x1]) (rest := [.int 0, .ref a1]) (wr := []) (c447_B_votesFor l z hl0 a0 a2 a3 a4 a5 a6 a7 a8 a9 a10 a11 a12 a13 a14 a15 a16 a17 a18 a19 x0 x1 h0) hx hb hml hown hts w_1358 w_1355 w_1356 w_1357 w_1 md_eb71e6 ⟨Nat.le_of_ble_eq_true rfl, Nat.le_of_ble_eq_true rfl⟩ hG hZ hP hD hS hA 0 rfl rfl rfl [0, 1] [] rfl rfl rfl rfl rfl hl.1 rfl (Nat.le_of_ble_eq_true rfl) d_L26_5 ⟨Nat.le_of_ble_eq_true rfl, Nat.le_of_ble_eq_true rfl⟩ (fun q0 ce9 H locs hP hD hS h7 h8 h9 => ?_)
  have hP : va_P z.1 classes [] H := hP
  have hD : va_D A [] := hD
  refine vx_catch hown [] ⟨0, 10, 13, 19⟩ [⟨0, 10, 17, 21⟩] (htab.trans rfl) (fun _ h9 => absurd h9 List.not_mem_nil) rfl (by decide) (hts _ w_849) (va_Nw.use rfl (hG.2.1 _ n_860 rfl)) h7 h8 h9 ?_
  refine lv_astore (lv' := [(4, .ref q0), (0, .ref a0), (1, .int x0), (2, .int x1), (3, .ref a1)]) hx hb d_L26_13 hl (by decide) rfl (fun ls hl => ?_)
  refine lv_iconst (v := 1) hx hb d_L26_15 (by decide +kernel) ?_
  refine W.widen (k := 1) (n := 6) (Nat.le_of_ble_eq_true rfl) (Nat.le_of_ble_eq_true rfl) ?_
  refine vx_ret ?_
  exact W.iret hx hb hr (fun t ht hW => qk hP hD hS [] rfl ((fun k => k), (fun _ _ => none)) rfl rfl rfl ht) hS.2.2 d_L26_16
set_option maxRecDepth 100000 in
set_option maxHeartbeats 4000000 in
theorem c449_BModel_votesFor (l : Launch) (z : Zz) (a0 a1 a2 a3 a4 a5 a6 a7 a8 a9 a10 a11 a12 a13 : Nat) (x0 : Int32) (x1 : Int32) (h0 : ¬ x1 < 0) (h1 : (-1) < x1) : CT l z ⟨"BallothallModel", "votesFor", "(II)I"⟩ prog_14_method_68_code 3 (some .int) [.ref a0, .int x0, .int x1] [(a0, .inr (18, [.ref a1, .ref a2, .int 0, .ref a3, .int 0, .ref a4, .int 0, .null, .int 0, .null, .long 0, .int 0, .null])), (a1, .inr (17, [.int 0, .ref a5, .ref a6, .int 0, .ref a7, .ref a8, .ref a9, .null, .null, .int 0, .ref a10, .ref a11, .ref a12, .int 0, .ref a13, .int 1]))] 2 59 0 0 (fun u => some (.int 0)) (fun u => [(a0, .inr (18, [.ref a1, .ref a2, .int 0, .ref a3, .int 0, .ref a4, .int 1, .null, .int 0, .null, .long 0, .int 0, .null])), (a1, .inr (17, [.int 0, .ref a5, .ref a6, .int 0, .ref a7, .ref a8, .ref a9, .null, .null, .int 0, .ref a10, .ref a11, .ref a12, .int 0, .ref a13, .int 1]))]) := by
  refine CT.of (own := "BallothallModel") (by decide +kernel) (Nat.le_of_ble_eq_true rfl) rfl (fun p e s m below meth c A ls hx hb hml hr hts hown hlocks hin hA hG hZ hP hD hS hl => ?_)
  have hl : lv_has ls 3 [(0, .ref a0), (1, .int x0), (2, .int x1)] := hl
  refine lv_aload_n hx hb d_14_68_0 rfl (lv_at hl 0 rfl) ?_
  refine lv_aload_n hx hb d_14_68_1 rfl (lv_at hl 0 rfl) ?_
  refine lv_iload_n hx hb d_14_68_2 rfl (lv_at hl 2 rfl) ?_
  refine kV (As := [.int x1]) (rest := [.ref a0]) (wr := []) (c38_BModel_isCandidate l z a0 a1 a2 a3 a4 a5 a6 a7 a8 a9 a10 a11 a12 a13 x1 h0 h1) hx hb hml hown hts w_1722 w_1719 w_1721 w_s_8d307b w_12 md_521241 ⟨Nat.le_of_ble_eq_true rfl, Nat.le_of_ble_eq_true rfl⟩ hG hZ hP hD hS hA 0 rfl rfl rfl [0, 1] [] rfl rfl rfl rfl rfl hl.1 rfl (Nat.le_of_ble_eq_true rfl) d_14_68_3 ⟨Nat.le_of_ble_eq_true rfl, Nat.le_of_ble_eq_true rfl⟩ (fun u0 H locs hP hD hS => ?_)
  have hP : va_P z.1 classes [(a0, .inr (18, [.ref a1, .ref a2, .int 0, .ref a3, .int 0, .ref a4, .int 0, .null, .int 0, .null, .long 0, .int 0, .null])), (a1, .inr (17, [.int 0, .ref a5, .ref a6, .int 0, .ref a7, .ref a8, .ref a9, .null, .null, .int 0, .ref a10, .ref a11, .ref a12, .int 0, .ref a13, .int 1]))] H := hP
  have hD : va_D A [(a0, .inr (18, [.ref a1, .ref a2, .int 0, .ref a3, .int 0, .ref a4, .int 0, .null, .int 0, .null, .long 0, .int 0, .null])), (a1, .inr (17, [.int 0, .ref a5, .ref a6, .int 0, .ref a7, .ref a8, .ref a9, .null, .null, .int 0, .ref a10, .ref a11, .ref a12, .int 0, .ref a13, .int 1]))] := hD
  refine W.eq (g2 := F0 m 6 ls [.int 0, .ref a0]) rfl ?_
  refine lv_iconst (v := 1) hx hb d_14_68_6 (by decide +kernel) ?_
  refine kV (As := [.int 0, .int 1]) (rest := []) (wr := [(a1, .inr (17, [.int 0, .ref a5, .ref a6, .int 0, .ref a7, .ref a8, .ref a9, .null, .null, .int 0, .ref a10, .ref a11, .ref a12, .int 0, .ref a13, .int 1]))]) (c31_BModel_ends l z a0 a1 a2 a3 a4) hx hb hml hown hts w_1696 w_1693 w_1695 w_s_f8f2b7 w_12 md_77b0f8 ⟨Nat.le_of_ble_eq_true rfl, Nat.le_of_ble_eq_true rfl⟩ hG hZ hP hD hS hA 0 rfl rfl rfl [0] [1] rfl rfl rfl rfl rfl hl.1 rfl (Nat.le_of_ble_eq_true rfl) d_14_68_7 ⟨Nat.le_of_ble_eq_true rfl, Nat.le_of_ble_eq_true rfl⟩ (fun u1 H locs hP hD hS => ?_)
  have hP : va_P z.1 classes [(a1, .inr (17, [.int 0, .ref a5, .ref a6, .int 0, .ref a7, .ref a8, .ref a9, .null, .null, .int 0, .ref a10, .ref a11, .ref a12, .int 0, .ref a13, .int 1])), (a0, .inr (18, [.ref a1, .ref a2, .int 0, .ref a3, .int 0, .ref a4, .int 1, .null, .int 0, .null, .long 0, .int 0, .null]))] H := hP
  have hD : va_D A [(a1, .inr (17, [.int 0, .ref a5, .ref a6, .int 0, .ref a7, .ref a8, .ref a9, .null, .null, .int 0, .ref a10, .ref a11, .ref a12, .int 0, .ref a13, .int 1])), (a0, .inr (18, [.ref a1, .ref a2, .int 0, .ref a3, .int 0, .ref a4, .int 1, .null, .int 0, .null, .long 0, .int 0, .null]))] := hD
  refine W.eq (g2 := F0 m 10 ls [.int 1]) rfl ?_
  refine lv_if_ne (tgt := 40) hx hb d_14_68_10 (by decide) (fun _ => ?_) (fun c9 => absurd c9 (by decide +kernel))
  refine lv_iconst (v := 0) hx hb d_14_68_40 (by decide +kernel) ?_
  refine lv_goto (tgt := 53) hx hb d_14_68_41 (by decide) ?_
  refine W.widen (k := 0) (n := 0) (Nat.le_of_ble_eq_true rfl) (Nat.le_of_ble_eq_true rfl) ?_
  exact W.iret hx hb hr (fun t ht hW => qk hP hD hS [1, 0] rfl ((fun k => k), (fun _ _ => none)) rfl rfl rfl ht) hS.2.2 d_14_68_53
set_option maxRecDepth 100000 in
set_option maxHeartbeats 4000000 in
theorem c450_B_needPlace (l : Launch) (z : Zz) (hl0 : l.stackTraces = false) (x0 : Int32) (h0 : x0 < 0) : XT l z ⟨"Ballothall", "needPlace", "(II)V"⟩ prog_1_method_59_code 2 none [.int x0, .int (-1)] [] 6 98 1 6 "java/util/NoSuchElementException" := by
  refine XT.of (own := "Ballothall") (by decide +kernel) (Nat.le_of_ble_eq_true rfl) rfl (fun p e s m below meth c A ls hx hb hml hr hts hown hlocks hin hA hG hZ hP hD hS hl hnt => ?_)
  have hl : lv_has ls 2 [(0, .int x0), (1, .int (-1))] := hl
  refine lv_iload_n hx hb d_1_59_0 rfl (lv_at hl 0 rfl) ?_
  refine lv_if_lt (tgt := 9) hx hb d_1_59_1 (by decide) (fun _ => ?_) (fun c9 => absurd h0 c9)
  exact x_newNW (text := "there is nothing in this place") hl0 hx hb hml hown hts hlocks hnt hG hZ hS hl.1 (by decide +kernel) w_1083 w_26 (by decide) d_ns_0 d_ns_1 d_ns_2 d_ns_5 xa_206_a xa_206_b d_1_59_9 d_1_59_12 d_1_59_13 d_1_59_16 d_1_59_19 ⟨Nat.le_of_ble_eq_true rfl, Nat.le_of_ble_eq_true rfl, Nat.le_of_ble_eq_true rfl, Nat.le_of_ble_eq_true rfl⟩ (Nat.le_of_ble_eq_true rfl) (Nat.le_of_ble_eq_true rfl) (Nat.le_of_ble_eq_true rfl)
set_option maxRecDepth 100000 in
set_option maxHeartbeats 4000000 in
theorem c451_B_runoffOut (l : Launch) (z : Zz) (hl0 : l.stackTraces = false) (a0 a1 a2 a3 a4 a5 a6 a7 a8 a9 a10 a11 a12 a13 a14 a15 a16 a17 a18 : Nat) (x0 : Int32) (h0 : x0 < 0) : XT l z ⟨"Ballothall", "runoffOut", "(I)I"⟩ prog_1_method_34_code 2 (some .int) [.ref a0, .int x0] [(a0, .inr (11, [.ref a1, .ref a2, .ref a3, .ref a4, .ref a5, .ref a6, .ref a7, .ref a8, .ref a9, .ref a10, .int 0, .int 0, .ref a11, .int 0])), (a1, .inr (0, [.ref a12, .int 0, .int 0, .int 0, .ref a13, .ref a14, .ref a15, .ref a16, .ref a17, .ref a18]))] 7 127 1 6 "java/util/NoSuchElementException" := by
  refine XT.of (own := "Ballothall") (by decide +kernel) (Nat.le_of_ble_eq_true rfl) rfl (fun p e s m below meth c A ls hx hb hml hr hts hown hlocks hin hA hG hZ hP hD hS hl hnt => ?_)
  have hl : lv_has ls 2 [(0, .ref a0), (1, .int x0)] := hl
  refine lv_iload_n hx hb d_1_34_0 rfl (lv_at hl 1 rfl) ?_
  refine lv_aload_n hx hb d_1_34_1 rfl (lv_at hl 0 rfl) ?_
  refine va_get (D := z.1) (ci := 11) (v := .ref a1) (C := "Ballothall") (T := TX11) (N := 14) hx hb hts iX11 hown hG.1 hP 0 rfl rfl 0 (by decide) (hts _ w_406) (fun _ h9 => h9) rfl d_1_34_2 ?_
  refine va_getN (D := z.1) (ci := 0) (v := .int 0) (C := "Ballothall$BallotBox") (T := TX0) (N := 10) hx hb hts iX0 hown hG.1 hP 1 rfl rfl 2 (by decide) (va_Nw.use rfl (hG.2.1 _ n_57 rfl)) (fun _ h9 => h9) rfl d_1_34_5 ?_
  refine lv_iconst (v := 1) hx hb d_1_34_8 (by decide +kernel) ?_
  refine lv_isub hx hb d_1_34_9 ?_
  refine nrm (x1 := (-1)) (by decide +kernel) ?_
  exact xS (As := [.int x0, .int (-1)]) (rest := []) (wr := [(a0, .inr (11, [.ref a1, .ref a2, .ref a3, .ref a4, .ref a5, .ref a6, .ref a7, .ref a8, .ref a9, .ref a10, .int 0, .int 0, .ref a11, .int 0])), (a1, .inr (0, [.ref a12, .int 0, .int 0, .int 0, .ref a13, .ref a14, .ref a15, .ref a16, .ref a17, .ref a18]))]) (c450_B_needPlace l z hl0 x0 h0) hx hb hml hown hts w_1082 w_1080 w_1081 w_1 md_541664 ⟨Nat.le_of_ble_eq_true rfl, Nat.le_of_ble_eq_true rfl⟩ hG hZ hP hD hS hA [] [0, 1] rfl rfl rfl rfl rfl hl.1 rfl (Nat.le_of_ble_eq_true rfl) d_1_34_10 ⟨Nat.le_of_ble_eq_true rfl, Nat.le_of_ble_eq_true rfl⟩ (fun q9 ce9 H locs hP hD hS h7 h8 h9 => x_out hnt hlocks hS h7 h8 h9 (Nat.le_of_ble_eq_true rfl) (Nat.le_of_ble_eq_true rfl))
set_option maxRecDepth 100000 in
set_option maxHeartbeats 4000000 in
theorem c452_BLaw_runoffOut (l : Launch) (z : Zz) (hl0 : l.stackTraces = false) (a0 a1 a2 a3 a4 a5 a6 a7 a8 a9 a10 a11 a12 a13 a14 a15 a16 a17 a18 a19 : Nat) (x0 : Int32) (h0 : x0 < 0) : HT l z ⟨"BallothallLaw", "runoffOut", "(LBallothall;I[J)I"⟩ method_27_code 4 (some .int) [(0, 9, 12, 61)] [.ref a0, .int x0, .ref a1] [(a0, .inr (11, [.ref a2, .ref a3, .ref a4, .ref a5, .ref a6, .ref a7, .ref a8, .ref a9, .ref a10, .ref a11, .int 0, .int 0, .ref a12, .int 0])), (a2, .inr (0, [.ref a13, .int 0, .int 0, .int 0, .ref a14, .ref a15, .ref a16, .ref a17, .ref a18, .ref a19]))] 8 156 1 6 (fun u => some (.int 1)) (fun u => []) := by
  refine HT.of (own := "BallothallLaw") (by decide +kernel) (Nat.le_of_ble_eq_true rfl) rfl (fun p e s m below meth c A ls hx hb hml hr hts hown hlocks hin hA hG hZ hP hD hS hl htab => ?_)
  have hl : lv_has ls 4 [(0, .ref a0), (1, .int x0), (2, .ref a1)] := hl
  refine lv_aload_n hx hb d_L27_0 rfl (lv_at hl 2 rfl) ?_
  refine lv_iconst (v := 0) hx hb d_L27_1 (by decide +kernel) ?_
  refine lv_aload_n hx hb d_L27_2 rfl (lv_at hl 0 rfl) ?_
  refine lv_iload_n hx hb d_L27_3 rfl (lv_at hl 1 rfl) ?_
  refine xV (As := [.int x0]) (rest := [.int 0, .ref a1]) (wr := []) (c451_B_runoffOut l z hl0 a0 a2 a3 a4 a5 a6 a7 a8 a9 a10 a11 a12 a13 a14 a15 a16 a17 a18 a19 x0 h0) hx hb hml hown hts w_1367 w_1364 w_1365 w_1366 w_1 md_da1af9 ⟨Nat.le_of_ble_eq_true rfl, Nat.le_of_ble_eq_true rfl⟩ hG hZ hP hD hS hA 0 rfl rfl rfl [0, 1] [] rfl rfl rfl rfl rfl hl.1 rfl (Nat.le_of_ble_eq_true rfl) d_L27_4 ⟨Nat.le_of_ble_eq_true rfl, Nat.le_of_ble_eq_true rfl⟩ (fun q0 ce9 H locs hP hD hS h7 h8 h9 => ?_)
  have hP : va_P z.1 classes [] H := hP
  have hD : va_D A [] := hD
  refine vx_catch hown [] ⟨0, 9, 12, 61⟩ [] (htab.trans rfl) (fun _ h9 => absurd h9 List.not_mem_nil) rfl (by decide) (hts _ w_1075) (va_Nw.use rfl (hG.2.1 _ n_1085 rfl)) h7 h8 h9 ?_
  refine lv_astore_n (lv' := [(3, .ref q0), (0, .ref a0), (1, .int x0), (2, .ref a1)]) hx hb d_L27_12 rfl hl (by decide) rfl (fun ls hl => ?_)
  refine lv_iconst (v := 1) hx hb d_L27_13 (by decide +kernel) ?_
  refine W.widen (k := 1) (n := 6) (Nat.le_of_ble_eq_true rfl) (Nat.le_of_ble_eq_true rfl) ?_
  refine vx_ret ?_
  exact W.iret hx hb hr (fun t ht hW => qk hP hD hS [] rfl ((fun k => k), (fun _ _ => none)) rfl rfl rfl ht) hS.2.2 d_L27_14
set_option maxRecDepth 100000 in
set_option maxHeartbeats 4000000 in
theorem c453_Poll_winner (l : Launch) (z : Zz) (a0 a1 a2 a3 a4 : Nat) : CT l z ⟨"BallothallModel$Poll", "winner", "(I)I"⟩ prog_17_method_11_code 2 (some .int) [.ref a0, .int 1] [(a0, .inr (14, [.ref a1, .int 0, .ref a2, .ref a3, .int 0, .ref a4, .null]))] 2 65 0 0 (fun u => some (.int (-1))) (fun u => [(a0, .inr (14, [.ref a1, .int 0, .ref a2, .ref a3, .int 0, .ref a4, .null]))]) := by
  refine CT.of (own := "BallothallModel$Poll") (by decide +kernel) (Nat.le_of_ble_eq_true rfl) rfl (fun p e s m below meth c A ls hx hb hml hr hts hown hlocks hin hA hG hZ hP hD hS hl => ?_)
  have hl : lv_has ls 2 [(0, .ref a0), (1, .int 1)] := hl
  refine lv_iload_n hx hb d_17_11_0 rfl (lv_at hl 1 rfl) ?_
  refine lv_iconst (v := 1) hx hb d_17_11_1 (by decide +kernel) ?_
  refine lv_icmp_ne (tgt := 12) hx hb d_17_11_2 (by decide) (fun c9 => absurd (by decide +kernel) c9) (fun _ => ?_)
  refine lv_aload_n hx hb d_17_11_5 rfl (lv_at hl 0 rfl) ?_
  refine kV (As := []) (rest := []) (wr := []) (c428_Poll_runoff l z a0 a1 a2 a3 a4) hx hb hml hown hts w_2346 w_2343 w_2345 w_s_6438d0 w_36 md_a57c43 ⟨Nat.le_of_ble_eq_true rfl, Nat.le_of_ble_eq_true rfl⟩ hG hZ hP hD hS hA 0 rfl rfl rfl [0] [] rfl rfl rfl rfl rfl hl.1 rfl (Nat.le_of_ble_eq_true rfl) d_17_11_6 ⟨Nat.le_of_ble_eq_true rfl, Nat.le_of_ble_eq_true rfl⟩ (fun u0 H locs hP hD hS => ?_)
  have hP : va_P z.1 classes [(a0, .inr (14, [.ref a1, .int 0, .ref a2, .ref a3, .int 0, .ref a4, .null]))] H := hP
  have hD : va_D A [(a0, .inr (14, [.ref a1, .int 0, .ref a2, .ref a3, .int 0, .ref a4, .null]))] := hD
  refine W.eq (g2 := F0 m 9 ls [.int (-1)]) rfl ?_
  refine lv_goto (tgt := 33) hx hb d_17_11_9 (by decide) ?_
  refine W.widen (k := 0) (n := 0) (Nat.le_of_ble_eq_true rfl) (Nat.le_of_ble_eq_true rfl) ?_
  exact W.iret hx hb hr (fun t ht hW => qk hP hD hS [0] rfl ((fun k => k), (fun _ _ => none)) rfl rfl rfl ht) hS.2.2 d_17_11_33
set_option maxRecDepth 100000 in
set_option maxHeartbeats 4000000 in
theorem c454_BModel_runoffOut (l : Launch) (z : Zz) (a0 a1 a2 a3 a4 a5 a6 a7 a8 a9 a10 a11 a12 a13 : Nat) (x0 : Int32) (h0 : x0 < 0) : CT l z ⟨"BallothallModel", "runoffOut", "(I)I"⟩ prog_14_method_69_code 4 (some .int) [.ref a0, .int x0] [(a0, .inr (18, [.ref a1, .ref a2, .int 0, .ref a3, .int 0, .ref a4, .int 0, .null, .int 0, .null, .long 0, .int 0, .null])), (a1, .inr (17, [.int 0, .ref a5, .ref a6, .int 0, .ref a7, .ref a8, .ref a9, .null, .null, .int 0, .ref a10, .ref a11, .ref a12, .int 0, .ref a13, .int 1]))] 3 94 3 23 (fun u => some (.int 0)) (fun u => [(a0, .inr (18, [.ref a1, .ref a2, .int 0, .ref a3, .int 0, .ref a4, .int 1, .null, .int 0, .null, .long 0, .int 0, .null])), (a1, .inr (17, [.int 0, .ref a5, .ref a6, .int 0, .ref a7, .ref a8, .ref a9, .null, .null, .int 0, .ref a10, .ref a11, .ref a12, .int 0, .ref a13, .int 1]))]) := by
  refine CT.of (own := "BallothallModel") (by decide +kernel) (Nat.le_of_ble_eq_true rfl) rfl (fun p e s m below meth c A ls hx hb hml hr hts hown hlocks hin hA hG hZ hP hD hS hl => ?_)
  have hl : lv_has ls 4 [(0, .ref a0), (1, .int x0)] := hl
  refine lv_aload_n hx hb d_14_69_0 rfl (lv_at hl 0 rfl) ?_
  refine kV (As := []) (rest := []) (wr := []) (c301_BModel_poll l z a0 a1 a2 a3 a4 a5 a6 a7 a8 a9 a10 a11 a12 a13) hx hb hml hown hts w_2246 w_2243 w_2245 w_s_14a2f1 w_12 md_55febb ⟨Nat.le_of_ble_eq_true rfl, Nat.le_of_ble_eq_true rfl⟩ hG hZ hP hD hS hA 0 rfl rfl rfl [0, 1] [] rfl rfl rfl rfl rfl hl.1 rfl (Nat.le_of_ble_eq_true rfl) d_14_69_1 ⟨Nat.le_of_ble_eq_true rfl, Nat.le_of_ble_eq_true rfl⟩ (fun u0 H locs hP hD hS => ?_)
  have hP : va_P z.1 classes [(a0, .inr (18, [.ref a1, .ref a2, .int 0, .ref a3, .int 0, .ref a4, .int 0, .null, .int 0, .null, .long 0, .int 0, .null])), (a1, .inr (17, [.int 0, .ref a5, .ref a6, .int 0, .ref a7, .ref a8, .ref a9, .null, .null, .int 0, .ref a10, .ref a11, .ref a12, .int 0, .ref a13, .int 1])), ((u0.1 0), .inr (14, [.ref a6, .int 0, .ref a5, .ref (u0.1 1), .int 0, .ref (u0.1 2), .null]))] H := hP
  have hD : va_D A [(a0, .inr (18, [.ref a1, .ref a2, .int 0, .ref a3, .int 0, .ref a4, .int 0, .null, .int 0, .null, .long 0, .int 0, .null])), (a1, .inr (17, [.int 0, .ref a5, .ref a6, .int 0, .ref a7, .ref a8, .ref a9, .null, .null, .int 0, .ref a10, .ref a11, .ref a12, .int 0, .ref a13, .int 1])), ((u0.1 0), .inr (14, [.ref a6, .int 0, .ref a5, .ref (u0.1 1), .int 0, .ref (u0.1 2), .null]))] := hD
  refine W.eq (g2 := F0 m 4 ls [.ref (u0.1 0)]) rfl ?_
  refine lv_astore_n (lv' := [(2, .ref (u0.1 0)), (0, .ref a0), (1, .int x0)]) hx hb d_14_69_4 rfl hl (by decide) rfl (fun ls hl => ?_)
  refine lv_aload_n hx hb d_14_69_5 rfl (lv_at hl 0 rfl) ?_
  refine lv_iconst (v := 1) hx hb d_14_69_6 (by decide +kernel) ?_
  refine kV (As := [.int 1]) (rest := []) (wr := [(a0, .inr (18, [.ref a1, .ref a2, .int 0, .ref a3, .int 0, .ref a4, .int 0, .null, .int 0, .null, .long 0, .int 0, .null])), (a1, .inr (17, [.int 0, .ref a5, .ref a6, .int 0, .ref a7, .ref a8, .ref a9, .null, .null, .int 0, .ref a10, .ref a11, .ref a12, .int 0, .ref a13, .int 1]))]) (c453_Poll_winner l z (u0.1 0) a6 a5 (u0.1 1) (u0.1 2)) hx hb hml hown hts w_2342 w_2339 w_2340 w_2341 w_36 md_ba59c7 ⟨Nat.le_of_ble_eq_true rfl, Nat.le_of_ble_eq_true rfl⟩ hG hZ hP hD hS hA 2 rfl rfl rfl [2] [0, 1] rfl rfl rfl rfl rfl hl.1 rfl (Nat.le_of_ble_eq_true rfl) d_14_69_7 ⟨Nat.le_of_ble_eq_true rfl, Nat.le_of_ble_eq_true rfl⟩ (fun u1 H locs hP hD hS => ?_)
  have hP : va_P z.1 classes [(a0, .inr (18, [.ref a1, .ref a2, .int 0, .ref a3, .int 0, .ref a4, .int 0, .null, .int 0, .null, .long 0, .int 0, .null])), (a1, .inr (17, [.int 0, .ref a5, .ref a6, .int 0, .ref a7, .ref a8, .ref a9, .null, .null, .int 0, .ref a10, .ref a11, .ref a12, .int 0, .ref a13, .int 1])), ((u0.1 0), .inr (14, [.ref a6, .int 0, .ref a5, .ref (u0.1 1), .int 0, .ref (u0.1 2), .null]))] H := hP
  have hD : va_D A [(a0, .inr (18, [.ref a1, .ref a2, .int 0, .ref a3, .int 0, .ref a4, .int 0, .null, .int 0, .null, .long 0, .int 0, .null])), (a1, .inr (17, [.int 0, .ref a5, .ref a6, .int 0, .ref a7, .ref a8, .ref a9, .null, .null, .int 0, .ref a10, .ref a11, .ref a12, .int 0, .ref a13, .int 1])), ((u0.1 0), .inr (14, [.ref a6, .int 0, .ref a5, .ref (u0.1 1), .int 0, .ref (u0.1 2), .null]))] := hD
  refine W.eq (g2 := F0 m 10 ls [.int (-1)]) rfl ?_
  refine lv_istore_n (lv' := [(3, .int (-1)), (2, .ref (u0.1 0)), (0, .ref a0), (1, .int x0)]) hx hb d_14_69_10 rfl hl (by decide) rfl (fun ls hl => ?_)
  refine lv_aload_n hx hb d_14_69_11 rfl (lv_at hl 2 rfl) ?_
  refine lv_iload_n hx hb d_14_69_12 rfl (lv_at hl 3 rfl) ?_
  refine lv_iconst (v := 0) hx hb d_14_69_13 (by decide +kernel) ?_
  refine lv_aload_n hx hb d_14_69_14 rfl (lv_at hl 1 rfl) ?_
  refine va_getN (D := z.1) (ci := 14) (v := .int 0) (C := "BallothallModel$Poll") (T := TX14) (N := 7) hx hb hts iX14 hown hG.1 hP 2 rfl rfl 4 (by decide) (va_Nw.use rfl (hG.2.1 _ n_2260 rfl)) (fun _ h9 => h9) rfl d_14_69_15 ?_
  refine lv_iconst (v := 1) hx hb d_14_69_18 (by decide +kernel) ?_
  refine lv_isub hx hb d_14_69_19 ?_
  refine nrm (x1 := (-1)) (by decide +kernel) ?_
  refine kS (As := [.int x0, .int 0, .int (-1)]) (rest := [.ref a0]) (wr := [(a0, .inr (18, [.ref a1, .ref a2, .int 0, .ref a3, .int 0, .ref a4, .int 0, .null, .int 0, .null, .long 0, .int 0, .null])), (a1, .inr (17, [.int 0, .ref a5, .ref a6, .int 0, .ref a7, .ref a8, .ref a9, .null, .null, .int 0, .ref a10, .ref a11, .ref a12, .int 0, .ref a13, .int 1])), ((u0.1 0), .inr (14, [.ref a6, .int 0, .ref a5, .ref (u0.1 1), .int 0, .ref (u0.1 2), .null]))]) (c29_BModel_isIn l z x0 h0) hx hb hml hown hts w_1718 w_1716 w_1717 w_12 md_bca45c ⟨Nat.le_of_ble_eq_true rfl, Nat.le_of_ble_eq_true rfl⟩ hG hZ hP hD hS hA [] [0, 1, 2] rfl rfl rfl rfl rfl hl.1 rfl (Nat.le_of_ble_eq_true rfl) d_14_69_20 ⟨Nat.le_of_ble_eq_true rfl, Nat.le_of_ble_eq_true rfl⟩ (fun u2 H locs hP hD hS => ?_)
  have hP : va_P z.1 classes [(a0, .inr (18, [.ref a1, .ref a2, .int 0, .ref a3, .int 0, .ref a4, .int 0, .null, .int 0, .null, .long 0, .int 0, .null])), (a1, .inr (17, [.int 0, .ref a5, .ref a6, .int 0, .ref a7, .ref a8, .ref a9, .null, .null, .int 0, .ref a10, .ref a11, .ref a12, .int 0, .ref a13, .int 1])), ((u0.1 0), .inr (14, [.ref a6, .int 0, .ref a5, .ref (u0.1 1), .int 0, .ref (u0.1 2), .null]))] H := hP
  have hD : va_D A [(a0, .inr (18, [.ref a1, .ref a2, .int 0, .ref a3, .int 0, .ref a4, .int 0, .null, .int 0, .null, .long 0, .int 0, .null])), (a1, .inr (17, [.int 0, .ref a5, .ref a6, .int 0, .ref a7, .ref a8, .ref a9, .null, .null, .int 0, .ref a10, .ref a11, .ref a12, .int 0, .ref a13, .int 1])), ((u0.1 0), .inr (14, [.ref a6, .int 0, .ref a5, .ref (u0.1 1), .int 0, .ref (u0.1 2), .null]))] := hD
  refine W.eq (g2 := F0 m 23 ls [.int 0, .ref a0]) rfl ?_
  refine lv_iconst (v := 1) hx hb d_14_69_23 (by decide +kernel) ?_
  refine kV (As := [.int 0, .int 1]) (rest := []) (wr := [(a1, .inr (17, [.int 0, .ref a5, .ref a6, .int 0, .ref a7, .ref a8, .ref a9, .null, .null, .int 0, .ref a10, .ref a11, .ref a12, .int 0, .ref a13, .int 1])), ((u0.1 0), .inr (14, [.ref a6, .int 0, .ref a5, .ref (u0.1 1), .int 0, .ref (u0.1 2), .null]))]) (c31_BModel_ends l z a0 a1 a2 a3 a4) hx hb hml hown hts w_1696 w_1693 w_1695 w_s_f8f2b7 w_12 md_77b0f8 ⟨Nat.le_of_ble_eq_true rfl, Nat.le_of_ble_eq_true rfl⟩ hG hZ hP hD hS hA 0 rfl rfl rfl [0] [1, 2] rfl rfl rfl rfl rfl hl.1 rfl (Nat.le_of_ble_eq_true rfl) d_14_69_24 ⟨Nat.le_of_ble_eq_true rfl, Nat.le_of_ble_eq_true rfl⟩ (fun u3 H locs hP hD hS => ?_)
  have hP : va_P z.1 classes [(a1, .inr (17, [.int 0, .ref a5, .ref a6, .int 0, .ref a7, .ref a8, .ref a9, .null, .null, .int 0, .ref a10, .ref a11, .ref a12, .int 0, .ref a13, .int 1])), ((u0.1 0), .inr (14, [.ref a6, .int 0, .ref a5, .ref (u0.1 1), .int 0, .ref (u0.1 2), .null])), (a0, .inr (18, [.ref a1, .ref a2, .int 0, .ref a3, .int 0, .ref a4, .int 1, .null, .int 0, .null, .long 0, .int 0, .null]))] H := hP
  have hD : va_D A [(a1, .inr (17, [.int 0, .ref a5, .ref a6, .int 0, .ref a7, .ref a8, .ref a9, .null, .null, .int 0, .ref a10, .ref a11, .ref a12, .int 0, .ref a13, .int 1])), ((u0.1 0), .inr (14, [.ref a6, .int 0, .ref a5, .ref (u0.1 1), .int 0, .ref (u0.1 2), .null])), (a0, .inr (18, [.ref a1, .ref a2, .int 0, .ref a3, .int 0, .ref a4, .int 1, .null, .int 0, .null, .long 0, .int 0, .null]))] := hD
  refine W.eq (g2 := F0 m 27 ls [.int 1]) rfl ?_
  refine lv_if_eq (tgt := 34) hx hb d_14_69_27 (by decide) (fun c9 => absurd c9 (by decide +kernel)) (fun _ => ?_)
  refine lv_iconst (v := 0) hx hb d_14_69_30 (by decide +kernel) ?_
  refine lv_goto (tgt := 40) hx hb d_14_69_31 (by decide) ?_
  refine W.widen (k := 3) (n := 23) (Nat.le_of_ble_eq_true rfl) (Nat.le_of_ble_eq_true rfl) ?_
  exact W.iret hx hb hr (fun t ht hW => qk hP hD hS [2, 0] rfl ((fun k => k), (fun _ _ => none)) rfl rfl rfl ht) hS.2.2 d_14_69_40
set_option maxRecDepth 100000 in
set_option maxHeartbeats 4000000 in
theorem c455_B_needPlace (l : Launch) (z : Zz) (hl0 : l.stackTraces = false) (x0 : Int32) (h0 : ¬ x0 < 0) (h1 : ¬ x0 < (-1)) : XT l z ⟨"Ballothall", "needPlace", "(II)V"⟩ prog_1_method_59_code 2 none [.int x0, .int (-1)] [] 6 98 1 6 "java/util/NoSuchElementException" := by
  refine XT.of (own := "Ballothall") (by decide +kernel) (Nat.le_of_ble_eq_true rfl) rfl (fun p e s m below meth c A ls hx hb hml hr hts hown hlocks hin hA hG hZ hP hD hS hl hnt => ?_)
  have hl : lv_has ls 2 [(0, .int x0), (1, .int (-1))] := hl
  refine lv_iload_n hx hb d_1_59_0 rfl (lv_at hl 0 rfl) ?_
  refine lv_if_lt (tgt := 9) hx hb d_1_59_1 (by decide) (fun c9 => absurd c9 h0) (fun _ => ?_)
  refine lv_iload_n hx hb d_1_59_4 rfl (lv_at hl 0 rfl) ?_
  refine lv_iload_n hx hb d_1_59_5 rfl (lv_at hl 1 rfl) ?_
  refine lv_icmp_lt (tgt := 20) hx hb d_1_59_6 (by decide) (fun c9 => absurd c9 h1) (fun _ => ?_)
  exact x_newNW (text := "there is nothing in this place") hl0 hx hb hml hown hts hlocks hnt hG hZ hS hl.1 (by decide +kernel) w_1083 w_26 (by decide) d_ns_0 d_ns_1 d_ns_2 d_ns_5 xa_206_a xa_206_b d_1_59_9 d_1_59_12 d_1_59_13 d_1_59_16 d_1_59_19 ⟨Nat.le_of_ble_eq_true rfl, Nat.le_of_ble_eq_true rfl, Nat.le_of_ble_eq_true rfl, Nat.le_of_ble_eq_true rfl⟩ (Nat.le_of_ble_eq_true rfl) (Nat.le_of_ble_eq_true rfl) (Nat.le_of_ble_eq_true rfl)
set_option maxRecDepth 100000 in
set_option maxHeartbeats 4000000 in
theorem c456_B_runoffOut (l : Launch) (z : Zz) (hl0 : l.stackTraces = false) (a0 a1 a2 a3 a4 a5 a6 a7 a8 a9 a10 a11 a12 a13 a14 a15 a16 a17 a18 : Nat) (x0 : Int32) (h0 : ¬ x0 < 0) (h1 : ¬ x0 < (-1)) : XT l z ⟨"Ballothall", "runoffOut", "(I)I"⟩ prog_1_method_34_code 2 (some .int) [.ref a0, .int x0] [(a0, .inr (11, [.ref a1, .ref a2, .ref a3, .ref a4, .ref a5, .ref a6, .ref a7, .ref a8, .ref a9, .ref a10, .int 0, .int 0, .ref a11, .int 0])), (a1, .inr (0, [.ref a12, .int 0, .int 0, .int 0, .ref a13, .ref a14, .ref a15, .ref a16, .ref a17, .ref a18]))] 7 127 1 6 "java/util/NoSuchElementException" := by
  refine XT.of (own := "Ballothall") (by decide +kernel) (Nat.le_of_ble_eq_true rfl) rfl (fun p e s m below meth c A ls hx hb hml hr hts hown hlocks hin hA hG hZ hP hD hS hl hnt => ?_)
  have hl : lv_has ls 2 [(0, .ref a0), (1, .int x0)] := hl
  refine lv_iload_n hx hb d_1_34_0 rfl (lv_at hl 1 rfl) ?_
  refine lv_aload_n hx hb d_1_34_1 rfl (lv_at hl 0 rfl) ?_
  refine va_get (D := z.1) (ci := 11) (v := .ref a1) (C := "Ballothall") (T := TX11) (N := 14) hx hb hts iX11 hown hG.1 hP 0 rfl rfl 0 (by decide) (hts _ w_406) (fun _ h9 => h9) rfl d_1_34_2 ?_
  refine va_getN (D := z.1) (ci := 0) (v := .int 0) (C := "Ballothall$BallotBox") (T := TX0) (N := 10) hx hb hts iX0 hown hG.1 hP 1 rfl rfl 2 (by decide) (va_Nw.use rfl (hG.2.1 _ n_57 rfl)) (fun _ h9 => h9) rfl d_1_34_5 ?_
  refine lv_iconst (v := 1) hx hb d_1_34_8 (by decide +kernel) ?_
  refine lv_isub hx hb d_1_34_9 ?_
  refine nrm (x1 := (-1)) (by decide +kernel) ?_
  exact xS (As := [.int x0, .int (-1)]) (rest := []) (wr := [(a0, .inr (11, [.ref a1, .ref a2, .ref a3, .ref a4, .ref a5, .ref a6, .ref a7, .ref a8, .ref a9, .ref a10, .int 0, .int 0, .ref a11, .int 0])), (a1, .inr (0, [.ref a12, .int 0, .int 0, .int 0, .ref a13, .ref a14, .ref a15, .ref a16, .ref a17, .ref a18]))]) (c455_B_needPlace l z hl0 x0 h0 h1) hx hb hml hown hts w_1082 w_1080 w_1081 w_1 md_541664 ⟨Nat.le_of_ble_eq_true rfl, Nat.le_of_ble_eq_true rfl⟩ hG hZ hP hD hS hA [] [0, 1] rfl rfl rfl rfl rfl hl.1 rfl (Nat.le_of_ble_eq_true rfl) d_1_34_10 ⟨Nat.le_of_ble_eq_true rfl, Nat.le_of_ble_eq_true rfl⟩ (fun q9 ce9 H locs hP hD hS h7 h8 h9 => x_out hnt hlocks hS h7 h8 h9 (Nat.le_of_ble_eq_true rfl) (Nat.le_of_ble_eq_true rfl))
set_option maxRecDepth 100000 in
set_option maxHeartbeats 4000000 in
theorem c457_BLaw_runoffOut (l : Launch) (z : Zz) (hl0 : l.stackTraces = false) (a0 a1 a2 a3 a4 a5 a6 a7 a8 a9 a10 a11 a12 a13 a14 a15 a16 a17 a18 a19 : Nat) (x0 : Int32) (h0 : ¬ x0 < 0) (h1 : ¬ x0 < (-1)) : HT l z ⟨"BallothallLaw", "runoffOut", "(LBallothall;I[J)I"⟩ method_27_code 4 (some .int) [(0, 9, 12, 61)] [.ref a0, .int x0, .ref a1] [(a0, .inr (11, [.ref a2, .ref a3, .ref a4, .ref a5, .ref a6, .ref a7, .ref a8, .ref a9, .ref a10, .ref a11, .int 0, .int 0, .ref a12, .int 0])), (a2, .inr (0, [.ref a13, .int 0, .int 0, .int 0, .ref a14, .ref a15, .ref a16, .ref a17, .ref a18, .ref a19]))] 8 156 1 6 (fun u => some (.int 1)) (fun u => []) := by
  refine HT.of (own := "BallothallLaw") (by decide +kernel) (Nat.le_of_ble_eq_true rfl) rfl (fun p e s m below meth c A ls hx hb hml hr hts hown hlocks hin hA hG hZ hP hD hS hl htab => ?_)
  have hl : lv_has ls 4 [(0, .ref a0), (1, .int x0), (2, .ref a1)] := hl
  refine lv_aload_n hx hb d_L27_0 rfl (lv_at hl 2 rfl) ?_
  refine lv_iconst (v := 0) hx hb d_L27_1 (by decide +kernel) ?_
  refine lv_aload_n hx hb d_L27_2 rfl (lv_at hl 0 rfl) ?_
  refine lv_iload_n hx hb d_L27_3 rfl (lv_at hl 1 rfl) ?_
  refine xV (As := [.int x0]) (rest := [.int 0, .ref a1]) (wr := []) (c456_B_runoffOut l z hl0 a0 a2 a3 a4 a5 a6 a7 a8 a9 a10 a11 a12 a13 a14 a15 a16 a17 a18 a19 x0 h0 h1) hx hb hml hown hts w_1367 w_1364 w_1365 w_1366 w_1 md_da1af9 ⟨Nat.le_of_ble_eq_true rfl, Nat.le_of_ble_eq_true rfl⟩ hG hZ hP hD hS hA 0 rfl rfl rfl [0, 1] [] rfl rfl rfl rfl rfl hl.1 rfl (Nat.le_of_ble_eq_true rfl) d_L27_4 ⟨Nat.le_of_ble_eq_true rfl, Nat.le_of_ble_eq_true rfl⟩ (fun q0 ce9 H locs hP hD hS h7 h8 h9 => ?_)
  have hP : va_P z.1 classes [] H := hP
  have hD : va_D A [] := hD
  refine vx_catch hown [] ⟨0, 9, 12, 61⟩ [] (htab.trans rfl) (fun _ h9 => absurd h9 List.not_mem_nil) rfl (by decide) (hts _ w_1075) (va_Nw.use rfl (hG.2.1 _ n_1085 rfl)) h7 h8 h9 ?_
  refine lv_astore_n (lv' := [(3, .ref q0), (0, .ref a0), (1, .int x0), (2, .ref a1)]) hx hb d_L27_12 rfl hl (by decide) rfl (fun ls hl => ?_)
  refine lv_iconst (v := 1) hx hb d_L27_13 (by decide +kernel) ?_
  refine W.widen (k := 1) (n := 6) (Nat.le_of_ble_eq_true rfl) (Nat.le_of_ble_eq_true rfl) ?_
  refine vx_ret ?_
  exact W.iret hx hb hr (fun t ht hW => qk hP hD hS [] rfl ((fun k => k), (fun _ _ => none)) rfl rfl rfl ht) hS.2.2 d_L27_14
set_option maxRecDepth 100000 in
set_option maxHeartbeats 4000000 in
theorem c458_BModel_runoffOut (l : Launch) (z : Zz) (a0 a1 a2 a3 a4 a5 a6 a7 a8 a9 a10 a11 a12 a13 : Nat) (x0 : Int32) (h0 : ¬ x0 < 0) (h1 : (-1) < x0) : CT l z ⟨"BallothallModel", "runoffOut", "(I)I"⟩ prog_14_method_69_code 4 (some .int) [.ref a0, .int x0] [(a0, .inr (18, [.ref a1, .ref a2, .int 0, .ref a3, .int 0, .ref a4, .int 0, .null, .int 0, .null, .long 0, .int 0, .null])), (a1, .inr (17, [.int 0, .ref a5, .ref a6, .int 0, .ref a7, .ref a8, .ref a9, .null, .null, .int 0, .ref a10, .ref a11, .ref a12, .int 0, .ref a13, .int 1]))] 3 94 3 23 (fun u => some (.int 0)) (fun u => [(a0, .inr (18, [.ref a1, .ref a2, .int 0, .ref a3, .int 0, .ref a4, .int 1, .null, .int 0, .null, .long 0, .int 0, .null])), (a1, .inr (17, [.int 0, .ref a5, .ref a6, .int 0, .ref a7, .ref a8, .ref a9, .null, .null, .int 0, .ref a10, .ref a11, .ref a12, .int 0, .ref a13, .int 1]))]) := by
  refine CT.of (own := "BallothallModel") (by decide +kernel) (Nat.le_of_ble_eq_true rfl) rfl (fun p e s m below meth c A ls hx hb hml hr hts hown hlocks hin hA hG hZ hP hD hS hl => ?_)
  have hl : lv_has ls 4 [(0, .ref a0), (1, .int x0)] := hl
  refine lv_aload_n hx hb d_14_69_0 rfl (lv_at hl 0 rfl) ?_
  refine kV (As := []) (rest := []) (wr := []) (c301_BModel_poll l z a0 a1 a2 a3 a4 a5 a6 a7 a8 a9 a10 a11 a12 a13) hx hb hml hown hts w_2246 w_2243 w_2245 w_s_14a2f1 w_12 md_55febb ⟨Nat.le_of_ble_eq_true rfl, Nat.le_of_ble_eq_true rfl⟩ hG hZ hP hD hS hA 0 rfl rfl rfl [0, 1] [] rfl rfl rfl rfl rfl hl.1 rfl (Nat.le_of_ble_eq_true rfl) d_14_69_1 ⟨Nat.le_of_ble_eq_true rfl, Nat.le_of_ble_eq_true rfl⟩ (fun u0 H locs hP hD hS => ?_)
  have hP : va_P z.1 classes [(a0, .inr (18, [.ref a1, .ref a2, .int 0, .ref a3, .int 0, .ref a4, .int 0, .null, .int 0, .null, .long 0, .int 0, .null])), (a1, .inr (17, [.int 0, .ref a5, .ref a6, .int 0, .ref a7, .ref a8, .ref a9, .null, .null, .int 0, .ref a10, .ref a11, .ref a12, .int 0, .ref a13, .int 1])), ((u0.1 0), .inr (14, [.ref a6, .int 0, .ref a5, .ref (u0.1 1), .int 0, .ref (u0.1 2), .null]))] H := hP
  have hD : va_D A [(a0, .inr (18, [.ref a1, .ref a2, .int 0, .ref a3, .int 0, .ref a4, .int 0, .null, .int 0, .null, .long 0, .int 0, .null])), (a1, .inr (17, [.int 0, .ref a5, .ref a6, .int 0, .ref a7, .ref a8, .ref a9, .null, .null, .int 0, .ref a10, .ref a11, .ref a12, .int 0, .ref a13, .int 1])), ((u0.1 0), .inr (14, [.ref a6, .int 0, .ref a5, .ref (u0.1 1), .int 0, .ref (u0.1 2), .null]))] := hD
  refine W.eq (g2 := F0 m 4 ls [.ref (u0.1 0)]) rfl ?_
  refine lv_astore_n (lv' := [(2, .ref (u0.1 0)), (0, .ref a0), (1, .int x0)]) hx hb d_14_69_4 rfl hl (by decide) rfl (fun ls hl => ?_)
  refine lv_aload_n hx hb d_14_69_5 rfl (lv_at hl 0 rfl) ?_
  refine lv_iconst (v := 1) hx hb d_14_69_6 (by decide +kernel) ?_
  refine kV (As := [.int 1]) (rest := []) (wr := [(a0, .inr (18, [.ref a1, .ref a2, .int 0, .ref a3, .int 0, .ref a4, .int 0, .null, .int 0, .null, .long 0, .int 0, .null])), (a1, .inr (17, [.int 0, .ref a5, .ref a6, .int 0, .ref a7, .ref a8, .ref a9, .null, .null, .int 0, .ref a10, .ref a11, .ref a12, .int 0, .ref a13, .int 1]))]) (c453_Poll_winner l z (u0.1 0) a6 a5 (u0.1 1) (u0.1 2)) hx hb hml hown hts w_2342 w_2339 w_2340 w_2341 w_36 md_ba59c7 ⟨Nat.le_of_ble_eq_true rfl, Nat.le_of_ble_eq_true rfl⟩ hG hZ hP hD hS hA 2 rfl rfl rfl [2] [0, 1] rfl rfl rfl rfl rfl hl.1 rfl (Nat.le_of_ble_eq_true rfl) d_14_69_7 ⟨Nat.le_of_ble_eq_true rfl, Nat.le_of_ble_eq_true rfl⟩ (fun u1 H locs hP hD hS => ?_)
  have hP : va_P z.1 classes [(a0, .inr (18, [.ref a1, .ref a2, .int 0, .ref a3, .int 0, .ref a4, .int 0, .null, .int 0, .null, .long 0, .int 0, .null])), (a1, .inr (17, [.int 0, .ref a5, .ref a6, .int 0, .ref a7, .ref a8, .ref a9, .null, .null, .int 0, .ref a10, .ref a11, .ref a12, .int 0, .ref a13, .int 1])), ((u0.1 0), .inr (14, [.ref a6, .int 0, .ref a5, .ref (u0.1 1), .int 0, .ref (u0.1 2), .null]))] H := hP
  have hD : va_D A [(a0, .inr (18, [.ref a1, .ref a2, .int 0, .ref a3, .int 0, .ref a4, .int 0, .null, .int 0, .null, .long 0, .int 0, .null])), (a1, .inr (17, [.int 0, .ref a5, .ref a6, .int 0, .ref a7, .ref a8, .ref a9, .null, .null, .int 0, .ref a10, .ref a11, .ref a12, .int 0, .ref a13, .int 1])), ((u0.1 0), .inr (14, [.ref a6, .int 0, .ref a5, .ref (u0.1 1), .int 0, .ref (u0.1 2), .null]))] := hD
  refine W.eq (g2 := F0 m 10 ls [.int (-1)]) rfl ?_
  refine lv_istore_n (lv' := [(3, .int (-1)), (2, .ref (u0.1 0)), (0, .ref a0), (1, .int x0)]) hx hb d_14_69_10 rfl hl (by decide) rfl (fun ls hl => ?_)
  refine lv_aload_n hx hb d_14_69_11 rfl (lv_at hl 2 rfl) ?_
  refine lv_iload_n hx hb d_14_69_12 rfl (lv_at hl 3 rfl) ?_
  refine lv_iconst (v := 0) hx hb d_14_69_13 (by decide +kernel) ?_
  refine lv_aload_n hx hb d_14_69_14 rfl (lv_at hl 1 rfl) ?_
  refine va_getN (D := z.1) (ci := 14) (v := .int 0) (C := "BallothallModel$Poll") (T := TX14) (N := 7) hx hb hts iX14 hown hG.1 hP 2 rfl rfl 4 (by decide) (va_Nw.use rfl (hG.2.1 _ n_2260 rfl)) (fun _ h9 => h9) rfl d_14_69_15 ?_
  refine lv_iconst (v := 1) hx hb d_14_69_18 (by decide +kernel) ?_
  refine lv_isub hx hb d_14_69_19 ?_
  refine nrm (x1 := (-1)) (by decide +kernel) ?_
  refine kS (As := [.int x0, .int 0, .int (-1)]) (rest := [.ref a0]) (wr := [(a0, .inr (18, [.ref a1, .ref a2, .int 0, .ref a3, .int 0, .ref a4, .int 0, .null, .int 0, .null, .long 0, .int 0, .null])), (a1, .inr (17, [.int 0, .ref a5, .ref a6, .int 0, .ref a7, .ref a8, .ref a9, .null, .null, .int 0, .ref a10, .ref a11, .ref a12, .int 0, .ref a13, .int 1])), ((u0.1 0), .inr (14, [.ref a6, .int 0, .ref a5, .ref (u0.1 1), .int 0, .ref (u0.1 2), .null]))]) (c37_BModel_isIn l z x0 h0 h1) hx hb hml hown hts w_1718 w_1716 w_1717 w_12 md_bca45c ⟨Nat.le_of_ble_eq_true rfl, Nat.le_of_ble_eq_true rfl⟩ hG hZ hP hD hS hA [] [0, 1, 2] rfl rfl rfl rfl rfl hl.1 rfl (Nat.le_of_ble_eq_true rfl) d_14_69_20 ⟨Nat.le_of_ble_eq_true rfl, Nat.le_of_ble_eq_true rfl⟩ (fun u2 H locs hP hD hS => ?_)
  have hP : va_P z.1 classes [(a0, .inr (18, [.ref a1, .ref a2, .int 0, .ref a3, .int 0, .ref a4, .int 0, .null, .int 0, .null, .long 0, .int 0, .null])), (a1, .inr (17, [.int 0, .ref a5, .ref a6, .int 0, .ref a7, .ref a8, .ref a9, .null, .null, .int 0, .ref a10, .ref a11, .ref a12, .int 0, .ref a13, .int 1])), ((u0.1 0), .inr (14, [.ref a6, .int 0, .ref a5, .ref (u0.1 1), .int 0, .ref (u0.1 2), .null]))] H := hP
  have hD : va_D A [(a0, .inr (18, [.ref a1, .ref a2, .int 0, .ref a3, .int 0, .ref a4, .int 0, .null, .int 0, .null, .long 0, .int 0, .null])), (a1, .inr (17, [.int 0, .ref a5, .ref a6, .int 0, .ref a7, .ref a8, .ref a9, .null, .null, .int 0, .ref a10, .ref a11, .ref a12, .int 0, .ref a13, .int 1])), ((u0.1 0), .inr (14, [.ref a6, .int 0, .ref a5, .ref (u0.1 1), .int 0, .ref (u0.1 2), .null]))] := hD
  refine W.eq (g2 := F0 m 23 ls [.int 0, .ref a0]) rfl ?_
  refine lv_iconst (v := 1) hx hb d_14_69_23 (by decide +kernel) ?_
  refine kV (As := [.int 0, .int 1]) (rest := []) (wr := [(a1, .inr (17, [.int 0, .ref a5, .ref a6, .int 0, .ref a7, .ref a8, .ref a9, .null, .null, .int 0, .ref a10, .ref a11, .ref a12, .int 0, .ref a13, .int 1])), ((u0.1 0), .inr (14, [.ref a6, .int 0, .ref a5, .ref (u0.1 1), .int 0, .ref (u0.1 2), .null]))]) (c31_BModel_ends l z a0 a1 a2 a3 a4) hx hb hml hown hts w_1696 w_1693 w_1695 w_s_f8f2b7 w_12 md_77b0f8 ⟨Nat.le_of_ble_eq_true rfl, Nat.le_of_ble_eq_true rfl⟩ hG hZ hP hD hS hA 0 rfl rfl rfl [0] [1, 2] rfl rfl rfl rfl rfl hl.1 rfl (Nat.le_of_ble_eq_true rfl) d_14_69_24 ⟨Nat.le_of_ble_eq_true rfl, Nat.le_of_ble_eq_true rfl⟩ (fun u3 H locs hP hD hS => ?_)
  have hP : va_P z.1 classes [(a1, .inr (17, [.int 0, .ref a5, .ref a6, .int 0, .ref a7, .ref a8, .ref a9, .null, .null, .int 0, .ref a10, .ref a11, .ref a12, .int 0, .ref a13, .int 1])), ((u0.1 0), .inr (14, [.ref a6, .int 0, .ref a5, .ref (u0.1 1), .int 0, .ref (u0.1 2), .null])), (a0, .inr (18, [.ref a1, .ref a2, .int 0, .ref a3, .int 0, .ref a4, .int 1, .null, .int 0, .null, .long 0, .int 0, .null]))] H := hP
  have hD : va_D A [(a1, .inr (17, [.int 0, .ref a5, .ref a6, .int 0, .ref a7, .ref a8, .ref a9, .null, .null, .int 0, .ref a10, .ref a11, .ref a12, .int 0, .ref a13, .int 1])), ((u0.1 0), .inr (14, [.ref a6, .int 0, .ref a5, .ref (u0.1 1), .int 0, .ref (u0.1 2), .null])), (a0, .inr (18, [.ref a1, .ref a2, .int 0, .ref a3, .int 0, .ref a4, .int 1, .null, .int 0, .null, .long 0, .int 0, .null]))] := hD
  refine W.eq (g2 := F0 m 27 ls [.int 1]) rfl ?_
  refine lv_if_eq (tgt := 34) hx hb d_14_69_27 (by decide) (fun c9 => absurd c9 (by decide +kernel)) (fun _ => ?_)
  refine lv_iconst (v := 0) hx hb d_14_69_30 (by decide +kernel) ?_
  refine lv_goto (tgt := 40) hx hb d_14_69_31 (by decide) ?_
  refine W.widen (k := 3) (n := 23) (Nat.le_of_ble_eq_true rfl) (Nat.le_of_ble_eq_true rfl) ?_
  exact W.iret hx hb hr (fun t ht hW => qk hP hD hS [2, 0] rfl ((fun k => k), (fun _ _ => none)) rfl rfl rfl ht) hS.2.2 d_14_69_40
set_option maxRecDepth 100000 in
set_option maxHeartbeats 4000000 in
theorem c459_B_winnerWith (l : Launch) (z : Zz) (hl0 : l.stackTraces = false) (a0 : Nat) (x0 : Int32) (x1 : Int32) (h0 : x0 < 0) : XT l z ⟨"Ballothall", "winnerWith", "(II)I"⟩ prog_1_method_35_code 5 (some .int) [.ref a0, .int x0, .int x1] [] 7 128 1 6 "java/lang/IllegalArgumentException" := by
  refine XT.of (own := "Ballothall") (by decide +kernel) (Nat.le_of_ble_eq_true rfl) rfl (fun p e s m below meth c A ls hx hb hml hr hts hown hlocks hin hA hG hZ hP hD hS hl hnt => ?_)
  have hl : lv_has ls 5 [(0, .ref a0), (1, .int x0), (2, .int x1)] := hl
  refine lv_iload_n hx hb d_1_35_0 rfl (lv_at hl 1 rfl) ?_
  refine lv_iconst (v := 0) hx hb d_1_35_1 (by decide +kernel) ?_
  refine lv_iconst (v := 4) hx hb d_1_35_2 (by decide +kernel) ?_
  exact xS (As := [.int x0, .int 0, .int 4]) (rest := []) (wr := []) (c411_B_needRange l z hl0 x0 h0) hx hb hml hown hts w_876 w_874 w_875 w_1 md_519134 ⟨Nat.le_of_ble_eq_true rfl, Nat.le_of_ble_eq_true rfl⟩ hG hZ hP hD hS hA [] [] rfl rfl rfl rfl rfl hl.1 rfl (Nat.le_of_ble_eq_true rfl) d_1_35_3 ⟨Nat.le_of_ble_eq_true rfl, Nat.le_of_ble_eq_true rfl⟩ (fun q9 ce9 H locs hP hD hS h7 h8 h9 => x_out hnt hlocks hS h7 h8 h9 (Nat.le_of_ble_eq_true rfl) (Nat.le_of_ble_eq_true rfl))
set_option maxRecDepth 100000 in
set_option maxHeartbeats 4000000 in
theorem c460_BLaw_winnerWith (l : Launch) (z : Zz) (hl0 : l.stackTraces = false) (a0 a1 a2 a3 a4 a5 a6 a7 a8 a9 a10 a11 a12 : Nat) (x0 : Int32) (x1 : Int32) (h0 : x0 < 0) : HT l z ⟨"BallothallLaw", "winnerWith", "(LBallothall;II[J)I"⟩ method_28_code 5 (some .int) [(0, 10, 13, 21)] [.ref a0, .int x0, .int x1, .ref a1] [(a0, .inr (11, [.ref a2, .ref a3, .ref a4, .ref a5, .ref a6, .ref a7, .ref a8, .ref a9, .ref a10, .ref a11, .int 0, .int 0, .ref a12, .int 0]))] 8 160 1 6 (fun u => some (.int 1)) (fun u => [(a0, .inr (11, [.ref a2, .ref a3, .ref a4, .ref a5, .ref a6, .ref a7, .ref a8, .ref a9, .ref a10, .ref a11, .int 0, .int 0, .ref a12, .int 0]))]) := by
  refine HT.of (own := "BallothallLaw") (by decide +kernel) (Nat.le_of_ble_eq_true rfl) rfl (fun p e s m below meth c A ls hx hb hml hr hts hown hlocks hin hA hG hZ hP hD hS hl htab => ?_)
  have hl : lv_has ls 5 [(0, .ref a0), (1, .int x0), (2, .int x1), (3, .ref a1)] := hl
  refine lv_aload_n hx hb d_L28_0 rfl (lv_at hl 3 rfl) ?_
  refine lv_iconst (v := 0) hx hb d_L28_1 (by decide +kernel) ?_
  refine lv_aload_n hx hb d_L28_2 rfl (lv_at hl 0 rfl) ?_
  refine lv_iload_n hx hb d_L28_3 rfl (lv_at hl 1 rfl) ?_
  refine lv_iload_n hx hb d_L28_4 rfl (lv_at hl 2 rfl) ?_
  refine xV (As := [.int x0, .int x1]) (rest := [.int 0, .ref a1]) (wr := [(a0, .inr (11, [.ref a2, .ref a3, .ref a4, .ref a5, .ref a6, .ref a7, .ref a8, .ref a9, .ref a10, .ref a11, .int 0, .int 0, .ref a12, .int 0]))]) (c459_B_winnerWith l z hl0 a0 x0 x1 h0) hx hb hml hown hts w_1375 w_1372 w_1373 w_1374 w_1 md_4c1cb5 ⟨Nat.le_of_ble_eq_true rfl, Nat.le_of_ble_eq_true rfl⟩ hG hZ hP hD hS hA 0 rfl rfl rfl [] [0] rfl rfl rfl rfl rfl hl.1 rfl (Nat.le_of_ble_eq_true rfl) d_L28_5 ⟨Nat.le_of_ble_eq_true rfl, Nat.le_of_ble_eq_true rfl⟩ (fun q0 ce9 H locs hP hD hS h7 h8 h9 => ?_)
  have hP : va_P z.1 classes [(a0, .inr (11, [.ref a2, .ref a3, .ref a4, .ref a5, .ref a6, .ref a7, .ref a8, .ref a9, .ref a10, .ref a11, .int 0, .int 0, .ref a12, .int 0]))] H := hP
  have hD : va_D A [(a0, .inr (11, [.ref a2, .ref a3, .ref a4, .ref a5, .ref a6, .ref a7, .ref a8, .ref a9, .ref a10, .ref a11, .int 0, .int 0, .ref a12, .int 0]))] := hD
  refine vx_catch hown [] ⟨0, 10, 13, 21⟩ [] (htab.trans rfl) (fun _ h9 => absurd h9 List.not_mem_nil) rfl (by decide) (hts _ w_850) (va_Nw.use rfl (hG.2.1 _ n_879 rfl)) h7 h8 h9 ?_
  refine lv_astore (lv' := [(4, .ref q0), (0, .ref a0), (1, .int x0), (2, .int x1), (3, .ref a1)]) hx hb d_L28_13 hl (by decide) rfl (fun ls hl => ?_)
  refine lv_iconst (v := 1) hx hb d_L28_15 (by decide +kernel) ?_
  refine W.widen (k := 1) (n := 6) (Nat.le_of_ble_eq_true rfl) (Nat.le_of_ble_eq_true rfl) ?_
  refine vx_ret ?_
  exact W.iret hx hb hr (fun t ht hW => qk hP hD hS [0] rfl ((fun k => k), (fun _ _ => none)) rfl rfl rfl ht) hS.2.2 d_L28_16
set_option maxRecDepth 100000 in
set_option maxHeartbeats 4000000 in
theorem c461_BModel_winnerWith (l : Launch) (z : Zz) (a0 a1 a2 a3 a4 : Nat) (x0 : Int32) (x1 : Int32) (h0 : x0 < 0) : CT l z ⟨"BallothallModel", "winnerWith", "(II)I"⟩ prog_14_method_70_code 6 (some .int) [.ref a0, .int x0, .int x1] [(a0, .inr (18, [.ref a1, .ref a2, .int 0, .ref a3, .int 0, .ref a4, .int 0, .null, .int 0, .null, .long 0, .int 0, .null]))] 1 30 0 0 (fun u => some (.int 0)) (fun u => [(a0, .inr (18, [.ref a1, .ref a2, .int 0, .ref a3, .int 0, .ref a4, .int 1, .null, .int 0, .null, .long 0, .int 0, .null]))]) := by
  refine CT.of (own := "BallothallModel") (by decide +kernel) (Nat.le_of_ble_eq_true rfl) rfl (fun p e s m below meth c A ls hx hb hml hr hts hown hlocks hin hA hG hZ hP hD hS hl => ?_)
  have hl : lv_has ls 6 [(0, .ref a0), (1, .int x0), (2, .int x1)] := hl
  refine lv_aload_n hx hb d_14_70_0 rfl (lv_at hl 0 rfl) ?_
  refine lv_iload_n hx hb d_14_70_1 rfl (lv_at hl 1 rfl) ?_
  refine lv_iconst (v := 0) hx hb d_14_70_2 (by decide +kernel) ?_
  refine lv_iconst (v := 4) hx hb d_14_70_3 (by decide +kernel) ?_
  refine kS (As := [.int x0, .int 0, .int 4]) (rest := [.ref a0]) (wr := [(a0, .inr (18, [.ref a1, .ref a2, .int 0, .ref a3, .int 0, .ref a4, .int 0, .null, .int 0, .null, .long 0, .int 0, .null]))]) (c414_BModel_isIn l z x0 h0) hx hb hml hown hts w_1718 w_1716 w_1717 w_12 md_bca45c ⟨Nat.le_of_ble_eq_true rfl, Nat.le_of_ble_eq_true rfl⟩ hG hZ hP hD hS hA [] [0] rfl rfl rfl rfl rfl hl.1 rfl (Nat.le_of_ble_eq_true rfl) d_14_70_4 ⟨Nat.le_of_ble_eq_true rfl, Nat.le_of_ble_eq_true rfl⟩ (fun u0 H locs hP hD hS => ?_)
  have hP : va_P z.1 classes [(a0, .inr (18, [.ref a1, .ref a2, .int 0, .ref a3, .int 0, .ref a4, .int 0, .null, .int 0, .null, .long 0, .int 0, .null]))] H := hP
  have hD : va_D A [(a0, .inr (18, [.ref a1, .ref a2, .int 0, .ref a3, .int 0, .ref a4, .int 0, .null, .int 0, .null, .long 0, .int 0, .null]))] := hD
  refine W.eq (g2 := F0 m 7 ls [.int 0, .ref a0]) rfl ?_
  refine lv_if_eq (tgt := 27) hx hb d_14_70_7 (by decide) (fun _ => ?_) (fun c9 => absurd (by decide +kernel) c9)
  refine lv_iconst (v := 0) hx hb d_14_70_27 (by decide +kernel) ?_
  refine lv_iconst (v := 1) hx hb d_14_70_28 (by decide +kernel) ?_
  refine kV (As := [.int 0, .int 1]) (rest := []) (wr := []) (c31_BModel_ends l z a0 a1 a2 a3 a4) hx hb hml hown hts w_1696 w_1693 w_1695 w_s_f8f2b7 w_12 md_77b0f8 ⟨Nat.le_of_ble_eq_true rfl, Nat.le_of_ble_eq_true rfl⟩ hG hZ hP hD hS hA 0 rfl rfl rfl [0] [] rfl rfl rfl rfl rfl hl.1 rfl (Nat.le_of_ble_eq_true rfl) d_14_70_29 ⟨Nat.le_of_ble_eq_true rfl, Nat.le_of_ble_eq_true rfl⟩ (fun u1 H locs hP hD hS => ?_)
  have hP : va_P z.1 classes [(a0, .inr (18, [.ref a1, .ref a2, .int 0, .ref a3, .int 0, .ref a4, .int 1, .null, .int 0, .null, .long 0, .int 0, .null]))] H := hP
  have hD : va_D A [(a0, .inr (18, [.ref a1, .ref a2, .int 0, .ref a3, .int 0, .ref a4, .int 1, .null, .int 0, .null, .long 0, .int 0, .null]))] := hD
  refine W.eq (g2 := F0 m 32 ls [.int 1]) rfl ?_
  refine lv_if_eq (tgt := 37) hx hb d_14_70_32 (by decide) (fun c9 => absurd c9 (by decide +kernel)) (fun _ => ?_)
  refine lv_iconst (v := 0) hx hb d_14_70_35 (by decide +kernel) ?_
  refine W.widen (k := 0) (n := 0) (Nat.le_of_ble_eq_true rfl) (Nat.le_of_ble_eq_true rfl) ?_
  exact W.iret hx hb hr (fun t ht hW => qk hP hD hS [0] rfl ((fun k => k), (fun _ _ => none)) rfl rfl rfl ht) hS.2.2 d_14_70_36
set_option maxRecDepth 100000 in
set_option maxHeartbeats 4000000 in
theorem c462_B_winnerWith (l : Launch) (z : Zz) (hl0 : l.stackTraces = false) (a0 : Nat) (x0 : Int32) (x1 : Int32) (h0 : ¬ x0 < 0) (h1 : 4 < x0) : XT l z ⟨"Ballothall", "winnerWith", "(II)I"⟩ prog_1_method_35_code 5 (some .int) [.ref a0, .int x0, .int x1] [] 7 128 1 6 "java/lang/IllegalArgumentException" := by
  refine XT.of (own := "Ballothall") (by decide +kernel) (Nat.le_of_ble_eq_true rfl) rfl (fun p e s m below meth c A ls hx hb hml hr hts hown hlocks hin hA hG hZ hP hD hS hl hnt => ?_)
  have hl : lv_has ls 5 [(0, .ref a0), (1, .int x0), (2, .int x1)] := hl
  refine lv_iload_n hx hb d_1_35_0 rfl (lv_at hl 1 rfl) ?_
  refine lv_iconst (v := 0) hx hb d_1_35_1 (by decide +kernel) ?_
  refine lv_iconst (v := 4) hx hb d_1_35_2 (by decide +kernel) ?_
  exact xS (As := [.int x0, .int 0, .int 4]) (rest := []) (wr := []) (c416_B_needRange l z hl0 x0 h0 h1) hx hb hml hown hts w_876 w_874 w_875 w_1 md_519134 ⟨Nat.le_of_ble_eq_true rfl, Nat.le_of_ble_eq_true rfl⟩ hG hZ hP hD hS hA [] [] rfl rfl rfl rfl rfl hl.1 rfl (Nat.le_of_ble_eq_true rfl) d_1_35_3 ⟨Nat.le_of_ble_eq_true rfl, Nat.le_of_ble_eq_true rfl⟩ (fun q9 ce9 H locs hP hD hS h7 h8 h9 => x_out hnt hlocks hS h7 h8 h9 (Nat.le_of_ble_eq_true rfl) (Nat.le_of_ble_eq_true rfl))
set_option maxRecDepth 100000 in
set_option maxHeartbeats 4000000 in
theorem c463_BLaw_winnerWith (l : Launch) (z : Zz) (hl0 : l.stackTraces = false) (a0 a1 a2 a3 a4 a5 a6 a7 a8 a9 a10 a11 a12 : Nat) (x0 : Int32) (x1 : Int32) (h0 : ¬ x0 < 0) (h1 : 4 < x0) : HT l z ⟨"BallothallLaw", "winnerWith", "(LBallothall;II[J)I"⟩ method_28_code 5 (some .int) [(0, 10, 13, 21)] [.ref a0, .int x0, .int x1, .ref a1] [(a0, .inr (11, [.ref a2, .ref a3, .ref a4, .ref a5, .ref a6, .ref a7, .ref a8, .ref a9, .ref a10, .ref a11, .int 0, .int 0, .ref a12, .int 0]))] 8 160 1 6 (fun u => some (.int 1)) (fun u => [(a0, .inr (11, [.ref a2, .ref a3, .ref a4, .ref a5, .ref a6, .ref a7, .ref a8, .ref a9, .ref a10, .ref a11, .int 0, .int 0, .ref a12, .int 0]))]) := by
  refine HT.of (own := "BallothallLaw") (by decide +kernel) (Nat.le_of_ble_eq_true rfl) rfl (fun p e s m below meth c A ls hx hb hml hr hts hown hlocks hin hA hG hZ hP hD hS hl htab => ?_)
  have hl : lv_has ls 5 [(0, .ref a0), (1, .int x0), (2, .int x1), (3, .ref a1)] := hl
  refine lv_aload_n hx hb d_L28_0 rfl (lv_at hl 3 rfl) ?_
  refine lv_iconst (v := 0) hx hb d_L28_1 (by decide +kernel) ?_
  refine lv_aload_n hx hb d_L28_2 rfl (lv_at hl 0 rfl) ?_
  refine lv_iload_n hx hb d_L28_3 rfl (lv_at hl 1 rfl) ?_
  refine lv_iload_n hx hb d_L28_4 rfl (lv_at hl 2 rfl) ?_
  refine xV (As := [.int x0, .int x1]) (rest := [.int 0, .ref a1]) (wr := [(a0, .inr (11, [.ref a2, .ref a3, .ref a4, .ref a5, .ref a6, .ref a7, .ref a8, .ref a9, .ref a10, .ref a11, .int 0, .int 0, .ref a12, .int 0]))]) (c462_B_winnerWith l z hl0 a0 x0 x1 h0 h1) hx hb hml hown hts w_1375 w_1372 w_1373 w_1374 w_1 md_4c1cb5 ⟨Nat.le_of_ble_eq_true rfl, Nat.le_of_ble_eq_true rfl⟩ hG hZ hP hD hS hA 0 rfl rfl rfl [] [0] rfl rfl rfl rfl rfl hl.1 rfl (Nat.le_of_ble_eq_true rfl) d_L28_5 ⟨Nat.le_of_ble_eq_true rfl, Nat.le_of_ble_eq_true rfl⟩ (fun q0 ce9 H locs hP hD hS h7 h8 h9 => ?_)
  have hP : va_P z.1 classes [(a0, .inr (11, [.ref a2, .ref a3, .ref a4, .ref a5, .ref a6, .ref a7, .ref a8, .ref a9, .ref a10, .ref a11, .int 0, .int 0, .ref a12, .int 0]))] H := hP
  have hD : va_D A [(a0, .inr (11, [.ref a2, .ref a3, .ref a4, .ref a5, .ref a6, .ref a7, .ref a8, .ref a9, .ref a10, .ref a11, .int 0, .int 0, .ref a12, .int 0]))] := hD
  refine vx_catch hown [] ⟨0, 10, 13, 21⟩ [] (htab.trans rfl) (fun _ h9 => absurd h9 List.not_mem_nil) rfl (by decide) (hts _ w_850) (va_Nw.use rfl (hG.2.1 _ n_879 rfl)) h7 h8 h9 ?_
  refine lv_astore (lv' := [(4, .ref q0), (0, .ref a0), (1, .int x0), (2, .int x1), (3, .ref a1)]) hx hb d_L28_13 hl (by decide) rfl (fun ls hl => ?_)
  refine lv_iconst (v := 1) hx hb d_L28_15 (by decide +kernel) ?_
  refine W.widen (k := 1) (n := 6) (Nat.le_of_ble_eq_true rfl) (Nat.le_of_ble_eq_true rfl) ?_
  refine vx_ret ?_
  exact W.iret hx hb hr (fun t ht hW => qk hP hD hS [0] rfl ((fun k => k), (fun _ _ => none)) rfl rfl rfl ht) hS.2.2 d_L28_16
set_option maxRecDepth 100000 in
set_option maxHeartbeats 4000000 in
theorem c464_BModel_winnerWith (l : Launch) (z : Zz) (a0 a1 a2 a3 a4 : Nat) (x0 : Int32) (x1 : Int32) (h0 : ¬ x0 < 0) (h1 : 4 < x0) : CT l z ⟨"BallothallModel", "winnerWith", "(II)I"⟩ prog_14_method_70_code 6 (some .int) [.ref a0, .int x0, .int x1] [(a0, .inr (18, [.ref a1, .ref a2, .int 0, .ref a3, .int 0, .ref a4, .int 0, .null, .int 0, .null, .long 0, .int 0, .null]))] 1 30 0 0 (fun u => some (.int 0)) (fun u => [(a0, .inr (18, [.ref a1, .ref a2, .int 0, .ref a3, .int 0, .ref a4, .int 1, .null, .int 0, .null, .long 0, .int 0, .null]))]) := by
  refine CT.of (own := "BallothallModel") (by decide +kernel) (Nat.le_of_ble_eq_true rfl) rfl (fun p e s m below meth c A ls hx hb hml hr hts hown hlocks hin hA hG hZ hP hD hS hl => ?_)
  have hl : lv_has ls 6 [(0, .ref a0), (1, .int x0), (2, .int x1)] := hl
  refine lv_aload_n hx hb d_14_70_0 rfl (lv_at hl 0 rfl) ?_
  refine lv_iload_n hx hb d_14_70_1 rfl (lv_at hl 1 rfl) ?_
  refine lv_iconst (v := 0) hx hb d_14_70_2 (by decide +kernel) ?_
  refine lv_iconst (v := 4) hx hb d_14_70_3 (by decide +kernel) ?_
  refine kS (As := [.int x0, .int 0, .int 4]) (rest := [.ref a0]) (wr := [(a0, .inr (18, [.ref a1, .ref a2, .int 0, .ref a3, .int 0, .ref a4, .int 0, .null, .int 0, .null, .long 0, .int 0, .null]))]) (c419_BModel_isIn l z x0 h0 h1) hx hb hml hown hts w_1718 w_1716 w_1717 w_12 md_bca45c ⟨Nat.le_of_ble_eq_true rfl, Nat.le_of_ble_eq_true rfl⟩ hG hZ hP hD hS hA [] [0] rfl rfl rfl rfl rfl hl.1 rfl (Nat.le_of_ble_eq_true rfl) d_14_70_4 ⟨Nat.le_of_ble_eq_true rfl, Nat.le_of_ble_eq_true rfl⟩ (fun u0 H locs hP hD hS => ?_)
  have hP : va_P z.1 classes [(a0, .inr (18, [.ref a1, .ref a2, .int 0, .ref a3, .int 0, .ref a4, .int 0, .null, .int 0, .null, .long 0, .int 0, .null]))] H := hP
  have hD : va_D A [(a0, .inr (18, [.ref a1, .ref a2, .int 0, .ref a3, .int 0, .ref a4, .int 0, .null, .int 0, .null, .long 0, .int 0, .null]))] := hD
  refine W.eq (g2 := F0 m 7 ls [.int 0, .ref a0]) rfl ?_
  refine lv_if_eq (tgt := 27) hx hb d_14_70_7 (by decide) (fun _ => ?_) (fun c9 => absurd (by decide +kernel) c9)
  refine lv_iconst (v := 0) hx hb d_14_70_27 (by decide +kernel) ?_
  refine lv_iconst (v := 1) hx hb d_14_70_28 (by decide +kernel) ?_
  refine kV (As := [.int 0, .int 1]) (rest := []) (wr := []) (c31_BModel_ends l z a0 a1 a2 a3 a4) hx hb hml hown hts w_1696 w_1693 w_1695 w_s_f8f2b7 w_12 md_77b0f8 ⟨Nat.le_of_ble_eq_true rfl, Nat.le_of_ble_eq_true rfl⟩ hG hZ hP hD hS hA 0 rfl rfl rfl [0] [] rfl rfl rfl rfl rfl hl.1 rfl (Nat.le_of_ble_eq_true rfl) d_14_70_29 ⟨Nat.le_of_ble_eq_true rfl, Nat.le_of_ble_eq_true rfl⟩ (fun u1 H locs hP hD hS => ?_)
  have hP : va_P z.1 classes [(a0, .inr (18, [.ref a1, .ref a2, .int 0, .ref a3, .int 0, .ref a4, .int 1, .null, .int 0, .null, .long 0, .int 0, .null]))] H := hP
  have hD : va_D A [(a0, .inr (18, [.ref a1, .ref a2, .int 0, .ref a3, .int 0, .ref a4, .int 1, .null, .int 0, .null, .long 0, .int 0, .null]))] := hD
  refine W.eq (g2 := F0 m 32 ls [.int 1]) rfl ?_
  refine lv_if_eq (tgt := 37) hx hb d_14_70_32 (by decide) (fun c9 => absurd c9 (by decide +kernel)) (fun _ => ?_)
  refine lv_iconst (v := 0) hx hb d_14_70_35 (by decide +kernel) ?_
  refine W.widen (k := 0) (n := 0) (Nat.le_of_ble_eq_true rfl) (Nat.le_of_ble_eq_true rfl) ?_
  exact W.iret hx hb hr (fun t ht hW => qk hP hD hS [0] rfl ((fun k => k), (fun _ _ => none)) rfl rfl rfl ht) hS.2.2 d_14_70_36
set_option maxRecDepth 100000 in
set_option maxHeartbeats 4000000 in
theorem c465_B_needRange (l : Launch) (z : Zz) (hl0 : l.stackTraces = false) (x0 : Int32) (h0 : x0 < (-1000)) : XT l z ⟨"Ballothall", "needRange", "(III)V"⟩ prog_1_method_57_code 3 none [.int x0, .int (-1000), .int 1000] [] 6 98 1 6 "java/lang/IllegalArgumentException" := by
  refine XT.of (own := "Ballothall") (by decide +kernel) (Nat.le_of_ble_eq_true rfl) rfl (fun p e s m below meth c A ls hx hb hml hr hts hown hlocks hin hA hG hZ hP hD hS hl hnt => ?_)
  have hl : lv_has ls 3 [(0, .int x0), (1, .int (-1000)), (2, .int 1000)] := hl
  refine lv_iload_n hx hb d_1_57_0 rfl (lv_at hl 0 rfl) ?_
  refine lv_iload_n hx hb d_1_57_1 rfl (lv_at hl 1 rfl) ?_
  refine lv_icmp_lt (tgt := 10) hx hb d_1_57_2 (by decide) (fun _ => ?_) (fun c9 => absurd h0 c9)
  exact x_newW (text := "out of range") hl0 hx hb hml hown hts hlocks hnt hG hZ hS hl.1 (by decide +kernel) w_877 w_21 (by decide) xa_310_a xa_310_b d_1_57_10 d_1_57_13 d_1_57_14 d_1_57_17 d_1_57_20 ⟨Nat.le_of_ble_eq_true rfl, Nat.le_of_ble_eq_true rfl, Nat.le_of_ble_eq_true rfl, Nat.le_of_ble_eq_true rfl⟩ (Nat.le_of_ble_eq_true rfl) (Nat.le_of_ble_eq_true rfl) (Nat.le_of_ble_eq_true rfl)
set_option maxRecDepth 100000 in
set_option maxHeartbeats 4000000 in
theorem c466_B_winnerWith (l : Launch) (z : Zz) (hl0 : l.stackTraces = false) (a0 : Nat) (x0 : Int32) (x1 : Int32) (h0 : ¬ x0 < 0) (h1 : ¬ 4 < x0) (h2 : x1 < (-1000)) : XT l z ⟨"Ballothall", "winnerWith", "(II)I"⟩ prog_1_method_35_code 5 (some .int) [.ref a0, .int x0, .int x1] [] 7 128 1 6 "java/lang/IllegalArgumentException" := by
  refine XT.of (own := "Ballothall") (by decide +kernel) (Nat.le_of_ble_eq_true rfl) rfl (fun p e s m below meth c A ls hx hb hml hr hts hown hlocks hin hA hG hZ hP hD hS hl hnt => ?_)
  have hl : lv_has ls 5 [(0, .ref a0), (1, .int x0), (2, .int x1)] := hl
  refine lv_iload_n hx hb d_1_35_0 rfl (lv_at hl 1 rfl) ?_
  refine lv_iconst (v := 0) hx hb d_1_35_1 (by decide +kernel) ?_
  refine lv_iconst (v := 4) hx hb d_1_35_2 (by decide +kernel) ?_
  refine kS (As := [.int x0, .int 0, .int 4]) (rest := []) (wr := []) (c421_B_needRange l z x0 h0 h1) hx hb hml hown hts w_876 w_874 w_875 w_1 md_519134 ⟨Nat.le_of_ble_eq_true rfl, Nat.le_of_ble_eq_true rfl⟩ hG hZ hP hD hS hA [] [] rfl rfl rfl rfl rfl hl.1 rfl (Nat.le_of_ble_eq_true rfl) d_1_35_3 ⟨Nat.le_of_ble_eq_true rfl, Nat.le_of_ble_eq_true rfl⟩ (fun u0 H locs hP hD hS => ?_)
  have hP : va_P z.1 classes [] H := hP
  have hD : va_D A [] := hD
  refine W.eq (g2 := F0 m 6 ls []) rfl ?_
  refine lv_iload_n hx hb d_1_35_6 rfl (lv_at hl 2 rfl) ?_
  refine lv_sipush (v := (-1000)) hx hb d_1_35_7 (by decide +kernel) ?_
  refine lv_sipush (v := 1000) hx hb d_1_35_10 (by decide +kernel) ?_
  exact xS (As := [.int x1, .int (-1000), .int 1000]) (rest := []) (wr := []) (c465_B_needRange l z hl0 x1 h2) hx hb hml hown hts w_876 w_874 w_875 w_1 md_519134 ⟨Nat.le_of_ble_eq_true rfl, Nat.le_of_ble_eq_true rfl⟩ hG hZ hP hD hS hA [] [] rfl rfl rfl rfl rfl hl.1 rfl (Nat.le_of_ble_eq_true rfl) d_1_35_13 ⟨Nat.le_of_ble_eq_true rfl, Nat.le_of_ble_eq_true rfl⟩ (fun q9 ce9 H locs hP hD hS h7 h8 h9 => x_out hnt hlocks hS h7 h8 h9 (Nat.le_of_ble_eq_true rfl) (Nat.le_of_ble_eq_true rfl))
set_option maxRecDepth 100000 in
set_option maxHeartbeats 4000000 in
theorem c467_BLaw_winnerWith (l : Launch) (z : Zz) (hl0 : l.stackTraces = false) (a0 a1 a2 a3 a4 a5 a6 a7 a8 a9 a10 a11 a12 : Nat) (x0 : Int32) (x1 : Int32) (h0 : ¬ x0 < 0) (h1 : ¬ 4 < x0) (h2 : x1 < (-1000)) : HT l z ⟨"BallothallLaw", "winnerWith", "(LBallothall;II[J)I"⟩ method_28_code 5 (some .int) [(0, 10, 13, 21)] [.ref a0, .int x0, .int x1, .ref a1] [(a0, .inr (11, [.ref a2, .ref a3, .ref a4, .ref a5, .ref a6, .ref a7, .ref a8, .ref a9, .ref a10, .ref a11, .int 0, .int 0, .ref a12, .int 0]))] 8 160 1 6 (fun u => some (.int 1)) (fun u => [(a0, .inr (11, [.ref a2, .ref a3, .ref a4, .ref a5, .ref a6, .ref a7, .ref a8, .ref a9, .ref a10, .ref a11, .int 0, .int 0, .ref a12, .int 0]))]) := by
  refine HT.of (own := "BallothallLaw") (by decide +kernel) (Nat.le_of_ble_eq_true rfl) rfl (fun p e s m below meth c A ls hx hb hml hr hts hown hlocks hin hA hG hZ hP hD hS hl htab => ?_)
  have hl : lv_has ls 5 [(0, .ref a0), (1, .int x0), (2, .int x1), (3, .ref a1)] := hl
  refine lv_aload_n hx hb d_L28_0 rfl (lv_at hl 3 rfl) ?_
  refine lv_iconst (v := 0) hx hb d_L28_1 (by decide +kernel) ?_
  refine lv_aload_n hx hb d_L28_2 rfl (lv_at hl 0 rfl) ?_
  refine lv_iload_n hx hb d_L28_3 rfl (lv_at hl 1 rfl) ?_
  refine lv_iload_n hx hb d_L28_4 rfl (lv_at hl 2 rfl) ?_
  refine xV (As := [.int x0, .int x1]) (rest := [.int 0, .ref a1]) (wr := [(a0, .inr (11, [.ref a2, .ref a3, .ref a4, .ref a5, .ref a6, .ref a7, .ref a8, .ref a9, .ref a10, .ref a11, .int 0, .int 0, .ref a12, .int 0]))]) (c466_B_winnerWith l z hl0 a0 x0 x1 h0 h1 h2) hx hb hml hown hts w_1375 w_1372 w_1373 w_1374 w_1 md_4c1cb5 ⟨Nat.le_of_ble_eq_true rfl, Nat.le_of_ble_eq_true rfl⟩ hG hZ hP hD hS hA 0 rfl rfl rfl [] [0] rfl rfl rfl rfl rfl hl.1 rfl (Nat.le_of_ble_eq_true rfl) d_L28_5 ⟨Nat.le_of_ble_eq_true rfl, Nat.le_of_ble_eq_true rfl⟩ (fun q0 ce9 H locs hP hD hS h7 h8 h9 => ?_)
  have hP : va_P z.1 classes [(a0, .inr (11, [.ref a2, .ref a3, .ref a4, .ref a5, .ref a6, .ref a7, .ref a8, .ref a9, .ref a10, .ref a11, .int 0, .int 0, .ref a12, .int 0]))] H := hP
  have hD : va_D A [(a0, .inr (11, [.ref a2, .ref a3, .ref a4, .ref a5, .ref a6, .ref a7, .ref a8, .ref a9, .ref a10, .ref a11, .int 0, .int 0, .ref a12, .int 0]))] := hD
  refine vx_catch hown [] ⟨0, 10, 13, 21⟩ [] (htab.trans rfl) (fun _ h9 => absurd h9 List.not_mem_nil) rfl (by decide) (hts _ w_850) (va_Nw.use rfl (hG.2.1 _ n_879 rfl)) h7 h8 h9 ?_
  refine lv_astore (lv' := [(4, .ref q0), (0, .ref a0), (1, .int x0), (2, .int x1), (3, .ref a1)]) hx hb d_L28_13 hl (by decide) rfl (fun ls hl => ?_)
  refine lv_iconst (v := 1) hx hb d_L28_15 (by decide +kernel) ?_
  refine W.widen (k := 1) (n := 6) (Nat.le_of_ble_eq_true rfl) (Nat.le_of_ble_eq_true rfl) ?_
  refine vx_ret ?_
  exact W.iret hx hb hr (fun t ht hW => qk hP hD hS [0] rfl ((fun k => k), (fun _ _ => none)) rfl rfl rfl ht) hS.2.2 d_L28_16
set_option maxRecDepth 100000 in
set_option maxHeartbeats 4000000 in
theorem c468_BModel_isIn (l : Launch) (z : Zz) (x0 : Int32) (h0 : x0 < (-1000)) : CT l z ⟨"BallothallModel", "isIn", "(III)Z"⟩ prog_14_method_20_code 3 (some .boolean) [.int x0, .int (-1000), .int 1000] [] 0 0 0 0 (fun u => some (.int 0)) (fun u => []) := by
  refine CT.of (own := "BallothallModel") (by decide +kernel) (Nat.le_of_ble_eq_true rfl) rfl (fun p e s m below meth c A ls hx hb hml hr hts hown hlocks hin hA hG hZ hP hD hS hl => ?_)
  have hl : lv_has ls 3 [(0, .int x0), (1, .int (-1000)), (2, .int 1000)] := hl
  refine lv_iload_n hx hb d_14_20_0 rfl (lv_at hl 0 rfl) ?_
  refine lv_iload_n hx hb d_14_20_1 rfl (lv_at hl 1 rfl) ?_
  refine lv_icmp_lt (tgt := 14) hx hb d_14_20_2 (by decide) (fun _ => ?_) (fun c9 => absurd h0 c9)
  refine lv_iconst (v := 0) hx hb d_14_20_14 (by decide +kernel) ?_
  refine W.widen (k := 0) (n := 0) (Nat.le_of_ble_eq_true rfl) (Nat.le_of_ble_eq_true rfl) ?_
  exact W.zret hx hb hr rfl (fun t ht hW => qk hP hD hS [] rfl ((fun k => k), (fun _ _ => none)) rfl rfl rfl ht) hS.2.2 d_14_20_15
set_option maxRecDepth 100000 in
set_option maxHeartbeats 4000000 in
theorem c469_BModel_winnerWith (l : Launch) (z : Zz) (a0 a1 a2 a3 a4 : Nat) (x0 : Int32) (x1 : Int32) (h0 : ¬ x0 < 0) (h1 : ¬ 4 < x0) (h2 : x1 < (-1000)) : CT l z ⟨"BallothallModel", "winnerWith", "(II)I"⟩ prog_14_method_70_code 6 (some .int) [.ref a0, .int x0, .int x1] [(a0, .inr (18, [.ref a1, .ref a2, .int 0, .ref a3, .int 0, .ref a4, .int 0, .null, .int 0, .null, .long 0, .int 0, .null]))] 1 30 0 0 (fun u => some (.int 0)) (fun u => [(a0, .inr (18, [.ref a1, .ref a2, .int 0, .ref a3, .int 0, .ref a4, .int 1, .null, .int 0, .null, .long 0, .int 0, .null]))]) := by
  refine CT.of (own := "BallothallModel") (by decide +kernel) (Nat.le_of_ble_eq_true rfl) rfl (fun p e s m below meth c A ls hx hb hml hr hts hown hlocks hin hA hG hZ hP hD hS hl => ?_)
  have hl : lv_has ls 6 [(0, .ref a0), (1, .int x0), (2, .int x1)] := hl
  refine lv_aload_n hx hb d_14_70_0 rfl (lv_at hl 0 rfl) ?_
  refine lv_iload_n hx hb d_14_70_1 rfl (lv_at hl 1 rfl) ?_
  refine lv_iconst (v := 0) hx hb d_14_70_2 (by decide +kernel) ?_
  refine lv_iconst (v := 4) hx hb d_14_70_3 (by decide +kernel) ?_
  refine kS (As := [.int x0, .int 0, .int 4]) (rest := [.ref a0]) (wr := [(a0, .inr (18, [.ref a1, .ref a2, .int 0, .ref a3, .int 0, .ref a4, .int 0, .null, .int 0, .null, .long 0, .int 0, .null]))]) (c425_BModel_isIn l z x0 h0 h1) hx hb hml hown hts w_1718 w_1716 w_1717 w_12 md_bca45c ⟨Nat.le_of_ble_eq_true rfl, Nat.le_of_ble_eq_true rfl⟩ hG hZ hP hD hS hA [] [0] rfl rfl rfl rfl rfl hl.1 rfl (Nat.le_of_ble_eq_true rfl) d_14_70_4 ⟨Nat.le_of_ble_eq_true rfl, Nat.le_of_ble_eq_true rfl⟩ (fun u0 H locs hP hD hS => ?_)
  have hP : va_P z.1 classes [(a0, .inr (18, [.ref a1, .ref a2, .int 0, .ref a3, .int 0, .ref a4, .int 0, .null, .int 0, .null, .long 0, .int 0, .null]))] H := hP
  have hD : va_D A [(a0, .inr (18, [.ref a1, .ref a2, .int 0, .ref a3, .int 0, .ref a4, .int 0, .null, .int 0, .null, .long 0, .int 0, .null]))] := hD
  refine W.eq (g2 := F0 m 7 ls [.int 1, .ref a0]) rfl ?_
  refine lv_if_eq (tgt := 27) hx hb d_14_70_7 (by decide) (fun c9 => absurd c9 (by decide +kernel)) (fun _ => ?_)
  refine lv_iload_n hx hb d_14_70_10 rfl (lv_at hl 2 rfl) ?_
  refine lv_sipush (v := (-1000)) hx hb d_14_70_11 (by decide +kernel) ?_
  refine lv_sipush (v := 1000) hx hb d_14_70_14 (by decide +kernel) ?_
  refine kS (As := [.int x1, .int (-1000), .int 1000]) (rest := [.ref a0]) (wr := [(a0, .inr (18, [.ref a1, .ref a2, .int 0, .ref a3, .int 0, .ref a4, .int 0, .null, .int 0, .null, .long 0, .int 0, .null]))]) (c468_BModel_isIn l z x1 h2) hx hb hml hown hts w_1718 w_1716 w_1717 w_12 md_bca45c ⟨Nat.le_of_ble_eq_true rfl, Nat.le_of_ble_eq_true rfl⟩ hG hZ hP hD hS hA [] [0] rfl rfl rfl rfl rfl hl.1 rfl (Nat.le_of_ble_eq_true rfl) d_14_70_17 ⟨Nat.le_of_ble_eq_true rfl, Nat.le_of_ble_eq_true rfl⟩ (fun u1 H locs hP hD hS => ?_)
  have hP : va_P z.1 classes [(a0, .inr (18, [.ref a1, .ref a2, .int 0, .ref a3, .int 0, .ref a4, .int 0, .null, .int 0, .null, .long 0, .int 0, .null]))] H := hP
  have hD : va_D A [(a0, .inr (18, [.ref a1, .ref a2, .int 0, .ref a3, .int 0, .ref a4, .int 0, .null, .int 0, .null, .long 0, .int 0, .null]))] := hD
  refine W.eq (g2 := F0 m 20 ls [.int 0, .ref a0]) rfl ?_
  refine lv_if_eq (tgt := 27) hx hb d_14_70_20 (by decide) (fun _ => ?_) (fun c9 => absurd (by decide +kernel) c9)
  refine lv_iconst (v := 0) hx hb d_14_70_27 (by decide +kernel) ?_
  refine lv_iconst (v := 1) hx hb d_14_70_28 (by decide +kernel) ?_
  refine kV (As := [.int 0, .int 1]) (rest := []) (wr := []) (c31_BModel_ends l z a0 a1 a2 a3 a4) hx hb hml hown hts w_1696 w_1693 w_1695 w_s_f8f2b7 w_12 md_77b0f8 ⟨Nat.le_of_ble_eq_true rfl, Nat.le_of_ble_eq_true rfl⟩ hG hZ hP hD hS hA 0 rfl rfl rfl [0] [] rfl rfl rfl rfl rfl hl.1 rfl (Nat.le_of_ble_eq_true rfl) d_14_70_29 ⟨Nat.le_of_ble_eq_true rfl, Nat.le_of_ble_eq_true rfl⟩ (fun u2 H locs hP hD hS => ?_)
  have hP : va_P z.1 classes [(a0, .inr (18, [.ref a1, .ref a2, .int 0, .ref a3, .int 0, .ref a4, .int 1, .null, .int 0, .null, .long 0, .int 0, .null]))] H := hP
  have hD : va_D A [(a0, .inr (18, [.ref a1, .ref a2, .int 0, .ref a3, .int 0, .ref a4, .int 1, .null, .int 0, .null, .long 0, .int 0, .null]))] := hD
  refine W.eq (g2 := F0 m 32 ls [.int 1]) rfl ?_
  refine lv_if_eq (tgt := 37) hx hb d_14_70_32 (by decide) (fun c9 => absurd c9 (by decide +kernel)) (fun _ => ?_)
  refine lv_iconst (v := 0) hx hb d_14_70_35 (by decide +kernel) ?_
  refine W.widen (k := 0) (n := 0) (Nat.le_of_ble_eq_true rfl) (Nat.le_of_ble_eq_true rfl) ?_
  exact W.iret hx hb hr (fun t ht hW => qk hP hD hS [0] rfl ((fun k => k), (fun _ _ => none)) rfl rfl rfl ht) hS.2.2 d_14_70_36
set_option maxRecDepth 100000 in
set_option maxHeartbeats 4000000 in
theorem c470_B_needRange (l : Launch) (z : Zz) (hl0 : l.stackTraces = false) (x0 : Int32) (h0 : ¬ x0 < (-1000)) (h1 : 1000 < x0) : XT l z ⟨"Ballothall", "needRange", "(III)V"⟩ prog_1_method_57_code 3 none [.int x0, .int (-1000), .int 1000] [] 6 98 1 6 "java/lang/IllegalArgumentException" := by
  refine XT.of (own := "Ballothall") (by decide +kernel) (Nat.le_of_ble_eq_true rfl) rfl (fun p e s m below meth c A ls hx hb hml hr hts hown hlocks hin hA hG hZ hP hD hS hl hnt => ?_)
  have hl : lv_has ls 3 [(0, .int x0), (1, .int (-1000)), (2, .int 1000)] := hl
  refine lv_iload_n hx hb d_1_57_0 rfl (lv_at hl 0 rfl) ?_
  refine lv_iload_n hx hb d_1_57_1 rfl (lv_at hl 1 rfl) ?_
  refine lv_icmp_lt (tgt := 10) hx hb d_1_57_2 (by decide) (fun c9 => absurd c9 h0) (fun _ => ?_)
  refine lv_iload_n hx hb d_1_57_5 rfl (lv_at hl 0 rfl) ?_
  refine lv_iload_n hx hb d_1_57_6 rfl (lv_at hl 2 rfl) ?_
  refine lv_icmp_le (tgt := 21) hx hb d_1_57_7 (by decide) (fun c9 => absurd c9 (Int32.not_le.mpr h1)) (fun _ => ?_)
  exact x_newW (text := "out of range") hl0 hx hb hml hown hts hlocks hnt hG hZ hS hl.1 (by decide +kernel) w_877 w_21 (by decide) xa_310_a xa_310_b d_1_57_10 d_1_57_13 d_1_57_14 d_1_57_17 d_1_57_20 ⟨Nat.le_of_ble_eq_true rfl, Nat.le_of_ble_eq_true rfl, Nat.le_of_ble_eq_true rfl, Nat.le_of_ble_eq_true rfl⟩ (Nat.le_of_ble_eq_true rfl) (Nat.le_of_ble_eq_true rfl) (Nat.le_of_ble_eq_true rfl)
set_option maxRecDepth 100000 in
set_option maxHeartbeats 4000000 in
theorem c471_B_winnerWith (l : Launch) (z : Zz) (hl0 : l.stackTraces = false) (a0 : Nat) (x0 : Int32) (x1 : Int32) (h0 : ¬ x0 < 0) (h1 : ¬ 4 < x0) (h2 : ¬ x1 < (-1000)) (h3 : 1000 < x1) : XT l z ⟨"Ballothall", "winnerWith", "(II)I"⟩ prog_1_method_35_code 5 (some .int) [.ref a0, .int x0, .int x1] [] 7 128 1 6 "java/lang/IllegalArgumentException" := by
  refine XT.of (own := "Ballothall") (by decide +kernel) (Nat.le_of_ble_eq_true rfl) rfl (fun p e s m below meth c A ls hx hb hml hr hts hown hlocks hin hA hG hZ hP hD hS hl hnt => ?_)
  have hl : lv_has ls 5 [(0, .ref a0), (1, .int x0), (2, .int x1)] := hl
  refine lv_iload_n hx hb d_1_35_0 rfl (lv_at hl 1 rfl) ?_
  refine lv_iconst (v := 0) hx hb d_1_35_1 (by decide +kernel) ?_
  refine lv_iconst (v := 4) hx hb d_1_35_2 (by decide +kernel) ?_
  refine kS (As := [.int x0, .int 0, .int 4]) (rest := []) (wr := []) (c421_B_needRange l z x0 h0 h1) hx hb hml hown hts w_876 w_874 w_875 w_1 md_519134 ⟨Nat.le_of_ble_eq_true rfl, Nat.le_of_ble_eq_true rfl⟩ hG hZ hP hD hS hA [] [] rfl rfl rfl rfl rfl hl.1 rfl (Nat.le_of_ble_eq_true rfl) d_1_35_3 ⟨Nat.le_of_ble_eq_true rfl, Nat.le_of_ble_eq_true rfl⟩ (fun u0 H locs hP hD hS => ?_)
  have hP : va_P z.1 classes [] H := hP
  have hD : va_D A [] := hD
  refine W.eq (g2 := F0 m 6 ls []) rfl ?_
  refine lv_iload_n hx hb d_1_35_6 rfl (lv_at hl 2 rfl) ?_
  refine lv_sipush (v := (-1000)) hx hb d_1_35_7 (by decide +kernel) ?_
  refine lv_sipush (v := 1000) hx hb d_1_35_10 (by decide +kernel) ?_
  exact xS (As := [.int x1, .int (-1000), .int 1000]) (rest := []) (wr := []) (c470_B_needRange l z hl0 x1 h2 h3) hx hb hml hown hts w_876 w_874 w_875 w_1 md_519134 ⟨Nat.le_of_ble_eq_true rfl, Nat.le_of_ble_eq_true rfl⟩ hG hZ hP hD hS hA [] [] rfl rfl rfl rfl rfl hl.1 rfl (Nat.le_of_ble_eq_true rfl) d_1_35_13 ⟨Nat.le_of_ble_eq_true rfl, Nat.le_of_ble_eq_true rfl⟩ (fun q9 ce9 H locs hP hD hS h7 h8 h9 => x_out hnt hlocks hS h7 h8 h9 (Nat.le_of_ble_eq_true rfl) (Nat.le_of_ble_eq_true rfl))
set_option maxRecDepth 100000 in
set_option maxHeartbeats 4000000 in
theorem c472_BLaw_winnerWith (l : Launch) (z : Zz) (hl0 : l.stackTraces = false) (a0 a1 a2 a3 a4 a5 a6 a7 a8 a9 a10 a11 a12 : Nat) (x0 : Int32) (x1 : Int32) (h0 : ¬ x0 < 0) (h1 : ¬ 4 < x0) (h2 : ¬ x1 < (-1000)) (h3 : 1000 < x1) : HT l z ⟨"BallothallLaw", "winnerWith", "(LBallothall;II[J)I"⟩ method_28_code 5 (some .int) [(0, 10, 13, 21)] [.ref a0, .int x0, .int x1, .ref a1] [(a0, .inr (11, [.ref a2, .ref a3, .ref a4, .ref a5, .ref a6, .ref a7, .ref a8, .ref a9, .ref a10, .ref a11, .int 0, .int 0, .ref a12, .int 0]))] 8 160 1 6 (fun u => some (.int 1)) (fun u => [(a0, .inr (11, [.ref a2, .ref a3, .ref a4, .ref a5, .ref a6, .ref a7, .ref a8, .ref a9, .ref a10, .ref a11, .int 0, .int 0, .ref a12, .int 0]))]) := by
  refine HT.of (own := "BallothallLaw") (by decide +kernel) (Nat.le_of_ble_eq_true rfl) rfl (fun p e s m below meth c A ls hx hb hml hr hts hown hlocks hin hA hG hZ hP hD hS hl htab => ?_)
  have hl : lv_has ls 5 [(0, .ref a0), (1, .int x0), (2, .int x1), (3, .ref a1)] := hl
  refine lv_aload_n hx hb d_L28_0 rfl (lv_at hl 3 rfl) ?_
  refine lv_iconst (v := 0) hx hb d_L28_1 (by decide +kernel) ?_
  refine lv_aload_n hx hb d_L28_2 rfl (lv_at hl 0 rfl) ?_
  refine lv_iload_n hx hb d_L28_3 rfl (lv_at hl 1 rfl) ?_
  refine lv_iload_n hx hb d_L28_4 rfl (lv_at hl 2 rfl) ?_
  refine xV (As := [.int x0, .int x1]) (rest := [.int 0, .ref a1]) (wr := [(a0, .inr (11, [.ref a2, .ref a3, .ref a4, .ref a5, .ref a6, .ref a7, .ref a8, .ref a9, .ref a10, .ref a11, .int 0, .int 0, .ref a12, .int 0]))]) (c471_B_winnerWith l z hl0 a0 x0 x1 h0 h1 h2 h3) hx hb hml hown hts w_1375 w_1372 w_1373 w_1374 w_1 md_4c1cb5 ⟨Nat.le_of_ble_eq_true rfl, Nat.le_of_ble_eq_true rfl⟩ hG hZ hP hD hS hA 0 rfl rfl rfl [] [0] rfl rfl rfl rfl rfl hl.1 rfl (Nat.le_of_ble_eq_true rfl) d_L28_5 ⟨Nat.le_of_ble_eq_true rfl, Nat.le_of_ble_eq_true rfl⟩ (fun q0 ce9 H locs hP hD hS h7 h8 h9 => ?_)
  have hP : va_P z.1 classes [(a0, .inr (11, [.ref a2, .ref a3, .ref a4, .ref a5, .ref a6, .ref a7, .ref a8, .ref a9, .ref a10, .ref a11, .int 0, .int 0, .ref a12, .int 0]))] H := hP
  have hD : va_D A [(a0, .inr (11, [.ref a2, .ref a3, .ref a4, .ref a5, .ref a6, .ref a7, .ref a8, .ref a9, .ref a10, .ref a11, .int 0, .int 0, .ref a12, .int 0]))] := hD
  refine vx_catch hown [] ⟨0, 10, 13, 21⟩ [] (htab.trans rfl) (fun _ h9 => absurd h9 List.not_mem_nil) rfl (by decide) (hts _ w_850) (va_Nw.use rfl (hG.2.1 _ n_879 rfl)) h7 h8 h9 ?_
  refine lv_astore (lv' := [(4, .ref q0), (0, .ref a0), (1, .int x0), (2, .int x1), (3, .ref a1)]) hx hb d_L28_13 hl (by decide) rfl (fun ls hl => ?_)
  refine lv_iconst (v := 1) hx hb d_L28_15 (by decide +kernel) ?_
  refine W.widen (k := 1) (n := 6) (Nat.le_of_ble_eq_true rfl) (Nat.le_of_ble_eq_true rfl) ?_
  refine vx_ret ?_
  exact W.iret hx hb hr (fun t ht hW => qk hP hD hS [0] rfl ((fun k => k), (fun _ _ => none)) rfl rfl rfl ht) hS.2.2 d_L28_16
set_option maxRecDepth 100000 in
set_option maxHeartbeats 4000000 in
theorem c473_BModel_isIn (l : Launch) (z : Zz) (x0 : Int32) (h0 : ¬ x0 < (-1000)) (h1 : 1000 < x0) : CT l z ⟨"BallothallModel", "isIn", "(III)Z"⟩ prog_14_method_20_code 3 (some .boolean) [.int x0, .int (-1000), .int 1000] [] 0 0 0 0 (fun u => some (.int 0)) (fun u => []) := by
  refine CT.of (own := "BallothallModel") (by decide +kernel) (Nat.le_of_ble_eq_true rfl) rfl (fun p e s m below meth c A ls hx hb hml hr hts hown hlocks hin hA hG hZ hP hD hS hl => ?_)
  have hl : lv_has ls 3 [(0, .int x0), (1, .int (-1000)), (2, .int 1000)] := hl
  refine lv_iload_n hx hb d_14_20_0 rfl (lv_at hl 0 rfl) ?_
  refine lv_iload_n hx hb d_14_20_1 rfl (lv_at hl 1 rfl) ?_
  refine lv_icmp_lt (tgt := 14) hx hb d_14_20_2 (by decide) (fun c9 => absurd c9 h0) (fun _ => ?_)
  refine lv_iload_n hx hb d_14_20_5 rfl (lv_at hl 0 rfl) ?_
  refine lv_iload_n hx hb d_14_20_6 rfl (lv_at hl 2 rfl) ?_
  refine lv_icmp_gt (tgt := 14) hx hb d_14_20_7 (by decide) (fun _ => ?_) (fun c9 => absurd h1 c9)
  refine lv_iconst (v := 0) hx hb d_14_20_14 (by decide +kernel) ?_
  refine W.widen (k := 0) (n := 0) (Nat.le_of_ble_eq_true rfl) (Nat.le_of_ble_eq_true rfl) ?_
  exact W.zret hx hb hr rfl (fun t ht hW => qk hP hD hS [] rfl ((fun k => k), (fun _ _ => none)) rfl rfl rfl ht) hS.2.2 d_14_20_15
set_option maxRecDepth 100000 in
set_option maxHeartbeats 4000000 in
theorem c474_BModel_winnerWith (l : Launch) (z : Zz) (a0 a1 a2 a3 a4 : Nat) (x0 : Int32) (x1 : Int32) (h0 : ¬ x0 < 0) (h1 : ¬ 4 < x0) (h2 : ¬ x1 < (-1000)) (h3 : 1000 < x1) : CT l z ⟨"BallothallModel", "winnerWith", "(II)I"⟩ prog_14_method_70_code 6 (some .int) [.ref a0, .int x0, .int x1] [(a0, .inr (18, [.ref a1, .ref a2, .int 0, .ref a3, .int 0, .ref a4, .int 0, .null, .int 0, .null, .long 0, .int 0, .null]))] 1 30 0 0 (fun u => some (.int 0)) (fun u => [(a0, .inr (18, [.ref a1, .ref a2, .int 0, .ref a3, .int 0, .ref a4, .int 1, .null, .int 0, .null, .long 0, .int 0, .null]))]) := by
  refine CT.of (own := "BallothallModel") (by decide +kernel) (Nat.le_of_ble_eq_true rfl) rfl (fun p e s m below meth c A ls hx hb hml hr hts hown hlocks hin hA hG hZ hP hD hS hl => ?_)
  have hl : lv_has ls 6 [(0, .ref a0), (1, .int x0), (2, .int x1)] := hl
  refine lv_aload_n hx hb d_14_70_0 rfl (lv_at hl 0 rfl) ?_
  refine lv_iload_n hx hb d_14_70_1 rfl (lv_at hl 1 rfl) ?_
  refine lv_iconst (v := 0) hx hb d_14_70_2 (by decide +kernel) ?_
  refine lv_iconst (v := 4) hx hb d_14_70_3 (by decide +kernel) ?_
  refine kS (As := [.int x0, .int 0, .int 4]) (rest := [.ref a0]) (wr := [(a0, .inr (18, [.ref a1, .ref a2, .int 0, .ref a3, .int 0, .ref a4, .int 0, .null, .int 0, .null, .long 0, .int 0, .null]))]) (c425_BModel_isIn l z x0 h0 h1) hx hb hml hown hts w_1718 w_1716 w_1717 w_12 md_bca45c ⟨Nat.le_of_ble_eq_true rfl, Nat.le_of_ble_eq_true rfl⟩ hG hZ hP hD hS hA [] [0] rfl rfl rfl rfl rfl hl.1 rfl (Nat.le_of_ble_eq_true rfl) d_14_70_4 ⟨Nat.le_of_ble_eq_true rfl, Nat.le_of_ble_eq_true rfl⟩ (fun u0 H locs hP hD hS => ?_)
  have hP : va_P z.1 classes [(a0, .inr (18, [.ref a1, .ref a2, .int 0, .ref a3, .int 0, .ref a4, .int 0, .null, .int 0, .null, .long 0, .int 0, .null]))] H := hP
  have hD : va_D A [(a0, .inr (18, [.ref a1, .ref a2, .int 0, .ref a3, .int 0, .ref a4, .int 0, .null, .int 0, .null, .long 0, .int 0, .null]))] := hD
  refine W.eq (g2 := F0 m 7 ls [.int 1, .ref a0]) rfl ?_
  refine lv_if_eq (tgt := 27) hx hb d_14_70_7 (by decide) (fun c9 => absurd c9 (by decide +kernel)) (fun _ => ?_)
  refine lv_iload_n hx hb d_14_70_10 rfl (lv_at hl 2 rfl) ?_
  refine lv_sipush (v := (-1000)) hx hb d_14_70_11 (by decide +kernel) ?_
  refine lv_sipush (v := 1000) hx hb d_14_70_14 (by decide +kernel) ?_
  refine kS (As := [.int x1, .int (-1000), .int 1000]) (rest := [.ref a0]) (wr := [(a0, .inr (18, [.ref a1, .ref a2, .int 0, .ref a3, .int 0, .ref a4, .int 0, .null, .int 0, .null, .long 0, .int 0, .null]))]) (c473_BModel_isIn l z x1 h2 h3) hx hb hml hown hts w_1718 w_1716 w_1717 w_12 md_bca45c ⟨Nat.le_of_ble_eq_true rfl, Nat.le_of_ble_eq_true rfl⟩ hG hZ hP hD hS hA [] [0] rfl rfl rfl rfl rfl hl.1 rfl (Nat.le_of_ble_eq_true rfl) d_14_70_17 ⟨Nat.le_of_ble_eq_true rfl, Nat.le_of_ble_eq_true rfl⟩ (fun u1 H locs hP hD hS => ?_)
  have hP : va_P z.1 classes [(a0, .inr (18, [.ref a1, .ref a2, .int 0, .ref a3, .int 0, .ref a4, .int 0, .null, .int 0, .null, .long 0, .int 0, .null]))] H := hP
  have hD : va_D A [(a0, .inr (18, [.ref a1, .ref a2, .int 0, .ref a3, .int 0, .ref a4, .int 0, .null, .int 0, .null, .long 0, .int 0, .null]))] := hD
  refine W.eq (g2 := F0 m 20 ls [.int 0, .ref a0]) rfl ?_
  refine lv_if_eq (tgt := 27) hx hb d_14_70_20 (by decide) (fun _ => ?_) (fun c9 => absurd (by decide +kernel) c9)
  refine lv_iconst (v := 0) hx hb d_14_70_27 (by decide +kernel) ?_
  refine lv_iconst (v := 1) hx hb d_14_70_28 (by decide +kernel) ?_
  refine kV (As := [.int 0, .int 1]) (rest := []) (wr := []) (c31_BModel_ends l z a0 a1 a2 a3 a4) hx hb hml hown hts w_1696 w_1693 w_1695 w_s_f8f2b7 w_12 md_77b0f8 ⟨Nat.le_of_ble_eq_true rfl, Nat.le_of_ble_eq_true rfl⟩ hG hZ hP hD hS hA 0 rfl rfl rfl [0] [] rfl rfl rfl rfl rfl hl.1 rfl (Nat.le_of_ble_eq_true rfl) d_14_70_29 ⟨Nat.le_of_ble_eq_true rfl, Nat.le_of_ble_eq_true rfl⟩ (fun u2 H locs hP hD hS => ?_)
  have hP : va_P z.1 classes [(a0, .inr (18, [.ref a1, .ref a2, .int 0, .ref a3, .int 0, .ref a4, .int 1, .null, .int 0, .null, .long 0, .int 0, .null]))] H := hP
  have hD : va_D A [(a0, .inr (18, [.ref a1, .ref a2, .int 0, .ref a3, .int 0, .ref a4, .int 1, .null, .int 0, .null, .long 0, .int 0, .null]))] := hD
  refine W.eq (g2 := F0 m 32 ls [.int 1]) rfl ?_
  refine lv_if_eq (tgt := 37) hx hb d_14_70_32 (by decide) (fun c9 => absurd c9 (by decide +kernel)) (fun _ => ?_)
  refine lv_iconst (v := 0) hx hb d_14_70_35 (by decide +kernel) ?_
  refine W.widen (k := 0) (n := 0) (Nat.le_of_ble_eq_true rfl) (Nat.le_of_ble_eq_true rfl) ?_
  exact W.iret hx hb hr (fun t ht hW => qk hP hD hS [0] rfl ((fun k => k), (fun _ _ => none)) rfl rfl rfl ht) hS.2.2 d_14_70_36
set_option maxRecDepth 100000 in
set_option maxHeartbeats 4000000 in
theorem c475_B_needRange (l : Launch) (z : Zz) (x0 : Int32) (h0 : ¬ x0 < (-1000)) (h1 : ¬ 1000 < x0) : CT l z ⟨"Ballothall", "needRange", "(III)V"⟩ prog_1_method_57_code 3 none [.int x0, .int (-1000), .int 1000] [] 0 0 0 0 (fun u => none) (fun u => []) := by
  refine CT.of (own := "Ballothall") (by decide +kernel) (Nat.le_of_ble_eq_true rfl) rfl (fun p e s m below meth c A ls hx hb hml hr hts hown hlocks hin hA hG hZ hP hD hS hl => ?_)
  have hl : lv_has ls 3 [(0, .int x0), (1, .int (-1000)), (2, .int 1000)] := hl
  refine lv_iload_n hx hb d_1_57_0 rfl (lv_at hl 0 rfl) ?_
  refine lv_iload_n hx hb d_1_57_1 rfl (lv_at hl 1 rfl) ?_
  refine lv_icmp_lt (tgt := 10) hx hb d_1_57_2 (by decide) (fun c9 => absurd c9 h0) (fun _ => ?_)
  refine lv_iload_n hx hb d_1_57_5 rfl (lv_at hl 0 rfl) ?_
  refine lv_iload_n hx hb d_1_57_6 rfl (lv_at hl 2 rfl) ?_
  refine lv_icmp_le (tgt := 21) hx hb d_1_57_7 (by decide) (fun _ => ?_) (fun c9 => absurd (Int32.not_lt.mp h1) c9)
  refine W.widen (k := 0) (n := 0) (Nat.le_of_ble_eq_true rfl) (Nat.le_of_ble_eq_true rfl) ?_
  exact W.vret hx hb hr (fun t ht hW => qk hP hD hS [] rfl ((fun k => k), (fun _ _ => none)) rfl rfl rfl ht) hS.2.2 d_1_57_21
set_option maxRecDepth 100000 in
set_option maxHeartbeats 4000000 in
theorem c476_BallotBox_topOf (l : Launch) (z : Zz) (a0 a1 a2 a3 a4 a5 a6 a7 : Nat) : CT l z ⟨"Ballothall$BallotBox", "topOf", "(II)I"⟩ prog_2_method_13_code 5 (some .int) [.ref a0, .int 30, .int 0] [(a0, .inr (0, [.ref a1, .int 0, .int 0, .int 0, .ref a2, .ref a3, .ref a4, .ref a5, .ref a6, .ref a7])), (a5, .inl (z.2 0, 31, .inl (fun _ => 0)))] 0 0 0 0 (fun u => some (.int 0)) (fun u => [(a0, .inr (0, [.ref a1, .int 0, .int 0, .int 0, .ref a2, .ref a3, .ref a4, .ref a5, .ref a6, .ref a7])), (a5, .inl (z.2 0, 31, .inl (fun _ => 0)))]) := by
  refine CT.of (own := "Ballothall$BallotBox") (by decide +kernel) (Nat.le_of_ble_eq_true rfl) rfl (fun p e s m below meth c A ls hx hb hml hr hts hown hlocks hin hA hG hZ hP hD hS hl => ?_)
  have hl : lv_has ls 5 [(0, .ref a0), (1, .int 30), (2, .int 0)] := hl
  refine lv_iconst (v := 0) hx hb d_2_13_0 (by decide +kernel) ?_
  refine lv_istore_n (lv' := [(3, .int 0), (0, .ref a0), (1, .int 30), (2, .int 0)]) hx hb d_2_13_1 rfl hl (by decide) rfl (fun ls hl => ?_)
  refine lv_iload_n hx hb d_2_13_2 rfl (lv_at hl 0 rfl) ?_
  refine lv_aload_n hx hb d_2_13_3 rfl (lv_at hl 1 rfl) ?_
  refine va_get (D := z.1) (ci := 0) (v := .ref a5) (C := "Ballothall$BallotBox") (T := TX0) (N := 10) hx hb hts iX0 hown hG.1 hP 0 rfl rfl 7 (by decide) (hts _ w_77) (fun _ h9 => h9) rfl d_2_13_4 ?_
  refine lv_iload_n hx hb d_2_13_7 rfl (lv_at hl 2 rfl) ?_
  refine va_iald hx hb hG.1 hP 1 0 rfl rfl (vin rfl) d_2_13_8 ?_
  refine nrm (x1 := 0) rfl ?_
  refine lv_icmp_ge (tgt := 38) hx hb d_2_13_9 (by decide) (fun _ => ?_) (fun c9 => absurd (by decide +kernel) c9)
  refine lv_iconst (v := 0) hx hb d_2_13_38 (by decide +kernel) ?_
  refine W.widen (k := 0) (n := 0) (Nat.le_of_ble_eq_true rfl) (Nat.le_of_ble_eq_true rfl) ?_
  exact W.iret hx hb hr (fun t ht hW => qk hP hD hS [0, 1] rfl ((fun k => k), (fun _ _ => none)) rfl rfl rfl ht) hS.2.2 d_2_13_39
set_option maxRecDepth 100000 in
set_option maxHeartbeats 4000000 in
theorem c477_BallotBox_soleTopOf (l : Launch) (z : Zz) (a0 a1 a2 a3 a4 a5 a6 a7 : Nat) : CT l z ⟨"Ballothall$BallotBox", "soleTopOf", "(II)I"⟩ prog_2_method_14_code 4 (some .int) [.ref a0, .int 30, .int 0] [(a0, .inr (0, [.ref a1, .int 0, .int 0, .int 0, .ref a2, .ref a3, .ref a4, .ref a5, .ref a6, .ref a7])), (a5, .inl (z.2 0, 31, .inl (fun _ => 0)))] 1 32 0 0 (fun u => some (.int (-1))) (fun u => [(a0, .inr (0, [.ref a1, .int 0, .int 0, .int 0, .ref a2, .ref a3, .ref a4, .ref a5, .ref a6, .ref a7])), (a5, .inl (z.2 0, 31, .inl (fun _ => 0)))]) := by
  refine CT.of (own := "Ballothall$BallotBox") (by decide +kernel) (Nat.le_of_ble_eq_true rfl) rfl (fun p e s m below meth c A ls hx hb hml hr hts hown hlocks hin hA hG hZ hP hD hS hl => ?_)
  have hl : lv_has ls 4 [(0, .ref a0), (1, .int 30), (2, .int 0)] := hl
  refine lv_aload_n hx hb d_2_14_0 rfl (lv_at hl 0 rfl) ?_
  refine lv_iload_n hx hb d_2_14_1 rfl (lv_at hl 1 rfl) ?_
  refine lv_iload_n hx hb d_2_14_2 rfl (lv_at hl 2 rfl) ?_
  refine kV (As := [.int 30, .int 0]) (rest := []) (wr := []) (c476_BallotBox_topOf l z a0 a1 a2 a3 a4 a5 a6 a7) hx hb hml hown hts w_499 w_496 w_498 w_s_b213f0 w_2 md_ddec8b ⟨Nat.le_of_ble_eq_true rfl, Nat.le_of_ble_eq_true rfl⟩ hG hZ hP hD hS hA 0 rfl rfl rfl [0, 1] [] rfl rfl rfl rfl rfl hl.1 rfl (Nat.le_of_ble_eq_true rfl) d_2_14_3 ⟨Nat.le_of_ble_eq_true rfl, Nat.le_of_ble_eq_true rfl⟩ (fun u0 H locs hP hD hS => ?_)
  have hP : va_P z.1 classes [(a0, .inr (0, [.ref a1, .int 0, .int 0, .int 0, .ref a2, .ref a3, .ref a4, .ref a5, .ref a6, .ref a7])), (a5, .inl (z.2 0, 31, .inl (fun _ => 0)))] H := hP
  have hD : va_D A [(a0, .inr (0, [.ref a1, .int 0, .int 0, .int 0, .ref a2, .ref a3, .ref a4, .ref a5, .ref a6, .ref a7])), (a5, .inl (z.2 0, 31, .inl (fun _ => 0)))] := hD
  refine W.eq (g2 := F0 m 6 ls [.int 0]) rfl ?_
  refine lv_istore_n (lv' := [(3, .int 0), (0, .ref a0), (1, .int 30), (2, .int 0)]) hx hb d_2_14_6 rfl hl (by decide) rfl (fun ls hl => ?_)
  refine lv_iload_n hx hb d_2_14_7 rfl (lv_at hl 0 rfl) ?_
  refine kS (As := [.int 0]) (rest := []) (wr := [(a0, .inr (0, [.ref a1, .int 0, .int 0, .int 0, .ref a2, .ref a3, .ref a4, .ref a5, .ref a6, .ref a7])), (a5, .inl (z.2 0, 31, .inl (fun _ => 0)))]) (c426_java_lang_Integer_bitCount l z ) hx hb hml hown hts w_502 w_500 w_501 w_28 md_eafe8c ⟨Nat.le_of_ble_eq_true rfl, Nat.le_of_ble_eq_true rfl⟩ hG hZ hP hD hS hA [] [0, 1] rfl rfl rfl rfl rfl hl.1 rfl (Nat.le_of_ble_eq_true rfl) d_2_14_8 ⟨Nat.le_of_ble_eq_true rfl, Nat.le_of_ble_eq_true rfl⟩ (fun u1 H locs hP hD hS => ?_)
  have hP : va_P z.1 classes [(a0, .inr (0, [.ref a1, .int 0, .int 0, .int 0, .ref a2, .ref a3, .ref a4, .ref a5, .ref a6, .ref a7])), (a5, .inl (z.2 0, 31, .inl (fun _ => 0)))] H := hP
  have hD : va_D A [(a0, .inr (0, [.ref a1, .int 0, .int 0, .int 0, .ref a2, .ref a3, .ref a4, .ref a5, .ref a6, .ref a7])), (a5, .inl (z.2 0, 31, .inl (fun _ => 0)))] := hD
  refine W.eq (g2 := F0 m 11 ls [.int 0]) rfl ?_
  refine lv_iconst (v := 1) hx hb d_2_14_11 (by decide +kernel) ?_
  refine lv_icmp_ne (tgt := 24) hx hb d_2_14_12 (by decide) (fun _ => ?_) (fun c9 => absurd c9 (by decide +kernel))
  refine lv_iconst (v := (-1)) hx hb d_2_14_24 (by decide +kernel) ?_
  refine W.widen (k := 0) (n := 0) (Nat.le_of_ble_eq_true rfl) (Nat.le_of_ble_eq_true rfl) ?_
  exact W.iret hx hb hr (fun t ht hW => qk hP hD hS [0, 1] rfl ((fun k => k), (fun _ _ => none)) rfl rfl rfl ht) hS.2.2 d_2_14_25
set_option maxRecDepth 100000 in
set_option maxHeartbeats 4000000 in
theorem c478_Poll_change (l : Launch) (z : Zz) (a0 a1 a2 a3 a4 a5 a6 a7 a8 a9 a10 a11 a12 a13 a14 a15 a16 a17 : Nat) (x0 : Int32) (h0 : ¬ x0 = 0) : CT l z ⟨"Ballothall$Poll", "change", "(II)V"⟩ prog_11_method_3_code 7 none [.ref a0, .int 30, .int x0] [(a0, .inr (9, [.ref a1, .int 0, .int 0, .ref a2, .ref a3, .ref a4, .ref a5, .ref a6, .ref a7, .ref a8, .ref a9, .ref a10])), (a2, .inl (z.2 0, 31, .inl (fun _ => 0))), (a1, .inr (0, [.ref a11, .int 0, .int 0, .int 0, .ref a12, .ref a13, .ref a14, .ref a15, .ref a16, .ref a17])), (a15, .inl (z.2 0, 31, .inl (fun _ => 0)))] 2 63 0 0 (fun u => none) (fun u => [(a0, .inr (9, [.ref a1, .int 0, .int x0, .ref a2, .ref a3, .ref a4, .ref a5, .ref a6, .ref a7, .ref a8, .ref a9, .ref a10])), (a2, .inl (z.2 0, 31, .inl (upd (fun _ => 0) 30 x0))), (a1, .inr (0, [.ref a11, .int 0, .int 0, .int 0, .ref a12, .ref a13, .ref a14, .ref a15, .ref a16, .ref a17])), (a15, .inl (z.2 0, 31, .inl (fun _ => 0)))]) := by
  refine CT.of (own := "Ballothall$Poll") (by decide +kernel) (Nat.le_of_ble_eq_true rfl) rfl (fun p e s m below meth c A ls hx hb hml hr hts hown hlocks hin hA hG hZ hP hD hS hl => ?_)
  have hl : lv_has ls 7 [(0, .ref a0), (1, .int 30), (2, .int x0)] := hl
  refine lv_iload_n hx hb d_11_3_0 rfl (lv_at hl 2 rfl) ?_
  refine lv_if_ne (tgt := 5) hx hb d_11_3_1 (by decide) (fun _ => ?_) (fun c9 => absurd c9 h0)
  refine lv_aload_n hx hb d_11_3_5 rfl (lv_at hl 0 rfl) ?_
  refine va_get (D := z.1) (ci := 9) (v := .ref a2) (C := "Ballothall$Poll") (T := TX9) (N := 12) hx hb hts iX9 hown hG.1 hP 0 rfl rfl 3 (by decide) (hts _ w_115) (fun _ h9 => h9) rfl d_11_3_6 ?_
  refine lv_iload_n hx hb d_11_3_9 rfl (lv_at hl 1 rfl) ?_
  refine lv_dup2_11 hx hb d_11_3_10 rfl rfl ?_
  refine va_iald hx hb hG.1 hP 1 0 rfl rfl (vin rfl) d_11_3_11 ?_
  refine nrm (x1 := 0) rfl ?_
  refine lv_iload_n hx hb d_11_3_12 rfl (lv_at hl 2 rfl) ?_
  refine lv_iadd hx hb d_11_3_13 ?_
  refine nrm (x1 := x0) (Int32.zero_add _) ?_
  refine va_iast hx hb hG.1 hP hD hS 1 0 rfl rfl (vin rfl) d_11_3_14 (fun H locs hP hD hS => ?_)
  have hP : va_P z.1 classes [(a0, .inr (9, [.ref a1, .int 0, .int 0, .ref a2, .ref a3, .ref a4, .ref a5, .ref a6, .ref a7, .ref a8, .ref a9, .ref a10])), (a2, .inl (z.2 0, 31, .inl (upd (fun _ => 0) 30 x0))), (a1, .inr (0, [.ref a11, .int 0, .int 0, .int 0, .ref a12, .ref a13, .ref a14, .ref a15, .ref a16, .ref a17])), (a15, .inl (z.2 0, 31, .inl (fun _ => 0)))] H := hP
  have hD : va_D A [(a0, .inr (9, [.ref a1, .int 0, .int 0, .ref a2, .ref a3, .ref a4, .ref a5, .ref a6, .ref a7, .ref a8, .ref a9, .ref a10])), (a2, .inl (z.2 0, 31, .inl (upd (fun _ => 0) 30 x0))), (a1, .inr (0, [.ref a11, .int 0, .int 0, .int 0, .ref a12, .ref a13, .ref a14, .ref a15, .ref a16, .ref a17])), (a15, .inl (z.2 0, 31, .inl (fun _ => 0)))] := hD
  refine lv_aload_n hx hb d_11_3_15 rfl (lv_at hl 0 rfl) ?_
  refine lv_dup hx hb d_11_3_16 rfl ?_
  refine va_get (D := z.1) (ci := 9) (v := .int 0) (C := "Ballothall$Poll") (T := TX9) (N := 12) hx hb hts iX9 hown hG.1 hP 0 rfl rfl 2 (by decide) (hts _ w_114) (fun _ h9 => h9) rfl d_11_3_17 ?_
  refine lv_iload_n hx hb d_11_3_20 rfl (lv_at hl 2 rfl) ?_
  refine lv_iadd hx hb d_11_3_21 ?_
  refine nrm (x1 := x0) (Int32.zero_add _) ?_
  refine va_put (D := z.1) (ci := 9) (v := .int x0) (ty := .int) (C := "Ballothall$Poll") (T := TX9) (N := 12) hx hb hts iX9 tyX9 tyX9_ok nmX9 hown hG.1 hP hD hS 0 rfl rfl 2 (by decide) (hts _ w_114) (fun _ h9 => h9) rfl (by decide +kernel) rfl rfl (Nat.le_of_ble_eq_true rfl) d_11_3_22 (fun H locs hP hD hS => ?_)
  have hP : va_P z.1 classes [(a0, .inr (9, [.ref a1, .int 0, .int x0, .ref a2, .ref a3, .ref a4, .ref a5, .ref a6, .ref a7, .ref a8, .ref a9, .ref a10])), (a2, .inl (z.2 0, 31, .inl (upd (fun _ => 0) 30 x0))), (a1, .inr (0, [.ref a11, .int 0, .int 0, .int 0, .ref a12, .ref a13, .ref a14, .ref a15, .ref a16, .ref a17])), (a15, .inl (z.2 0, 31, .inl (fun _ => 0)))] H := hP
  have hD : va_D A [(a0, .inr (9, [.ref a1, .int 0, .int x0, .ref a2, .ref a3, .ref a4, .ref a5, .ref a6, .ref a7, .ref a8, .ref a9, .ref a10])), (a2, .inl (z.2 0, 31, .inl (upd (fun _ => 0) 30 x0))), (a1, .inr (0, [.ref a11, .int 0, .int 0, .int 0, .ref a12, .ref a13, .ref a14, .ref a15, .ref a16, .ref a17])), (a15, .inl (z.2 0, 31, .inl (fun _ => 0)))] := hD
  refine lv_aload_n hx hb d_11_3_25 rfl (lv_at hl 0 rfl) ?_
  refine va_get (D := z.1) (ci := 9) (v := .ref a1) (C := "Ballothall$Poll") (T := TX9) (N := 12) hx hb hts iX9 hown hG.1 hP 0 rfl rfl 0 (by decide) (hts _ w_112) (fun _ h9 => h9) rfl d_11_3_26 ?_
  refine lv_iload_n hx hb d_11_3_29 rfl (lv_at hl 1 rfl) ?_
  refine lv_aload_n hx hb d_11_3_30 rfl (lv_at hl 0 rfl) ?_
  refine va_get (D := z.1) (ci := 9) (v := .int 0) (C := "Ballothall$Poll") (T := TX9) (N := 12) hx hb hts iX9 hown hG.1 hP 0 rfl rfl 1 (by decide) (hts _ w_113) (fun _ h9 => h9) rfl d_11_3_31 ?_
  refine kVN (As := [.int 30, .int 0]) (rest := []) (wr := [(a0, .inr (9, [.ref a1, .int 0, .int x0, .ref a2, .ref a3, .ref a4, .ref a5, .ref a6, .ref a7, .ref a8, .ref a9, .ref a10])), (a2, .inl (z.2 0, 31, .inl (upd (fun _ => 0) 30 x0)))]) (c477_BallotBox_soleTopOf l z a1 a11 a12 a13 a14 a15 a16 a17) hx hb hml hown hts w_495 n_492 w_494 w_s_fbd9d2 w_2 md_0f833a ⟨Nat.le_of_ble_eq_true rfl, Nat.le_of_ble_eq_true rfl⟩ hG hZ hP hD hS hA 2 rfl rfl rfl [2, 3] [0, 1] rfl rfl rfl rfl rfl hl.1 rfl (Nat.le_of_ble_eq_true rfl) d_11_3_34 ⟨Nat.le_of_ble_eq_true rfl, Nat.le_of_ble_eq_true rfl⟩ (fun u0 H locs hP hD hS => ?_)
  have hP : va_P z.1 classes [(a0, .inr (9, [.ref a1, .int 0, .int x0, .ref a2, .ref a3, .ref a4, .ref a5, .ref a6, .ref a7, .ref a8, .ref a9, .ref a10])), (a2, .inl (z.2 0, 31, .inl (upd (fun _ => 0) 30 x0))), (a1, .inr (0, [.ref a11, .int 0, .int 0, .int 0, .ref a12, .ref a13, .ref a14, .ref a15, .ref a16, .ref a17])), (a15, .inl (z.2 0, 31, .inl (fun _ => 0)))] H := hP
  have hD : va_D A [(a0, .inr (9, [.ref a1, .int 0, .int x0, .ref a2, .ref a3, .ref a4, .ref a5, .ref a6, .ref a7, .ref a8, .ref a9, .ref a10])), (a2, .inl (z.2 0, 31, .inl (upd (fun _ => 0) 30 x0))), (a1, .inr (0, [.ref a11, .int 0, .int 0, .int 0, .ref a12, .ref a13, .ref a14, .ref a15, .ref a16, .ref a17])), (a15, .inl (z.2 0, 31, .inl (fun _ => 0)))] := hD
  refine W.eq (g2 := F0 m 37 ls [.int (-1)]) rfl ?_
  refine lv_istore_n (lv' := [(3, .int (-1)), (0, .ref a0), (1, .int 30), (2, .int x0)]) hx hb d_11_3_37 rfl hl (by decide) rfl (fun ls hl => ?_)
  refine lv_iload_n hx hb d_11_3_38 rfl (lv_at hl 0 rfl) ?_
  refine lv_iconst (v := (-1)) hx hb d_11_3_39 (by decide +kernel) ?_
  refine lv_icmp_eq (tgt := 53) hx hb d_11_3_40 (by decide) (fun _ => ?_) (fun c9 => absurd (by decide +kernel) c9)
  refine lv_aload_n hx hb d_11_3_53 rfl (lv_at hl 1 rfl) ?_
  refine va_get (D := z.1) (ci := 9) (v := .int 0) (C := "Ballothall$Poll") (T := TX9) (N := 12) hx hb hts iX9 hown hG.1 hP 0 rfl rfl 1 (by decide) (hts _ w_113) (fun _ h9 => h9) rfl d_11_3_54 ?_
  refine lv_istore (lv' := [(4, .int 0), (3, .int (-1)), (0, .ref a0), (1, .int 30), (2, .int x0)]) hx hb d_11_3_57 hl (by decide) rfl (fun ls hl => ?_)
  refine lv_iconst (v := 0) hx hb d_11_3_59 (by decide +kernel) ?_
  refine lv_istore (lv' := [(5, .int 0), (4, .int 0), (3, .int (-1)), (0, .ref a0), (1, .int 30), (2, .int x0)]) hx hb d_11_3_60 hl (by decide) rfl (fun ls hl => ?_)
  refine lv_iload hx hb d_11_3_62 (lv_at hl 0 rfl) ?_
  refine lv_aload_n hx hb d_11_3_64 rfl (lv_at hl 3 rfl) ?_
  refine va_get (D := z.1) (ci := 9) (v := .ref a1) (C := "Ballothall$Poll") (T := TX9) (N := 12) hx hb hts iX9 hown hG.1 hP 0 rfl rfl 0 (by decide) (hts _ w_112) (fun _ h9 => h9) rfl d_11_3_65 ?_
  refine va_getN (D := z.1) (ci := 0) (v := .ref a15) (C := "Ballothall$BallotBox") (T := TX0) (N := 10) hx hb hts iX0 hown hG.1 hP 2 rfl rfl 7 (by decide) (va_Nw.use rfl (hG.2.1 _ n_78 rfl)) (fun _ h9 => h9) rfl d_11_3_68 ?_
  refine lv_iload_n hx hb d_11_3_71 rfl (lv_at hl 4 rfl) ?_
  refine va_iald hx hb hG.1 hP 3 0 rfl rfl (vin rfl) d_11_3_72 ?_
  refine nrm (x1 := 0) rfl ?_
  refine lv_icmp_ge (tgt := 119) hx hb d_11_3_73 (by decide) (fun _ => ?_) (fun c9 => absurd (by decide +kernel) c9)
  refine lv_iconst (v := 0) hx hb d_11_3_119 (by decide +kernel) ?_
  refine lv_istore (lv' := [(5, .int 0), (4, .int 0), (3, .int (-1)), (0, .ref a0), (1, .int 30), (2, .int x0)]) hx hb d_11_3_120 hl (by decide) rfl (fun ls hl => ?_)
  refine lv_iload hx hb d_11_3_122 (lv_at hl 0 rfl) ?_
  refine lv_aload_n hx hb d_11_3_124 rfl (lv_at hl 3 rfl) ?_
  refine va_get (D := z.1) (ci := 9) (v := .ref a1) (C := "Ballothall$Poll") (T := TX9) (N := 12) hx hb hts iX9 hown hG.1 hP 0 rfl rfl 0 (by decide) (hts _ w_112) (fun _ h9 => h9) rfl d_11_3_125 ?_
  refine va_getN (D := z.1) (ci := 0) (v := .int 0) (C := "Ballothall$BallotBox") (T := TX0) (N := 10) hx hb hts iX0 hown hG.1 hP 2 rfl rfl 2 (by decide) (va_Nw.use rfl (hG.2.1 _ n_58 rfl)) (fun _ h9 => h9) rfl d_11_3_128 ?_
  refine lv_icmp_ge (tgt := 173) hx hb d_11_3_131 (by decide) (fun _ => ?_) (fun c9 => absurd (by decide +kernel) c9)
  refine W.widen (k := 0) (n := 0) (Nat.le_of_ble_eq_true rfl) (Nat.le_of_ble_eq_true rfl) ?_
  exact W.vret hx hb hr (fun t ht hW => qk hP hD hS [0, 1, 2, 3] rfl ((fun k => k), (fun _ _ => none)) rfl rfl rfl ht) hS.2.2 d_11_3_173
set_option maxRecDepth 100000 in
set_option maxHeartbeats 4000000 in
theorem c479_Poll_bestBy (l : Launch) (z : Zz) (a0 a1 a2 a3 a4 a5 a6 a7 a8 a9 a10 : Nat) (x0 : Int32) (x1 : Int32) : CT l z ⟨"Ballothall$Poll", "bestBy", "(I)I"⟩ prog_11_method_19_code 2 (some .int) [.ref a0, .int x0] [(a0, .inr (9, [.ref a1, .int 0, .int x1, .ref a2, .ref a3, .ref a4, .ref a5, .ref a6, .ref a7, .ref a8, .ref a9, .ref a10]))] 0 0 0 0 (fun u => some (.int (-1))) (fun u => [(a0, .inr (9, [.ref a1, .int 0, .int x1, .ref a2, .ref a3, .ref a4, .ref a5, .ref a6, .ref a7, .ref a8, .ref a9, .ref a10]))]) := by
  refine CT.of (own := "Ballothall$Poll") (by decide +kernel) (Nat.le_of_ble_eq_true rfl) rfl (fun p e s m below meth c A ls hx hb hml hr hts hown hlocks hin hA hG hZ hP hD hS hl => ?_)
  have hl : lv_has ls 2 [(0, .ref a0), (1, .int x0)] := hl
  refine lv_aload_n hx hb d_11_19_0 rfl (lv_at hl 0 rfl) ?_
  refine va_get (D := z.1) (ci := 9) (v := .int 0) (C := "Ballothall$Poll") (T := TX9) (N := 12) hx hb hts iX9 hown hG.1 hP 0 rfl rfl 1 (by decide) (hts _ w_113) (fun _ h9 => h9) rfl d_11_19_1 ?_
  refine lv_if_ne (tgt := 9) hx hb d_11_19_4 (by decide) (fun c9 => absurd (by decide +kernel) c9) (fun _ => ?_)
  refine lv_iconst (v := (-1)) hx hb d_11_19_7 (by decide +kernel) ?_
  refine W.widen (k := 0) (n := 0) (Nat.le_of_ble_eq_true rfl) (Nat.le_of_ble_eq_true rfl) ?_
  exact W.iret hx hb hr (fun t ht hW => qk hP hD hS [0] rfl ((fun k => k), (fun _ _ => none)) rfl rfl rfl ht) hS.2.2 d_11_19_8
