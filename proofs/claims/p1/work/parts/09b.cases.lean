set_option maxRecDepth 100000 in
set_option maxHeartbeats 4000000 in
theorem c86_BModel_isKind (l : Launch) (z : Zz) (a0 a1 a2 a3 a4 a5 a6 a7 a8 a9 a10 a11 a12 a13 : Nat) (x0 : Int32) (h0 : ¬ x0 < 0) (h1 : (-1) < x0) : CT l z ⟨"BallothallModel", "isKind", "(I)Z"⟩ prog_14_method_23_code 2 (some .boolean) [.ref a0, .int x0] [(a0, .inr (18, [.ref a1, .ref a2, .int 0, .ref a3, .int 0, .ref a4, .int 0, .null, .int 0, .null, .long 0, .int 0, .null])), (a1, .inr (17, [.int 0, .ref a5, .ref a6, .int 0, .ref a7, .ref a8, .ref a9, .null, .null, .int 0, .ref a10, .ref a11, .ref a12, .int 0, .ref a13, .int 1])), (a6, .inl (z.2 7, 0, .inr (.inr (.inr (.inr (fun _ => none))))))] 1 30 0 0 (fun u => some (.int 0)) (fun u => [(a0, .inr (18, [.ref a1, .ref a2, .int 0, .ref a3, .int 0, .ref a4, .int 0, .null, .int 0, .null, .long 0, .int 0, .null])), (a1, .inr (17, [.int 0, .ref a5, .ref a6, .int 0, .ref a7, .ref a8, .ref a9, .null, .null, .int 0, .ref a10, .ref a11, .ref a12, .int 0, .ref a13, .int 1])), (a6, .inl (z.2 7, 0, .inr (.inr (.inr (.inr (fun _ => none))))))]) := by
  refine CT.of (own := "BallothallModel") (by decide +kernel) (Nat.le_of_ble_eq_true rfl) rfl (fun p e s m below meth c A ls hx hb hml hr hts hown hlocks hin hA hG hZ hP hD hS hl => ?_)
  have hl : lv_has ls 2 [(0, .ref a0), (1, .int x0)] := hl
  refine lv_iload_n hx hb d_14_23_0 rfl (lv_at hl 1 rfl) ?_
  refine lv_iconst (v := 0) hx hb d_14_23_1 (by decide +kernel) ?_
  refine lv_aload_n hx hb d_14_23_2 rfl (lv_at hl 0 rfl) ?_
  refine va_get (D := z.1) (ci := 18) (v := .ref a1) (C := "BallothallModel") (T := TX18) (N := 13) hx hb hts iX18 hown hG.1 hP 0 rfl rfl 0 (by decide) (hts _ w_1645) (fun _ h9 => h9) rfl d_14_23_3 ?_
  refine va_getN (D := z.1) (ci := 17) (v := .ref a6) (C := "BallothallModel$State") (T := TX17) (N := 16) hx hb hts iX17 hown hG.1 hP 1 rfl rfl 2 (by decide) (va_Nw.use rfl (hG.2.1 _ n_1584 rfl)) (fun _ h9 => h9) rfl d_14_23_6 ?_
  refine va_alen (v := 0) hx hb hG.1 hP 2 7 rfl rfl rfl d_14_23_9 ?_
  refine lv_iconst (v := 1) hx hb d_14_23_10 (by decide +kernel) ?_
  refine lv_isub hx hb d_14_23_11 ?_
  refine nrm (x1 := (-1)) (by decide +kernel) ?_
  refine kS (As := [.int x0, .int 0, .int (-1)]) (rest := []) (wr := [(a0, .inr (18, [.ref a1, .ref a2, .int 0, .ref a3, .int 0, .ref a4, .int 0, .null, .int 0, .null, .long 0, .int 0, .null])), (a1, .inr (17, [.int 0, .ref a5, .ref a6, .int 0, .ref a7, .ref a8, .ref a9, .null, .null, .int 0, .ref a10, .ref a11, .ref a12, .int 0, .ref a13, .int 1])), (a6, .inl (z.2 7, 0, .inr (.inr (.inr (.inr (fun _ => none))))))]) (c37_BModel_isIn l z x0 h0 h1) hx hb hml hown hts w_1718 w_1716 w_1717 w_12 md_bca45c ⟨Nat.le_of_ble_eq_true rfl, Nat.le_of_ble_eq_true rfl⟩ hG hZ hP hD hS hA [] [0, 1, 2] rfl rfl rfl rfl rfl hl.1 rfl (Nat.le_of_ble_eq_true rfl) d_14_23_12 ⟨Nat.le_of_ble_eq_true rfl, Nat.le_of_ble_eq_true rfl⟩ (fun u0 H locs hP hD hS => ?_)
  have hP : va_P z.1 classes [(a0, .inr (18, [.ref a1, .ref a2, .int 0, .ref a3, .int 0, .ref a4, .int 0, .null, .int 0, .null, .long 0, .int 0, .null])), (a1, .inr (17, [.int 0, .ref a5, .ref a6, .int 0, .ref a7, .ref a8, .ref a9, .null, .null, .int 0, .ref a10, .ref a11, .ref a12, .int 0, .ref a13, .int 1])), (a6, .inl (z.2 7, 0, .inr (.inr (.inr (.inr (fun _ => none))))))] H := hP
  have hD : va_D A [(a0, .inr (18, [.ref a1, .ref a2, .int 0, .ref a3, .int 0, .ref a4, .int 0, .null, .int 0, .null, .long 0, .int 0, .null])), (a1, .inr (17, [.int 0, .ref a5, .ref a6, .int 0, .ref a7, .ref a8, .ref a9, .null, .null, .int 0, .ref a10, .ref a11, .ref a12, .int 0, .ref a13, .int 1])), (a6, .inl (z.2 7, 0, .inr (.inr (.inr (.inr (fun _ => none))))))] := hD
  refine W.eq (g2 := F0 m 15 ls [.int 0]) rfl ?_
  refine W.widen (k := 0) (n := 0) (Nat.le_of_ble_eq_true rfl) (Nat.le_of_ble_eq_true rfl) ?_
  exact W.zret hx hb hr rfl (fun t ht hW => qk hP hD hS [0, 1, 2] rfl ((fun k => k), (fun _ _ => none)) rfl rfl rfl ht) hS.2.2 d_14_23_15
set_option maxRecDepth 100000 in
set_option maxHeartbeats 4000000 in
theorem c87_BModel_takeBack (l : Launch) (z : Zz) (a0 a1 a2 a3 a4 a5 a6 a7 a8 a9 a10 a11 a12 a13 : Nat) (x0 : Int32) (x1 : Int32) (h0 : ¬ x0 < 0) (h1 : (-1) < x0) : CT l z ⟨"BallothallModel", "takeBack", "(II)I"⟩ prog_14_method_33_code 4 (some .int) [.ref a0, .int x0, .int x1] [(a0, .inr (18, [.ref a1, .ref a2, .int 0, .ref a3, .int 0, .ref a4, .int 0, .null, .int 0, .null, .long 0, .int 0, .null])), (a1, .inr (17, [.int 0, .ref a5, .ref a6, .int 0, .ref a7, .ref a8, .ref a9, .null, .null, .int 0, .ref a10, .ref a11, .ref a12, .int 0, .ref a13, .int 1])), (a6, .inl (z.2 7, 0, .inr (.inr (.inr (.inr (fun _ => none))))))] 2 59 0 0 (fun u => some (.int 0)) (fun u => [(a0, .inr (18, [.ref a1, .ref a2, .int 0, .ref a3, .int 0, .ref a4, .int 1, .null, .int 0, .null, .long 0, .int 0, .null])), (a1, .inr (17, [.int 0, .ref a5, .ref a6, .int 0, .ref a7, .ref a8, .ref a9, .null, .null, .int 0, .ref a10, .ref a11, .ref a12, .int 0, .ref a13, .int 1])), (a6, .inl (z.2 7, 0, .inr (.inr (.inr (.inr (fun _ => none))))))]) := by
  refine CT.of (own := "BallothallModel") (by decide +kernel) (Nat.le_of_ble_eq_true rfl) rfl (fun p e s m below meth c A ls hx hb hml hr hts hown hlocks hin hA hG hZ hP hD hS hl => ?_)
  have hl : lv_has ls 4 [(0, .ref a0), (1, .int x0), (2, .int x1)] := hl
  refine lv_aload_n hx hb d_14_33_0 rfl (lv_at hl 0 rfl) ?_
  refine lv_aload_n hx hb d_14_33_1 rfl (lv_at hl 0 rfl) ?_
  refine lv_iload_n hx hb d_14_33_2 rfl (lv_at hl 1 rfl) ?_
  refine kV (As := [.int x0]) (rest := [.ref a0]) (wr := []) (c86_BModel_isKind l z a0 a1 a2 a3 a4 a5 a6 a7 a8 a9 a10 a11 a12 a13 x0 h0 h1) hx hb hml hown hts w_1788 w_1785 w_1787 w_s_6f201a w_12 md_813f1f ⟨Nat.le_of_ble_eq_true rfl, Nat.le_of_ble_eq_true rfl⟩ hG hZ hP hD hS hA 0 rfl rfl rfl [0, 1, 2] [] rfl rfl rfl rfl rfl hl.1 rfl (Nat.le_of_ble_eq_true rfl) d_14_33_3 ⟨Nat.le_of_ble_eq_true rfl, Nat.le_of_ble_eq_true rfl⟩ (fun u0 H locs hP hD hS => ?_)
  have hP : va_P z.1 classes [(a0, .inr (18, [.ref a1, .ref a2, .int 0, .ref a3, .int 0, .ref a4, .int 0, .null, .int 0, .null, .long 0, .int 0, .null])), (a1, .inr (17, [.int 0, .ref a5, .ref a6, .int 0, .ref a7, .ref a8, .ref a9, .null, .null, .int 0, .ref a10, .ref a11, .ref a12, .int 0, .ref a13, .int 1])), (a6, .inl (z.2 7, 0, .inr (.inr (.inr (.inr (fun _ => none))))))] H := hP
  have hD : va_D A [(a0, .inr (18, [.ref a1, .ref a2, .int 0, .ref a3, .int 0, .ref a4, .int 0, .null, .int 0, .null, .long 0, .int 0, .null])), (a1, .inr (17, [.int 0, .ref a5, .ref a6, .int 0, .ref a7, .ref a8, .ref a9, .null, .null, .int 0, .ref a10, .ref a11, .ref a12, .int 0, .ref a13, .int 1])), (a6, .inl (z.2 7, 0, .inr (.inr (.inr (.inr (fun _ => none))))))] := hD
  refine W.eq (g2 := F0 m 6 ls [.int 0, .ref a0]) rfl ?_
  refine lv_iconst (v := 1) hx hb d_14_33_6 (by decide +kernel) ?_
  refine kV (As := [.int 0, .int 1]) (rest := []) (wr := [(a1, .inr (17, [.int 0, .ref a5, .ref a6, .int 0, .ref a7, .ref a8, .ref a9, .null, .null, .int 0, .ref a10, .ref a11, .ref a12, .int 0, .ref a13, .int 1])), (a6, .inl (z.2 7, 0, .inr (.inr (.inr (.inr (fun _ => none))))))]) (c31_BModel_ends l z a0 a1 a2 a3 a4) hx hb hml hown hts w_1696 w_1693 w_1695 w_s_f8f2b7 w_12 md_77b0f8 ⟨Nat.le_of_ble_eq_true rfl, Nat.le_of_ble_eq_true rfl⟩ hG hZ hP hD hS hA 0 rfl rfl rfl [0] [1, 2] rfl rfl rfl rfl rfl hl.1 rfl (Nat.le_of_ble_eq_true rfl) d_14_33_7 ⟨Nat.le_of_ble_eq_true rfl, Nat.le_of_ble_eq_true rfl⟩ (fun u1 H locs hP hD hS => ?_)
  have hP : va_P z.1 classes [(a1, .inr (17, [.int 0, .ref a5, .ref a6, .int 0, .ref a7, .ref a8, .ref a9, .null, .null, .int 0, .ref a10, .ref a11, .ref a12, .int 0, .ref a13, .int 1])), (a6, .inl (z.2 7, 0, .inr (.inr (.inr (.inr (fun _ => none)))))), (a0, .inr (18, [.ref a1, .ref a2, .int 0, .ref a3, .int 0, .ref a4, .int 1, .null, .int 0, .null, .long 0, .int 0, .null]))] H := hP
  have hD : va_D A [(a1, .inr (17, [.int 0, .ref a5, .ref a6, .int 0, .ref a7, .ref a8, .ref a9, .null, .null, .int 0, .ref a10, .ref a11, .ref a12, .int 0, .ref a13, .int 1])), (a6, .inl (z.2 7, 0, .inr (.inr (.inr (.inr (fun _ => none)))))), (a0, .inr (18, [.ref a1, .ref a2, .int 0, .ref a3, .int 0, .ref a4, .int 1, .null, .int 0, .null, .long 0, .int 0, .null]))] := hD
  refine W.eq (g2 := F0 m 10 ls [.int 1]) rfl ?_
  refine lv_if_ne (tgt := 47) hx hb d_14_33_10 (by decide) (fun _ => ?_) (fun c9 => absurd c9 (by decide +kernel))
  refine lv_iconst (v := 0) hx hb d_14_33_47 (by decide +kernel) ?_
  refine W.widen (k := 0) (n := 0) (Nat.le_of_ble_eq_true rfl) (Nat.le_of_ble_eq_true rfl) ?_
  exact W.iret hx hb hr (fun t ht hW => qk hP hD hS [2, 0, 1] rfl ((fun k => k), (fun _ _ => none)) rfl rfl rfl ht) hS.2.2 d_14_33_48
set_option maxRecDepth 100000 in
set_option maxHeartbeats 4000000 in
theorem c88_B_countOf (l : Launch) (z : Zz) (hl0 : l.stackTraces = false) (a0 a1 a2 a3 a4 a5 a6 a7 a8 a9 a10 a11 a12 a13 a14 a15 a16 a17 a18 : Nat) (x0 : Int32) (h0 : x0 < 0) : XT l z ⟨"Ballothall", "countOf", "(I)I"⟩ prog_1_method_7_code 2 (some .int) [.ref a0, .int x0] [(a0, .inr (11, [.ref a1, .ref a2, .ref a3, .ref a4, .ref a5, .ref a6, .ref a7, .ref a8, .ref a9, .ref a10, .int 0, .int 0, .ref a11, .int 0])), (a1, .inr (0, [.ref a12, .int 0, .int 0, .int 0, .ref a13, .ref a14, .ref a15, .ref a16, .ref a17, .ref a18]))] 7 127 1 6 "java/lang/IndexOutOfBoundsException" := by
  refine XT.of (own := "Ballothall") (by decide +kernel) (Nat.le_of_ble_eq_true rfl) rfl (fun p e s m below meth c A ls hx hb hml hr hts hown hlocks hin hA hG hZ hP hD hS hl hnt => ?_)
  have hl : lv_has ls 2 [(0, .ref a0), (1, .int x0)] := hl
  refine lv_iload_n hx hb d_1_7_0 rfl (lv_at hl 1 rfl) ?_
  refine lv_aload_n hx hb d_1_7_1 rfl (lv_at hl 0 rfl) ?_
  refine va_get (D := z.1) (ci := 11) (v := .ref a1) (C := "Ballothall") (T := TX11) (N := 14) hx hb hts iX11 hown hG.1 hP 0 rfl rfl 0 (by decide) (hts _ w_406) (fun _ h9 => h9) rfl d_1_7_2 ?_
  refine va_getN (D := z.1) (ci := 0) (v := .int 0) (C := "Ballothall$BallotBox") (T := TX0) (N := 10) hx hb hts iX0 hown hG.1 hP 1 rfl rfl 3 (by decide) (va_Nw.use rfl (hG.2.1 _ n_63 rfl)) (fun _ h9 => h9) rfl d_1_7_5 ?_
  exact xS (As := [.int x0, .int 0]) (rest := []) (wr := [(a0, .inr (11, [.ref a1, .ref a2, .ref a3, .ref a4, .ref a5, .ref a6, .ref a7, .ref a8, .ref a9, .ref a10, .int 0, .int 0, .ref a11, .int 0])), (a1, .inr (0, [.ref a12, .int 0, .int 0, .int 0, .ref a13, .ref a14, .ref a15, .ref a16, .ref a17, .ref a18]))]) (c26_B_needIndex l z hl0 x0 h0) hx hb hml hown hts w_857 w_855 w_856 w_1 md_6cb26b ⟨Nat.le_of_ble_eq_true rfl, Nat.le_of_ble_eq_true rfl⟩ hG hZ hP hD hS hA [] [0, 1] rfl rfl rfl rfl rfl hl.1 rfl (Nat.le_of_ble_eq_true rfl) d_1_7_8 ⟨Nat.le_of_ble_eq_true rfl, Nat.le_of_ble_eq_true rfl⟩ (fun q9 ce9 H locs hP hD hS h7 h8 h9 => x_out hnt hlocks hS h7 h8 h9 (Nat.le_of_ble_eq_true rfl) (Nat.le_of_ble_eq_true rfl))
set_option maxRecDepth 100000 in
set_option maxHeartbeats 4000000 in
theorem c89_BLaw_countOf (l : Launch) (z : Zz) (hl0 : l.stackTraces = false) (a0 a1 a2 a3 a4 a5 a6 a7 a8 a9 a10 a11 a12 a13 a14 a15 a16 a17 a18 a19 : Nat) (x0 : Int32) (h0 : x0 < 0) : HT l z ⟨"BallothallLaw", "countOf", "(LBallothall;I[J)I"⟩ method_8_code 4 (some .int) [(0, 9, 12, 19)] [.ref a0, .int x0, .ref a1] [(a0, .inr (11, [.ref a2, .ref a3, .ref a4, .ref a5, .ref a6, .ref a7, .ref a8, .ref a9, .ref a10, .ref a11, .int 0, .int 0, .ref a12, .int 0])), (a2, .inr (0, [.ref a13, .int 0, .int 0, .int 0, .ref a14, .ref a15, .ref a16, .ref a17, .ref a18, .ref a19]))] 8 156 1 6 (fun u => some (.int 1)) (fun u => []) := by
  refine HT.of (own := "BallothallLaw") (by decide +kernel) (Nat.le_of_ble_eq_true rfl) rfl (fun p e s m below meth c A ls hx hb hml hr hts hown hlocks hin hA hG hZ hP hD hS hl htab => ?_)
  have hl : lv_has ls 4 [(0, .ref a0), (1, .int x0), (2, .ref a1)] := hl
  refine lv_aload_n hx hb d_L8_0 rfl (lv_at hl 2 rfl) ?_
  refine lv_iconst (v := 0) hx hb d_L8_1 (by decide +kernel) ?_
  refine lv_aload_n hx hb d_L8_2 rfl (lv_at hl 0 rfl) ?_
  refine lv_iload_n hx hb d_L8_3 rfl (lv_at hl 1 rfl) ?_
  refine xV (As := [.int x0]) (rest := [.int 0, .ref a1]) (wr := []) (c88_B_countOf l z hl0 a0 a2 a3 a4 a5 a6 a7 a8 a9 a10 a11 a12 a13 a14 a15 a16 a17 a18 a19 x0 h0) hx hb hml hown hts w_954 w_951 w_952 w_953 w_1 md_2bddb0 ⟨Nat.le_of_ble_eq_true rfl, Nat.le_of_ble_eq_true rfl⟩ hG hZ hP hD hS hA 0 rfl rfl rfl [0, 1] [] rfl rfl rfl rfl rfl hl.1 rfl (Nat.le_of_ble_eq_true rfl) d_L8_4 ⟨Nat.le_of_ble_eq_true rfl, Nat.le_of_ble_eq_true rfl⟩ (fun q0 ce9 H locs hP hD hS h7 h8 h9 => ?_)
  have hP : va_P z.1 classes [] H := hP
  have hD : va_D A [] := hD
  refine vx_catch hown [] ⟨0, 9, 12, 19⟩ [] (htab.trans rfl) (fun _ h9 => absurd h9 List.not_mem_nil) rfl (by decide) (hts _ w_849) (va_Nw.use rfl (hG.2.1 _ n_860 rfl)) h7 h8 h9 ?_
  refine lv_astore_n (lv' := [(3, .ref q0), (0, .ref a0), (1, .int x0), (2, .ref a1)]) hx hb d_L8_12 rfl hl (by decide) rfl (fun ls hl => ?_)
  refine lv_iconst (v := 1) hx hb d_L8_13 (by decide +kernel) ?_
  refine W.widen (k := 1) (n := 6) (Nat.le_of_ble_eq_true rfl) (Nat.le_of_ble_eq_true rfl) ?_
  refine vx_ret ?_
  exact W.iret hx hb hr (fun t ht hW => qk hP hD hS [] rfl ((fun k => k), (fun _ _ => none)) rfl rfl rfl ht) hS.2.2 d_L8_14
set_option maxRecDepth 100000 in
set_option maxHeartbeats 4000000 in
theorem c90_BModel_countOf (l : Launch) (z : Zz) (a0 a1 a2 a3 a4 a5 a6 a7 a8 a9 a10 a11 a12 a13 : Nat) (x0 : Int32) (h0 : x0 < 0) : CT l z ⟨"BallothallModel", "countOf", "(I)I"⟩ prog_14_method_34_code 2 (some .int) [.ref a0, .int x0] [(a0, .inr (18, [.ref a1, .ref a2, .int 0, .ref a3, .int 0, .ref a4, .int 0, .null, .int 0, .null, .long 0, .int 0, .null])), (a1, .inr (17, [.int 0, .ref a5, .ref a6, .int 0, .ref a7, .ref a8, .ref a9, .null, .null, .int 0, .ref a10, .ref a11, .ref a12, .int 0, .ref a13, .int 1])), (a6, .inl (z.2 7, 0, .inr (.inr (.inr (.inr (fun _ => none))))))] 2 59 0 0 (fun u => some (.int 0)) (fun u => [(a0, .inr (18, [.ref a1, .ref a2, .int 0, .ref a3, .int 0, .ref a4, .int 1, .null, .int 0, .null, .long 0, .int 0, .null])), (a1, .inr (17, [.int 0, .ref a5, .ref a6, .int 0, .ref a7, .ref a8, .ref a9, .null, .null, .int 0, .ref a10, .ref a11, .ref a12, .int 0, .ref a13, .int 1])), (a6, .inl (z.2 7, 0, .inr (.inr (.inr (.inr (fun _ => none))))))]) := by
  refine CT.of (own := "BallothallModel") (by decide +kernel) (Nat.le_of_ble_eq_true rfl) rfl (fun p e s m below meth c A ls hx hb hml hr hts hown hlocks hin hA hG hZ hP hD hS hl => ?_)
  have hl : lv_has ls 2 [(0, .ref a0), (1, .int x0)] := hl
  refine lv_aload_n hx hb d_14_34_0 rfl (lv_at hl 0 rfl) ?_
  refine lv_aload_n hx hb d_14_34_1 rfl (lv_at hl 0 rfl) ?_
  refine lv_iload_n hx hb d_14_34_2 rfl (lv_at hl 1 rfl) ?_
  refine kV (As := [.int x0]) (rest := [.ref a0]) (wr := []) (c82_BModel_isKind l z a0 a1 a2 a3 a4 a5 a6 a7 a8 a9 a10 a11 a12 a13 x0 h0) hx hb hml hown hts w_1788 w_1785 w_1787 w_s_6f201a w_12 md_813f1f ⟨Nat.le_of_ble_eq_true rfl, Nat.le_of_ble_eq_true rfl⟩ hG hZ hP hD hS hA 0 rfl rfl rfl [0, 1, 2] [] rfl rfl rfl rfl rfl hl.1 rfl (Nat.le_of_ble_eq_true rfl) d_14_34_3 ⟨Nat.le_of_ble_eq_true rfl, Nat.le_of_ble_eq_true rfl⟩ (fun u0 H locs hP hD hS => ?_)
  have hP : va_P z.1 classes [(a0, .inr (18, [.ref a1, .ref a2, .int 0, .ref a3, .int 0, .ref a4, .int 0, .null, .int 0, .null, .long 0, .int 0, .null])), (a1, .inr (17, [.int 0, .ref a5, .ref a6, .int 0, .ref a7, .ref a8, .ref a9, .null, .null, .int 0, .ref a10, .ref a11, .ref a12, .int 0, .ref a13, .int 1])), (a6, .inl (z.2 7, 0, .inr (.inr (.inr (.inr (fun _ => none))))))] H := hP
  have hD : va_D A [(a0, .inr (18, [.ref a1, .ref a2, .int 0, .ref a3, .int 0, .ref a4, .int 0, .null, .int 0, .null, .long 0, .int 0, .null])), (a1, .inr (17, [.int 0, .ref a5, .ref a6, .int 0, .ref a7, .ref a8, .ref a9, .null, .null, .int 0, .ref a10, .ref a11, .ref a12, .int 0, .ref a13, .int 1])), (a6, .inl (z.2 7, 0, .inr (.inr (.inr (.inr (fun _ => none))))))] := hD
  refine W.eq (g2 := F0 m 6 ls [.int 0, .ref a0]) rfl ?_
  refine lv_iconst (v := 1) hx hb d_14_34_6 (by decide +kernel) ?_
  refine kV (As := [.int 0, .int 1]) (rest := []) (wr := [(a1, .inr (17, [.int 0, .ref a5, .ref a6, .int 0, .ref a7, .ref a8, .ref a9, .null, .null, .int 0, .ref a10, .ref a11, .ref a12, .int 0, .ref a13, .int 1])), (a6, .inl (z.2 7, 0, .inr (.inr (.inr (.inr (fun _ => none))))))]) (c31_BModel_ends l z a0 a1 a2 a3 a4) hx hb hml hown hts w_1696 w_1693 w_1695 w_s_f8f2b7 w_12 md_77b0f8 ⟨Nat.le_of_ble_eq_true rfl, Nat.le_of_ble_eq_true rfl⟩ hG hZ hP hD hS hA 0 rfl rfl rfl [0] [1, 2] rfl rfl rfl rfl rfl hl.1 rfl (Nat.le_of_ble_eq_true rfl) d_14_34_7 ⟨Nat.le_of_ble_eq_true rfl, Nat.le_of_ble_eq_true rfl⟩ (fun u1 H locs hP hD hS => ?_)
  have hP : va_P z.1 classes [(a1, .inr (17, [.int 0, .ref a5, .ref a6, .int 0, .ref a7, .ref a8, .ref a9, .null, .null, .int 0, .ref a10, .ref a11, .ref a12, .int 0, .ref a13, .int 1])), (a6, .inl (z.2 7, 0, .inr (.inr (.inr (.inr (fun _ => none)))))), (a0, .inr (18, [.ref a1, .ref a2, .int 0, .ref a3, .int 0, .ref a4, .int 1, .null, .int 0, .null, .long 0, .int 0, .null]))] H := hP
  have hD : va_D A [(a1, .inr (17, [.int 0, .ref a5, .ref a6, .int 0, .ref a7, .ref a8, .ref a9, .null, .null, .int 0, .ref a10, .ref a11, .ref a12, .int 0, .ref a13, .int 1])), (a6, .inl (z.2 7, 0, .inr (.inr (.inr (.inr (fun _ => none)))))), (a0, .inr (18, [.ref a1, .ref a2, .int 0, .ref a3, .int 0, .ref a4, .int 1, .null, .int 0, .null, .long 0, .int 0, .null]))] := hD
  refine W.eq (g2 := F0 m 10 ls [.int 1]) rfl ?_
  refine lv_if_eq (tgt := 17) hx hb d_14_34_10 (by decide) (fun c9 => absurd c9 (by decide +kernel)) (fun _ => ?_)
  refine lv_iconst (v := 0) hx hb d_14_34_13 (by decide +kernel) ?_
  refine lv_goto (tgt := 29) hx hb d_14_34_14 (by decide) ?_
  refine W.widen (k := 0) (n := 0) (Nat.le_of_ble_eq_true rfl) (Nat.le_of_ble_eq_true rfl) ?_
  exact W.iret hx hb hr (fun t ht hW => qk hP hD hS [2, 0, 1] rfl ((fun k => k), (fun _ _ => none)) rfl rfl rfl ht) hS.2.2 d_14_34_29
set_option maxRecDepth 100000 in
set_option maxHeartbeats 4000000 in
theorem c91_B_countOf (l : Launch) (z : Zz) (hl0 : l.stackTraces = false) (a0 a1 a2 a3 a4 a5 a6 a7 a8 a9 a10 a11 a12 a13 a14 a15 a16 a17 a18 : Nat) (x0 : Int32) (h0 : ¬ x0 < 0) : XT l z ⟨"Ballothall", "countOf", "(I)I"⟩ prog_1_method_7_code 2 (some .int) [.ref a0, .int x0] [(a0, .inr (11, [.ref a1, .ref a2, .ref a3, .ref a4, .ref a5, .ref a6, .ref a7, .ref a8, .ref a9, .ref a10, .int 0, .int 0, .ref a11, .int 0])), (a1, .inr (0, [.ref a12, .int 0, .int 0, .int 0, .ref a13, .ref a14, .ref a15, .ref a16, .ref a17, .ref a18]))] 7 127 1 6 "java/lang/IndexOutOfBoundsException" := by
  refine XT.of (own := "Ballothall") (by decide +kernel) (Nat.le_of_ble_eq_true rfl) rfl (fun p e s m below meth c A ls hx hb hml hr hts hown hlocks hin hA hG hZ hP hD hS hl hnt => ?_)
  have hl : lv_has ls 2 [(0, .ref a0), (1, .int x0)] := hl
  refine lv_iload_n hx hb d_1_7_0 rfl (lv_at hl 1 rfl) ?_
  refine lv_aload_n hx hb d_1_7_1 rfl (lv_at hl 0 rfl) ?_
  refine va_get (D := z.1) (ci := 11) (v := .ref a1) (C := "Ballothall") (T := TX11) (N := 14) hx hb hts iX11 hown hG.1 hP 0 rfl rfl 0 (by decide) (hts _ w_406) (fun _ h9 => h9) rfl d_1_7_2 ?_
  refine va_getN (D := z.1) (ci := 0) (v := .int 0) (C := "Ballothall$BallotBox") (T := TX0) (N := 10) hx hb hts iX0 hown hG.1 hP 1 rfl rfl 3 (by decide) (va_Nw.use rfl (hG.2.1 _ n_63 rfl)) (fun _ h9 => h9) rfl d_1_7_5 ?_
  exact xS (As := [.int x0, .int 0]) (rest := []) (wr := [(a0, .inr (11, [.ref a1, .ref a2, .ref a3, .ref a4, .ref a5, .ref a6, .ref a7, .ref a8, .ref a9, .ref a10, .int 0, .int 0, .ref a11, .int 0])), (a1, .inr (0, [.ref a12, .int 0, .int 0, .int 0, .ref a13, .ref a14, .ref a15, .ref a16, .ref a17, .ref a18]))]) (c34_B_needIndex l z hl0 x0 h0) hx hb hml hown hts w_857 w_855 w_856 w_1 md_6cb26b ⟨Nat.le_of_ble_eq_true rfl, Nat.le_of_ble_eq_true rfl⟩ hG hZ hP hD hS hA [] [0, 1] rfl rfl rfl rfl rfl hl.1 rfl (Nat.le_of_ble_eq_true rfl) d_1_7_8 ⟨Nat.le_of_ble_eq_true rfl, Nat.le_of_ble_eq_true rfl⟩ (fun q9 ce9 H locs hP hD hS h7 h8 h9 => x_out hnt hlocks hS h7 h8 h9 (Nat.le_of_ble_eq_true rfl) (Nat.le_of_ble_eq_true rfl))
set_option maxRecDepth 100000 in
set_option maxHeartbeats 4000000 in
theorem c92_BLaw_countOf (l : Launch) (z : Zz) (hl0 : l.stackTraces = false) (a0 a1 a2 a3 a4 a5 a6 a7 a8 a9 a10 a11 a12 a13 a14 a15 a16 a17 a18 a19 : Nat) (x0 : Int32) (h0 : ¬ x0 < 0) : HT l z ⟨"BallothallLaw", "countOf", "(LBallothall;I[J)I"⟩ method_8_code 4 (some .int) [(0, 9, 12, 19)] [.ref a0, .int x0, .ref a1] [(a0, .inr (11, [.ref a2, .ref a3, .ref a4, .ref a5, .ref a6, .ref a7, .ref a8, .ref a9, .ref a10, .ref a11, .int 0, .int 0, .ref a12, .int 0])), (a2, .inr (0, [.ref a13, .int 0, .int 0, .int 0, .ref a14, .ref a15, .ref a16, .ref a17, .ref a18, .ref a19]))] 8 156 1 6 (fun u => some (.int 1)) (fun u => []) := by
  refine HT.of (own := "BallothallLaw") (by decide +kernel) (Nat.le_of_ble_eq_true rfl) rfl (fun p e s m below meth c A ls hx hb hml hr hts hown hlocks hin hA hG hZ hP hD hS hl htab => ?_)
  have hl : lv_has ls 4 [(0, .ref a0), (1, .int x0), (2, .ref a1)] := hl
  refine lv_aload_n hx hb d_L8_0 rfl (lv_at hl 2 rfl) ?_
  refine lv_iconst (v := 0) hx hb d_L8_1 (by decide +kernel) ?_
  refine lv_aload_n hx hb d_L8_2 rfl (lv_at hl 0 rfl) ?_
  refine lv_iload_n hx hb d_L8_3 rfl (lv_at hl 1 rfl) ?_
  refine xV (As := [.int x0]) (rest := [.int 0, .ref a1]) (wr := []) (c91_B_countOf l z hl0 a0 a2 a3 a4 a5 a6 a7 a8 a9 a10 a11 a12 a13 a14 a15 a16 a17 a18 a19 x0 h0) hx hb hml hown hts w_954 w_951 w_952 w_953 w_1 md_2bddb0 ⟨Nat.le_of_ble_eq_true rfl, Nat.le_of_ble_eq_true rfl⟩ hG hZ hP hD hS hA 0 rfl rfl rfl [0, 1] [] rfl rfl rfl rfl rfl hl.1 rfl (Nat.le_of_ble_eq_true rfl) d_L8_4 ⟨Nat.le_of_ble_eq_true rfl, Nat.le_of_ble_eq_true rfl⟩ (fun q0 ce9 H locs hP hD hS h7 h8 h9 => ?_)
  have hP : va_P z.1 classes [] H := hP
  have hD : va_D A [] := hD
  refine vx_catch hown [] ⟨0, 9, 12, 19⟩ [] (htab.trans rfl) (fun _ h9 => absurd h9 List.not_mem_nil) rfl (by decide) (hts _ w_849) (va_Nw.use rfl (hG.2.1 _ n_860 rfl)) h7 h8 h9 ?_
  refine lv_astore_n (lv' := [(3, .ref q0), (0, .ref a0), (1, .int x0), (2, .ref a1)]) hx hb d_L8_12 rfl hl (by decide) rfl (fun ls hl => ?_)
  refine lv_iconst (v := 1) hx hb d_L8_13 (by decide +kernel) ?_
  refine W.widen (k := 1) (n := 6) (Nat.le_of_ble_eq_true rfl) (Nat.le_of_ble_eq_true rfl) ?_
  refine vx_ret ?_
  exact W.iret hx hb hr (fun t ht hW => qk hP hD hS [] rfl ((fun k => k), (fun _ _ => none)) rfl rfl rfl ht) hS.2.2 d_L8_14
set_option maxRecDepth 100000 in
set_option maxHeartbeats 4000000 in
theorem c93_BModel_countOf (l : Launch) (z : Zz) (a0 a1 a2 a3 a4 a5 a6 a7 a8 a9 a10 a11 a12 a13 : Nat) (x0 : Int32) (h0 : ¬ x0 < 0) (h1 : (-1) < x0) : CT l z ⟨"BallothallModel", "countOf", "(I)I"⟩ prog_14_method_34_code 2 (some .int) [.ref a0, .int x0] [(a0, .inr (18, [.ref a1, .ref a2, .int 0, .ref a3, .int 0, .ref a4, .int 0, .null, .int 0, .null, .long 0, .int 0, .null])), (a1, .inr (17, [.int 0, .ref a5, .ref a6, .int 0, .ref a7, .ref a8, .ref a9, .null, .null, .int 0, .ref a10, .ref a11, .ref a12, .int 0, .ref a13, .int 1])), (a6, .inl (z.2 7, 0, .inr (.inr (.inr (.inr (fun _ => none))))))] 2 59 0 0 (fun u => some (.int 0)) (fun u => [(a0, .inr (18, [.ref a1, .ref a2, .int 0, .ref a3, .int 0, .ref a4, .int 1, .null, .int 0, .null, .long 0, .int 0, .null])), (a1, .inr (17, [.int 0, .ref a5, .ref a6, .int 0, .ref a7, .ref a8, .ref a9, .null, .null, .int 0, .ref a10, .ref a11, .ref a12, .int 0, .ref a13, .int 1])), (a6, .inl (z.2 7, 0, .inr (.inr (.inr (.inr (fun _ => none))))))]) := by
  refine CT.of (own := "BallothallModel") (by decide +kernel) (Nat.le_of_ble_eq_true rfl) rfl (fun p e s m below meth c A ls hx hb hml hr hts hown hlocks hin hA hG hZ hP hD hS hl => ?_)
  have hl : lv_has ls 2 [(0, .ref a0), (1, .int x0)] := hl
  refine lv_aload_n hx hb d_14_34_0 rfl (lv_at hl 0 rfl) ?_
  refine lv_aload_n hx hb d_14_34_1 rfl (lv_at hl 0 rfl) ?_
  refine lv_iload_n hx hb d_14_34_2 rfl (lv_at hl 1 rfl) ?_
  refine kV (As := [.int x0]) (rest := [.ref a0]) (wr := []) (c86_BModel_isKind l z a0 a1 a2 a3 a4 a5 a6 a7 a8 a9 a10 a11 a12 a13 x0 h0 h1) hx hb hml hown hts w_1788 w_1785 w_1787 w_s_6f201a w_12 md_813f1f ⟨Nat.le_of_ble_eq_true rfl, Nat.le_of_ble_eq_true rfl⟩ hG hZ hP hD hS hA 0 rfl rfl rfl [0, 1, 2] [] rfl rfl rfl rfl rfl hl.1 rfl (Nat.le_of_ble_eq_true rfl) d_14_34_3 ⟨Nat.le_of_ble_eq_true rfl, Nat.le_of_ble_eq_true rfl⟩ (fun u0 H locs hP hD hS => ?_)
  have hP : va_P z.1 classes [(a0, .inr (18, [.ref a1, .ref a2, .int 0, .ref a3, .int 0, .ref a4, .int 0, .null, .int 0, .null, .long 0, .int 0, .null])), (a1, .inr (17, [.int 0, .ref a5, .ref a6, .int 0, .ref a7, .ref a8, .ref a9, .null, .null, .int 0, .ref a10, .ref a11, .ref a12, .int 0, .ref a13, .int 1])), (a6, .inl (z.2 7, 0, .inr (.inr (.inr (.inr (fun _ => none))))))] H := hP
  have hD : va_D A [(a0, .inr (18, [.ref a1, .ref a2, .int 0, .ref a3, .int 0, .ref a4, .int 0, .null, .int 0, .null, .long 0, .int 0, .null])), (a1, .inr (17, [.int 0, .ref a5, .ref a6, .int 0, .ref a7, .ref a8, .ref a9, .null, .null, .int 0, .ref a10, .ref a11, .ref a12, .int 0, .ref a13, .int 1])), (a6, .inl (z.2 7, 0, .inr (.inr (.inr (.inr (fun _ => none))))))] := hD
  refine W.eq (g2 := F0 m 6 ls [.int 0, .ref a0]) rfl ?_
  refine lv_iconst (v := 1) hx hb d_14_34_6 (by decide +kernel) ?_
  refine kV (As := [.int 0, .int 1]) (rest := []) (wr := [(a1, .inr (17, [.int 0, .ref a5, .ref a6, .int 0, .ref a7, .ref a8, .ref a9, .null, .null, .int 0, .ref a10, .ref a11, .ref a12, .int 0, .ref a13, .int 1])), (a6, .inl (z.2 7, 0, .inr (.inr (.inr (.inr (fun _ => none))))))]) (c31_BModel_ends l z a0 a1 a2 a3 a4) hx hb hml hown hts w_1696 w_1693 w_1695 w_s_f8f2b7 w_12 md_77b0f8 ⟨Nat.le_of_ble_eq_true rfl, Nat.le_of_ble_eq_true rfl⟩ hG hZ hP hD hS hA 0 rfl rfl rfl [0] [1, 2] rfl rfl rfl rfl rfl hl.1 rfl (Nat.le_of_ble_eq_true rfl) d_14_34_7 ⟨Nat.le_of_ble_eq_true rfl, Nat.le_of_ble_eq_true rfl⟩ (fun u1 H locs hP hD hS => ?_)
  have hP : va_P z.1 classes [(a1, .inr (17, [.int 0, .ref a5, .ref a6, .int 0, .ref a7, .ref a8, .ref a9, .null, .null, .int 0, .ref a10, .ref a11, .ref a12, .int 0, .ref a13, .int 1])), (a6, .inl (z.2 7, 0, .inr (.inr (.inr (.inr (fun _ => none)))))), (a0, .inr (18, [.ref a1, .ref a2, .int 0, .ref a3, .int 0, .ref a4, .int 1, .null, .int 0, .null, .long 0, .int 0, .null]))] H := hP
  have hD : va_D A [(a1, .inr (17, [.int 0, .ref a5, .ref a6, .int 0, .ref a7, .ref a8, .ref a9, .null, .null, .int 0, .ref a10, .ref a11, .ref a12, .int 0, .ref a13, .int 1])), (a6, .inl (z.2 7, 0, .inr (.inr (.inr (.inr (fun _ => none)))))), (a0, .inr (18, [.ref a1, .ref a2, .int 0, .ref a3, .int 0, .ref a4, .int 1, .null, .int 0, .null, .long 0, .int 0, .null]))] := hD
  refine W.eq (g2 := F0 m 10 ls [.int 1]) rfl ?_
  refine lv_if_eq (tgt := 17) hx hb d_14_34_10 (by decide) (fun c9 => absurd c9 (by decide +kernel)) (fun _ => ?_)
  refine lv_iconst (v := 0) hx hb d_14_34_13 (by decide +kernel) ?_
  refine lv_goto (tgt := 29) hx hb d_14_34_14 (by decide) ?_
  refine W.widen (k := 0) (n := 0) (Nat.le_of_ble_eq_true rfl) (Nat.le_of_ble_eq_true rfl) ?_
  exact W.iret hx hb hr (fun t ht hW => qk hP hD hS [2, 0, 1] rfl ((fun k => k), (fun _ _ => none)) rfl rfl rfl ht) hS.2.2 d_14_34_29
set_option maxRecDepth 100000 in
set_option maxHeartbeats 4000000 in
theorem c94_B_kindAt (l : Launch) (z : Zz) (hl0 : l.stackTraces = false) (a0 a1 a2 a3 a4 a5 a6 a7 a8 a9 a10 a11 a12 a13 a14 a15 a16 a17 a18 : Nat) (x0 : Int32) (x1 : Int32) (h0 : x0 < 0) : XT l z ⟨"Ballothall", "kindAt", "(IIZ)I"⟩ prog_1_method_8_code 4 (some .int) [.ref a0, .int x0, .int x1, .int 0] [(a0, .inr (11, [.ref a1, .ref a2, .ref a3, .ref a4, .ref a5, .ref a6, .ref a7, .ref a8, .ref a9, .ref a10, .int 0, .int 0, .ref a11, .int 0])), (a1, .inr (0, [.ref a12, .int 0, .int 0, .int 0, .ref a13, .ref a14, .ref a15, .ref a16, .ref a17, .ref a18]))] 7 127 1 6 "java/lang/IndexOutOfBoundsException" := by
  refine XT.of (own := "Ballothall") (by decide +kernel) (Nat.le_of_ble_eq_true rfl) rfl (fun p e s m below meth c A ls hx hb hml hr hts hown hlocks hin hA hG hZ hP hD hS hl hnt => ?_)
  have hl : lv_has ls 4 [(0, .ref a0), (1, .int x0), (2, .int x1), (3, .int 0)] := hl
  refine lv_iload_n hx hb d_1_8_0 rfl (lv_at hl 1 rfl) ?_
  refine lv_aload_n hx hb d_1_8_1 rfl (lv_at hl 0 rfl) ?_
  refine va_get (D := z.1) (ci := 11) (v := .ref a1) (C := "Ballothall") (T := TX11) (N := 14) hx hb hts iX11 hown hG.1 hP 0 rfl rfl 0 (by decide) (hts _ w_406) (fun _ h9 => h9) rfl d_1_8_2 ?_
  refine va_getN (D := z.1) (ci := 0) (v := .int 0) (C := "Ballothall$BallotBox") (T := TX0) (N := 10) hx hb hts iX0 hown hG.1 hP 1 rfl rfl 3 (by decide) (va_Nw.use rfl (hG.2.1 _ n_63 rfl)) (fun _ h9 => h9) rfl d_1_8_5 ?_
  exact xS (As := [.int x0, .int 0]) (rest := []) (wr := [(a0, .inr (11, [.ref a1, .ref a2, .ref a3, .ref a4, .ref a5, .ref a6, .ref a7, .ref a8, .ref a9, .ref a10, .int 0, .int 0, .ref a11, .int 0])), (a1, .inr (0, [.ref a12, .int 0, .int 0, .int 0, .ref a13, .ref a14, .ref a15, .ref a16, .ref a17, .ref a18]))]) (c26_B_needIndex l z hl0 x0 h0) hx hb hml hown hts w_857 w_855 w_856 w_1 md_6cb26b ⟨Nat.le_of_ble_eq_true rfl, Nat.le_of_ble_eq_true rfl⟩ hG hZ hP hD hS hA [] [0, 1] rfl rfl rfl rfl rfl hl.1 rfl (Nat.le_of_ble_eq_true rfl) d_1_8_8 ⟨Nat.le_of_ble_eq_true rfl, Nat.le_of_ble_eq_true rfl⟩ (fun q9 ce9 H locs hP hD hS h7 h8 h9 => x_out hnt hlocks hS h7 h8 h9 (Nat.le_of_ble_eq_true rfl) (Nat.le_of_ble_eq_true rfl))
set_option maxRecDepth 100000 in
set_option maxHeartbeats 4000000 in
theorem c95_BLaw_kindAt (l : Launch) (z : Zz) (hl0 : l.stackTraces = false) (a0 a1 a2 a3 a4 a5 a6 a7 a8 a9 a10 a11 a12 a13 a14 a15 a16 a17 a18 a19 : Nat) (x0 : Int32) (x1 : Int32) (h0 : x0 < 0) : HT l z ⟨"BallothallLaw", "kindAt", "(LBallothall;IIZ[J)I"⟩ method_9_code 6 (some .int) [(0, 12, 15, 19)] [.ref a0, .int x0, .int x1, .int 0, .ref a1] [(a0, .inr (11, [.ref a2, .ref a3, .ref a4, .ref a5, .ref a6, .ref a7, .ref a8, .ref a9, .ref a10, .ref a11, .int 0, .int 0, .ref a12, .int 0])), (a2, .inr (0, [.ref a13, .int 0, .int 0, .int 0, .ref a14, .ref a15, .ref a16, .ref a17, .ref a18, .ref a19]))] 8 158 1 6 (fun u => some (.int 1)) (fun u => []) := by
  refine HT.of (own := "BallothallLaw") (by decide +kernel) (Nat.le_of_ble_eq_true rfl) rfl (fun p e s m below meth c A ls hx hb hml hr hts hown hlocks hin hA hG hZ hP hD hS hl htab => ?_)
  have hl : lv_has ls 6 [(0, .ref a0), (1, .int x0), (2, .int x1), (3, .int 0), (4, .ref a1)] := hl
  refine lv_aload hx hb d_L9_0 (lv_at hl 4 rfl) ?_
  refine lv_iconst (v := 0) hx hb d_L9_2 (by decide +kernel) ?_
  refine lv_aload_n hx hb d_L9_3 rfl (lv_at hl 0 rfl) ?_
  refine lv_iload_n hx hb d_L9_4 rfl (lv_at hl 1 rfl) ?_
  refine lv_iload_n hx hb d_L9_5 rfl (lv_at hl 2 rfl) ?_
  refine lv_iload_n hx hb d_L9_6 rfl (lv_at hl 3 rfl) ?_
  refine xV (As := [.int x0, .int x1, .int 0]) (rest := [.int 0, .ref a1]) (wr := []) (c94_B_kindAt l z hl0 a0 a2 a3 a4 a5 a6 a7 a8 a9 a10 a11 a12 a13 a14 a15 a16 a17 a18 a19 x0 x1 h0) hx hb hml hown hts w_961 w_958 w_959 w_960 w_1 md_b67c3a ⟨Nat.le_of_ble_eq_true rfl, Nat.le_of_ble_eq_true rfl⟩ hG hZ hP hD hS hA 0 rfl rfl rfl [0, 1] [] rfl rfl rfl rfl rfl hl.1 rfl (Nat.le_of_ble_eq_true rfl) d_L9_7 ⟨Nat.le_of_ble_eq_true rfl, Nat.le_of_ble_eq_true rfl⟩ (fun q0 ce9 H locs hP hD hS h7 h8 h9 => ?_)
  have hP : va_P z.1 classes [] H := hP
  have hD : va_D A [] := hD
  refine vx_catch hown [] ⟨0, 12, 15, 19⟩ [] (htab.trans rfl) (fun _ h9 => absurd h9 List.not_mem_nil) rfl (by decide) (hts _ w_849) (va_Nw.use rfl (hG.2.1 _ n_860 rfl)) h7 h8 h9 ?_
  refine lv_astore (lv' := [(5, .ref q0), (0, .ref a0), (1, .int x0), (2, .int x1), (3, .int 0), (4, .ref a1)]) hx hb d_L9_15 hl (by decide) rfl (fun ls hl => ?_)
  refine lv_iconst (v := 1) hx hb d_L9_17 (by decide +kernel) ?_
  refine W.widen (k := 1) (n := 6) (Nat.le_of_ble_eq_true rfl) (Nat.le_of_ble_eq_true rfl) ?_
  refine vx_ret ?_
  exact W.iret hx hb hr (fun t ht hW => qk hP hD hS [] rfl ((fun k => k), (fun _ _ => none)) rfl rfl rfl ht) hS.2.2 d_L9_18
set_option maxRecDepth 100000 in
set_option maxHeartbeats 4000000 in
theorem c96_BModel_kindAt (l : Launch) (z : Zz) (a0 a1 a2 a3 a4 a5 a6 a7 a8 a9 a10 a11 a12 a13 : Nat) (x0 : Int32) (x1 : Int32) (h0 : x0 < 0) : CT l z ⟨"BallothallModel", "kindAt", "(IIZ)I"⟩ prog_14_method_35_code 4 (some .int) [.ref a0, .int x0, .int x1, .int 0] [(a0, .inr (18, [.ref a1, .ref a2, .int 0, .ref a3, .int 0, .ref a4, .int 0, .null, .int 0, .null, .long 0, .int 0, .null])), (a1, .inr (17, [.int 0, .ref a5, .ref a6, .int 0, .ref a7, .ref a8, .ref a9, .null, .null, .int 0, .ref a10, .ref a11, .ref a12, .int 0, .ref a13, .int 1])), (a6, .inl (z.2 7, 0, .inr (.inr (.inr (.inr (fun _ => none))))))] 2 59 0 0 (fun u => some (.int 0)) (fun u => [(a0, .inr (18, [.ref a1, .ref a2, .int 0, .ref a3, .int 0, .ref a4, .int 1, .null, .int 0, .null, .long 0, .int 0, .null])), (a1, .inr (17, [.int 0, .ref a5, .ref a6, .int 0, .ref a7, .ref a8, .ref a9, .null, .null, .int 0, .ref a10, .ref a11, .ref a12, .int 0, .ref a13, .int 1])), (a6, .inl (z.2 7, 0, .inr (.inr (.inr (.inr (fun _ => none))))))]) := by
  refine CT.of (own := "BallothallModel") (by decide +kernel) (Nat.le_of_ble_eq_true rfl) rfl (fun p e s m below meth c A ls hx hb hml hr hts hown hlocks hin hA hG hZ hP hD hS hl => ?_)
  have hl : lv_has ls 4 [(0, .ref a0), (1, .int x0), (2, .int x1), (3, .int 0)] := hl
  refine lv_aload_n hx hb d_14_35_0 rfl (lv_at hl 0 rfl) ?_
  refine lv_aload_n hx hb d_14_35_1 rfl (lv_at hl 0 rfl) ?_
  refine lv_iload_n hx hb d_14_35_2 rfl (lv_at hl 1 rfl) ?_
  refine kV (As := [.int x0]) (rest := [.ref a0]) (wr := []) (c82_BModel_isKind l z a0 a1 a2 a3 a4 a5 a6 a7 a8 a9 a10 a11 a12 a13 x0 h0) hx hb hml hown hts w_1788 w_1785 w_1787 w_s_6f201a w_12 md_813f1f ⟨Nat.le_of_ble_eq_true rfl, Nat.le_of_ble_eq_true rfl⟩ hG hZ hP hD hS hA 0 rfl rfl rfl [0, 1, 2] [] rfl rfl rfl rfl rfl hl.1 rfl (Nat.le_of_ble_eq_true rfl) d_14_35_3 ⟨Nat.le_of_ble_eq_true rfl, Nat.le_of_ble_eq_true rfl⟩ (fun u0 H locs hP hD hS => ?_)
  have hP : va_P z.1 classes [(a0, .inr (18, [.ref a1, .ref a2, .int 0, .ref a3, .int 0, .ref a4, .int 0, .null, .int 0, .null, .long 0, .int 0, .null])), (a1, .inr (17, [.int 0, .ref a5, .ref a6, .int 0, .ref a7, .ref a8, .ref a9, .null, .null, .int 0, .ref a10, .ref a11, .ref a12, .int 0, .ref a13, .int 1])), (a6, .inl (z.2 7, 0, .inr (.inr (.inr (.inr (fun _ => none))))))] H := hP
  have hD : va_D A [(a0, .inr (18, [.ref a1, .ref a2, .int 0, .ref a3, .int 0, .ref a4, .int 0, .null, .int 0, .null, .long 0, .int 0, .null])), (a1, .inr (17, [.int 0, .ref a5, .ref a6, .int 0, .ref a7, .ref a8, .ref a9, .null, .null, .int 0, .ref a10, .ref a11, .ref a12, .int 0, .ref a13, .int 1])), (a6, .inl (z.2 7, 0, .inr (.inr (.inr (.inr (fun _ => none))))))] := hD
  refine W.eq (g2 := F0 m 6 ls [.int 0, .ref a0]) rfl ?_
  refine lv_if_eq (tgt := 21) hx hb d_14_35_6 (by decide) (fun _ => ?_) (fun c9 => absurd (by decide +kernel) c9)
  refine lv_iconst (v := 0) hx hb d_14_35_21 (by decide +kernel) ?_
  refine lv_iconst (v := 1) hx hb d_14_35_22 (by decide +kernel) ?_
  refine kV (As := [.int 0, .int 1]) (rest := []) (wr := [(a1, .inr (17, [.int 0, .ref a5, .ref a6, .int 0, .ref a7, .ref a8, .ref a9, .null, .null, .int 0, .ref a10, .ref a11, .ref a12, .int 0, .ref a13, .int 1])), (a6, .inl (z.2 7, 0, .inr (.inr (.inr (.inr (fun _ => none))))))]) (c31_BModel_ends l z a0 a1 a2 a3 a4) hx hb hml hown hts w_1696 w_1693 w_1695 w_s_f8f2b7 w_12 md_77b0f8 ⟨Nat.le_of_ble_eq_true rfl, Nat.le_of_ble_eq_true rfl⟩ hG hZ hP hD hS hA 0 rfl rfl rfl [0] [1, 2] rfl rfl rfl rfl rfl hl.1 rfl (Nat.le_of_ble_eq_true rfl) d_14_35_23 ⟨Nat.le_of_ble_eq_true rfl, Nat.le_of_ble_eq_true rfl⟩ (fun u1 H locs hP hD hS => ?_)
  have hP : va_P z.1 classes [(a1, .inr (17, [.int 0, .ref a5, .ref a6, .int 0, .ref a7, .ref a8, .ref a9, .null, .null, .int 0, .ref a10, .ref a11, .ref a12, .int 0, .ref a13, .int 1])), (a6, .inl (z.2 7, 0, .inr (.inr (.inr (.inr (fun _ => none)))))), (a0, .inr (18, [.ref a1, .ref a2, .int 0, .ref a3, .int 0, .ref a4, .int 1, .null, .int 0, .null, .long 0, .int 0, .null]))] H := hP
  have hD : va_D A [(a1, .inr (17, [.int 0, .ref a5, .ref a6, .int 0, .ref a7, .ref a8, .ref a9, .null, .null, .int 0, .ref a10, .ref a11, .ref a12, .int 0, .ref a13, .int 1])), (a6, .inl (z.2 7, 0, .inr (.inr (.inr (.inr (fun _ => none)))))), (a0, .inr (18, [.ref a1, .ref a2, .int 0, .ref a3, .int 0, .ref a4, .int 1, .null, .int 0, .null, .long 0, .int 0, .null]))] := hD
  refine W.eq (g2 := F0 m 26 ls [.int 1]) rfl ?_
  refine lv_if_eq (tgt := 31) hx hb d_14_35_26 (by decide) (fun c9 => absurd c9 (by decide +kernel)) (fun _ => ?_)
  refine lv_iconst (v := 0) hx hb d_14_35_29 (by decide +kernel) ?_
  refine W.widen (k := 0) (n := 0) (Nat.le_of_ble_eq_true rfl) (Nat.le_of_ble_eq_true rfl) ?_
  exact W.iret hx hb hr (fun t ht hW => qk hP hD hS [2, 0, 1] rfl ((fun k => k), (fun _ _ => none)) rfl rfl rfl ht) hS.2.2 d_14_35_30
set_option maxRecDepth 100000 in
set_option maxHeartbeats 4000000 in
theorem c97_B_kindAt (l : Launch) (z : Zz) (hl0 : l.stackTraces = false) (a0 a1 a2 a3 a4 a5 a6 a7 a8 a9 a10 a11 a12 a13 a14 a15 a16 a17 a18 : Nat) (x0 : Int32) (x1 : Int32) (h0 : ¬ x0 < 0) : XT l z ⟨"Ballothall", "kindAt", "(IIZ)I"⟩ prog_1_method_8_code 4 (some .int) [.ref a0, .int x0, .int x1, .int 0] [(a0, .inr (11, [.ref a1, .ref a2, .ref a3, .ref a4, .ref a5, .ref a6, .ref a7, .ref a8, .ref a9, .ref a10, .int 0, .int 0, .ref a11, .int 0])), (a1, .inr (0, [.ref a12, .int 0, .int 0, .int 0, .ref a13, .ref a14, .ref a15, .ref a16, .ref a17, .ref a18]))] 7 127 1 6 "java/lang/IndexOutOfBoundsException" := by
  refine XT.of (own := "Ballothall") (by decide +kernel) (Nat.le_of_ble_eq_true rfl) rfl (fun p e s m below meth c A ls hx hb hml hr hts hown hlocks hin hA hG hZ hP hD hS hl hnt => ?_)
  have hl : lv_has ls 4 [(0, .ref a0), (1, .int x0), (2, .int x1), (3, .int 0)] := hl
  refine lv_iload_n hx hb d_1_8_0 rfl (lv_at hl 1 rfl) ?_
  refine lv_aload_n hx hb d_1_8_1 rfl (lv_at hl 0 rfl) ?_
  refine va_get (D := z.1) (ci := 11) (v := .ref a1) (C := "Ballothall") (T := TX11) (N := 14) hx hb hts iX11 hown hG.1 hP 0 rfl rfl 0 (by decide) (hts _ w_406) (fun _ h9 => h9) rfl d_1_8_2 ?_
  refine va_getN (D := z.1) (ci := 0) (v := .int 0) (C := "Ballothall$BallotBox") (T := TX0) (N := 10) hx hb hts iX0 hown hG.1 hP 1 rfl rfl 3 (by decide) (va_Nw.use rfl (hG.2.1 _ n_63 rfl)) (fun _ h9 => h9) rfl d_1_8_5 ?_
  exact xS (As := [.int x0, .int 0]) (rest := []) (wr := [(a0, .inr (11, [.ref a1, .ref a2, .ref a3, .ref a4, .ref a5, .ref a6, .ref a7, .ref a8, .ref a9, .ref a10, .int 0, .int 0, .ref a11, .int 0])), (a1, .inr (0, [.ref a12, .int 0, .int 0, .int 0, .ref a13, .ref a14, .ref a15, .ref a16, .ref a17, .ref a18]))]) (c34_B_needIndex l z hl0 x0 h0) hx hb hml hown hts w_857 w_855 w_856 w_1 md_6cb26b ⟨Nat.le_of_ble_eq_true rfl, Nat.le_of_ble_eq_true rfl⟩ hG hZ hP hD hS hA [] [0, 1] rfl rfl rfl rfl rfl hl.1 rfl (Nat.le_of_ble_eq_true rfl) d_1_8_8 ⟨Nat.le_of_ble_eq_true rfl, Nat.le_of_ble_eq_true rfl⟩ (fun q9 ce9 H locs hP hD hS h7 h8 h9 => x_out hnt hlocks hS h7 h8 h9 (Nat.le_of_ble_eq_true rfl) (Nat.le_of_ble_eq_true rfl))
set_option maxRecDepth 100000 in
set_option maxHeartbeats 4000000 in
theorem c98_BLaw_kindAt (l : Launch) (z : Zz) (hl0 : l.stackTraces = false) (a0 a1 a2 a3 a4 a5 a6 a7 a8 a9 a10 a11 a12 a13 a14 a15 a16 a17 a18 a19 : Nat) (x0 : Int32) (x1 : Int32) (h0 : ¬ x0 < 0) : HT l z ⟨"BallothallLaw", "kindAt", "(LBallothall;IIZ[J)I"⟩ method_9_code 6 (some .int) [(0, 12, 15, 19)] [.ref a0, .int x0, .int x1, .int 0, .ref a1] [(a0, .inr (11, [.ref a2, .ref a3, .ref a4, .ref a5, .ref a6, .ref a7, .ref a8, .ref a9, .ref a10, .ref a11, .int 0, .int 0, .ref a12, .int 0])), (a2, .inr (0, [.ref a13, .int 0, .int 0, .int 0, .ref a14, .ref a15, .ref a16, .ref a17, .ref a18, .ref a19]))] 8 158 1 6 (fun u => some (.int 1)) (fun u => []) := by
  refine HT.of (own := "BallothallLaw") (by decide +kernel) (Nat.le_of_ble_eq_true rfl) rfl (fun p e s m below meth c A ls hx hb hml hr hts hown hlocks hin hA hG hZ hP hD hS hl htab => ?_)
  have hl : lv_has ls 6 [(0, .ref a0), (1, .int x0), (2, .int x1), (3, .int 0), (4, .ref a1)] := hl
  refine lv_aload hx hb d_L9_0 (lv_at hl 4 rfl) ?_
  refine lv_iconst (v := 0) hx hb d_L9_2 (by decide +kernel) ?_
  refine lv_aload_n hx hb d_L9_3 rfl (lv_at hl 0 rfl) ?_
  refine lv_iload_n hx hb d_L9_4 rfl (lv_at hl 1 rfl) ?_
  refine lv_iload_n hx hb d_L9_5 rfl (lv_at hl 2 rfl) ?_
  refine lv_iload_n hx hb d_L9_6 rfl (lv_at hl 3 rfl) ?_
  refine xV (As := [.int x0, .int x1, .int 0]) (rest := [.int 0, .ref a1]) (wr := []) (c97_B_kindAt l z hl0 a0 a2 a3 a4 a5 a6 a7 a8 a9 a10 a11 a12 a13 a14 a15 a16 a17 a18 a19 x0 x1 h0) hx hb hml hown hts w_961 w_958 w_959 w_960 w_1 md_b67c3a ⟨Nat.le_of_ble_eq_true rfl, Nat.le_of_ble_eq_true rfl⟩ hG hZ hP hD hS hA 0 rfl rfl rfl [0, 1] [] rfl rfl rfl rfl rfl hl.1 rfl (Nat.le_of_ble_eq_true rfl) d_L9_7 ⟨Nat.le_of_ble_eq_true rfl, Nat.le_of_ble_eq_true rfl⟩ (fun q0 ce9 H locs hP hD hS h7 h8 h9 => ?_)
  have hP : va_P z.1 classes [] H := hP
  have hD : va_D A [] := hD
  refine vx_catch hown [] ⟨0, 12, 15, 19⟩ [] (htab.trans rfl) (fun _ h9 => absurd h9 List.not_mem_nil) rfl (by decide) (hts _ w_849) (va_Nw.use rfl (hG.2.1 _ n_860 rfl)) h7 h8 h9 ?_
  refine lv_astore (lv' := [(5, .ref q0), (0, .ref a0), (1, .int x0), (2, .int x1), (3, .int 0), (4, .ref a1)]) hx hb d_L9_15 hl (by decide) rfl (fun ls hl => ?_)
  refine lv_iconst (v := 1) hx hb d_L9_17 (by decide +kernel) ?_
  refine W.widen (k := 1) (n := 6) (Nat.le_of_ble_eq_true rfl) (Nat.le_of_ble_eq_true rfl) ?_
  refine vx_ret ?_
  exact W.iret hx hb hr (fun t ht hW => qk hP hD hS [] rfl ((fun k => k), (fun _ _ => none)) rfl rfl rfl ht) hS.2.2 d_L9_18
set_option maxRecDepth 100000 in
set_option maxHeartbeats 4000000 in
theorem c99_BModel_kindAt (l : Launch) (z : Zz) (a0 a1 a2 a3 a4 a5 a6 a7 a8 a9 a10 a11 a12 a13 : Nat) (x0 : Int32) (x1 : Int32) (h0 : ¬ x0 < 0) (h1 : (-1) < x0) : CT l z ⟨"BallothallModel", "kindAt", "(IIZ)I"⟩ prog_14_method_35_code 4 (some .int) [.ref a0, .int x0, .int x1, .int 0] [(a0, .inr (18, [.ref a1, .ref a2, .int 0, .ref a3, .int 0, .ref a4, .int 0, .null, .int 0, .null, .long 0, .int 0, .null])), (a1, .inr (17, [.int 0, .ref a5, .ref a6, .int 0, .ref a7, .ref a8, .ref a9, .null, .null, .int 0, .ref a10, .ref a11, .ref a12, .int 0, .ref a13, .int 1])), (a6, .inl (z.2 7, 0, .inr (.inr (.inr (.inr (fun _ => none))))))] 2 59 0 0 (fun u => some (.int 0)) (fun u => [(a0, .inr (18, [.ref a1, .ref a2, .int 0, .ref a3, .int 0, .ref a4, .int 1, .null, .int 0, .null, .long 0, .int 0, .null])), (a1, .inr (17, [.int 0, .ref a5, .ref a6, .int 0, .ref a7, .ref a8, .ref a9, .null, .null, .int 0, .ref a10, .ref a11, .ref a12, .int 0, .ref a13, .int 1])), (a6, .inl (z.2 7, 0, .inr (.inr (.inr (.inr (fun _ => none))))))]) := by
  refine CT.of (own := "BallothallModel") (by decide +kernel) (Nat.le_of_ble_eq_true rfl) rfl (fun p e s m below meth c A ls hx hb hml hr hts hown hlocks hin hA hG hZ hP hD hS hl => ?_)
  have hl : lv_has ls 4 [(0, .ref a0), (1, .int x0), (2, .int x1), (3, .int 0)] := hl
  refine lv_aload_n hx hb d_14_35_0 rfl (lv_at hl 0 rfl) ?_
  refine lv_aload_n hx hb d_14_35_1 rfl (lv_at hl 0 rfl) ?_
  refine lv_iload_n hx hb d_14_35_2 rfl (lv_at hl 1 rfl) ?_
  refine kV (As := [.int x0]) (rest := [.ref a0]) (wr := []) (c86_BModel_isKind l z a0 a1 a2 a3 a4 a5 a6 a7 a8 a9 a10 a11 a12 a13 x0 h0 h1) hx hb hml hown hts w_1788 w_1785 w_1787 w_s_6f201a w_12 md_813f1f ⟨Nat.le_of_ble_eq_true rfl, Nat.le_of_ble_eq_true rfl⟩ hG hZ hP hD hS hA 0 rfl rfl rfl [0, 1, 2] [] rfl rfl rfl rfl rfl hl.1 rfl (Nat.le_of_ble_eq_true rfl) d_14_35_3 ⟨Nat.le_of_ble_eq_true rfl, Nat.le_of_ble_eq_true rfl⟩ (fun u0 H locs hP hD hS => ?_)
  have hP : va_P z.1 classes [(a0, .inr (18, [.ref a1, .ref a2, .int 0, .ref a3, .int 0, .ref a4, .int 0, .null, .int 0, .null, .long 0, .int 0, .null])), (a1, .inr (17, [.int 0, .ref a5, .ref a6, .int 0, .ref a7, .ref a8, .ref a9, .null, .null, .int 0, .ref a10, .ref a11, .ref a12, .int 0, .ref a13, .int 1])), (a6, .inl (z.2 7, 0, .inr (.inr (.inr (.inr (fun _ => none))))))] H := hP
  have hD : va_D A [(a0, .inr (18, [.ref a1, .ref a2, .int 0, .ref a3, .int 0, .ref a4, .int 0, .null, .int 0, .null, .long 0, .int 0, .null])), (a1, .inr (17, [.int 0, .ref a5, .ref a6, .int 0, .ref a7, .ref a8, .ref a9, .null, .null, .int 0, .ref a10, .ref a11, .ref a12, .int 0, .ref a13, .int 1])), (a6, .inl (z.2 7, 0, .inr (.inr (.inr (.inr (fun _ => none))))))] := hD
  refine W.eq (g2 := F0 m 6 ls [.int 0, .ref a0]) rfl ?_
  refine lv_if_eq (tgt := 21) hx hb d_14_35_6 (by decide) (fun _ => ?_) (fun c9 => absurd (by decide +kernel) c9)
  refine lv_iconst (v := 0) hx hb d_14_35_21 (by decide +kernel) ?_
  refine lv_iconst (v := 1) hx hb d_14_35_22 (by decide +kernel) ?_
  refine kV (As := [.int 0, .int 1]) (rest := []) (wr := [(a1, .inr (17, [.int 0, .ref a5, .ref a6, .int 0, .ref a7, .ref a8, .ref a9, .null, .null, .int 0, .ref a10, .ref a11, .ref a12, .int 0, .ref a13, .int 1])), (a6, .inl (z.2 7, 0, .inr (.inr (.inr (.inr (fun _ => none))))))]) (c31_BModel_ends l z a0 a1 a2 a3 a4) hx hb hml hown hts w_1696 w_1693 w_1695 w_s_f8f2b7 w_12 md_77b0f8 ⟨Nat.le_of_ble_eq_true rfl, Nat.le_of_ble_eq_true rfl⟩ hG hZ hP hD hS hA 0 rfl rfl rfl [0] [1, 2] rfl rfl rfl rfl rfl hl.1 rfl (Nat.le_of_ble_eq_true rfl) d_14_35_23 ⟨Nat.le_of_ble_eq_true rfl, Nat.le_of_ble_eq_true rfl⟩ (fun u1 H locs hP hD hS => ?_)
  have hP : va_P z.1 classes [(a1, .inr (17, [.int 0, .ref a5, .ref a6, .int 0, .ref a7, .ref a8, .ref a9, .null, .null, .int 0, .ref a10, .ref a11, .ref a12, .int 0, .ref a13, .int 1])), (a6, .inl (z.2 7, 0, .inr (.inr (.inr (.inr (fun _ => none)))))), (a0, .inr (18, [.ref a1, .ref a2, .int 0, .ref a3, .int 0, .ref a4, .int 1, .null, .int 0, .null, .long 0, .int 0, .null]))] H := hP
  have hD : va_D A [(a1, .inr (17, [.int 0, .ref a5, .ref a6, .int 0, .ref a7, .ref a8, .ref a9, .null, .null, .int 0, .ref a10, .ref a11, .ref a12, .int 0, .ref a13, .int 1])), (a6, .inl (z.2 7, 0, .inr (.inr (.inr (.inr (fun _ => none)))))), (a0, .inr (18, [.ref a1, .ref a2, .int 0, .ref a3, .int 0, .ref a4, .int 1, .null, .int 0, .null, .long 0, .int 0, .null]))] := hD
  refine W.eq (g2 := F0 m 26 ls [.int 1]) rfl ?_
  refine lv_if_eq (tgt := 31) hx hb d_14_35_26 (by decide) (fun c9 => absurd c9 (by decide +kernel)) (fun _ => ?_)
  refine lv_iconst (v := 0) hx hb d_14_35_29 (by decide +kernel) ?_
  refine W.widen (k := 0) (n := 0) (Nat.le_of_ble_eq_true rfl) (Nat.le_of_ble_eq_true rfl) ?_
  exact W.iret hx hb hr (fun t ht hW => qk hP hD hS [2, 0, 1] rfl ((fun k => k), (fun _ _ => none)) rfl rfl rfl ht) hS.2.2 d_14_35_30
set_option maxRecDepth 100000 in
set_option maxHeartbeats 4000000 in
theorem c100_B_kindAt (l : Launch) (z : Zz) (hl0 : l.stackTraces = false) (a0 a1 a2 a3 a4 a5 a6 a7 a8 a9 a10 a11 a12 a13 a14 a15 a16 a17 a18 : Nat) (x0 : Int32) (x1 : Int32) (h0 : x0 < 0) : XT l z ⟨"Ballothall", "kindAt", "(IIZ)I"⟩ prog_1_method_8_code 4 (some .int) [.ref a0, .int x0, .int x1, .int 1] [(a0, .inr (11, [.ref a1, .ref a2, .ref a3, .ref a4, .ref a5, .ref a6, .ref a7, .ref a8, .ref a9, .ref a10, .int 0, .int 0, .ref a11, .int 0])), (a1, .inr (0, [.ref a12, .int 0, .int 0, .int 0, .ref a13, .ref a14, .ref a15, .ref a16, .ref a17, .ref a18]))] 7 127 1 6 "java/lang/IndexOutOfBoundsException" := by
  refine XT.of (own := "Ballothall") (by decide +kernel) (Nat.le_of_ble_eq_true rfl) rfl (fun p e s m below meth c A ls hx hb hml hr hts hown hlocks hin hA hG hZ hP hD hS hl hnt => ?_)
  have hl : lv_has ls 4 [(0, .ref a0), (1, .int x0), (2, .int x1), (3, .int 1)] := hl
  refine lv_iload_n hx hb d_1_8_0 rfl (lv_at hl 1 rfl) ?_
  refine lv_aload_n hx hb d_1_8_1 rfl (lv_at hl 0 rfl) ?_
  refine va_get (D := z.1) (ci := 11) (v := .ref a1) (C := "Ballothall") (T := TX11) (N := 14) hx hb hts iX11 hown hG.1 hP 0 rfl rfl 0 (by decide) (hts _ w_406) (fun _ h9 => h9) rfl d_1_8_2 ?_
  refine va_getN (D := z.1) (ci := 0) (v := .int 0) (C := "Ballothall$BallotBox") (T := TX0) (N := 10) hx hb hts iX0 hown hG.1 hP 1 rfl rfl 3 (by decide) (va_Nw.use rfl (hG.2.1 _ n_63 rfl)) (fun _ h9 => h9) rfl d_1_8_5 ?_
  exact xS (As := [.int x0, .int 0]) (rest := []) (wr := [(a0, .inr (11, [.ref a1, .ref a2, .ref a3, .ref a4, .ref a5, .ref a6, .ref a7, .ref a8, .ref a9, .ref a10, .int 0, .int 0, .ref a11, .int 0])), (a1, .inr (0, [.ref a12, .int 0, .int 0, .int 0, .ref a13, .ref a14, .ref a15, .ref a16, .ref a17, .ref a18]))]) (c26_B_needIndex l z hl0 x0 h0) hx hb hml hown hts w_857 w_855 w_856 w_1 md_6cb26b ⟨Nat.le_of_ble_eq_true rfl, Nat.le_of_ble_eq_true rfl⟩ hG hZ hP hD hS hA [] [0, 1] rfl rfl rfl rfl rfl hl.1 rfl (Nat.le_of_ble_eq_true rfl) d_1_8_8 ⟨Nat.le_of_ble_eq_true rfl, Nat.le_of_ble_eq_true rfl⟩ (fun q9 ce9 H locs hP hD hS h7 h8 h9 => x_out hnt hlocks hS h7 h8 h9 (Nat.le_of_ble_eq_true rfl) (Nat.le_of_ble_eq_true rfl))
set_option maxRecDepth 100000 in
set_option maxHeartbeats 4000000 in
theorem c101_BLaw_kindAt (l : Launch) (z : Zz) (hl0 : l.stackTraces = false) (a0 a1 a2 a3 a4 a5 a6 a7 a8 a9 a10 a11 a12 a13 a14 a15 a16 a17 a18 a19 : Nat) (x0 : Int32) (x1 : Int32) (h0 : x0 < 0) : HT l z ⟨"BallothallLaw", "kindAt", "(LBallothall;IIZ[J)I"⟩ method_9_code 6 (some .int) [(0, 12, 15, 19)] [.ref a0, .int x0, .int x1, .int 1, .ref a1] [(a0, .inr (11, [.ref a2, .ref a3, .ref a4, .ref a5, .ref a6, .ref a7, .ref a8, .ref a9, .ref a10, .ref a11, .int 0, .int 0, .ref a12, .int 0])), (a2, .inr (0, [.ref a13, .int 0, .int 0, .int 0, .ref a14, .ref a15, .ref a16, .ref a17, .ref a18, .ref a19]))] 8 158 1 6 (fun u => some (.int 1)) (fun u => []) := by
  refine HT.of (own := "BallothallLaw") (by decide +kernel) (Nat.le_of_ble_eq_true rfl) rfl (fun p e s m below meth c A ls hx hb hml hr hts hown hlocks hin hA hG hZ hP hD hS hl htab => ?_)
  have hl : lv_has ls 6 [(0, .ref a0), (1, .int x0), (2, .int x1), (3, .int 1), (4, .ref a1)] := hl
  refine lv_aload hx hb d_L9_0 (lv_at hl 4 rfl) ?_
  refine lv_iconst (v := 0) hx hb d_L9_2 (by decide +kernel) ?_
  refine lv_aload_n hx hb d_L9_3 rfl (lv_at hl 0 rfl) ?_
  refine lv_iload_n hx hb d_L9_4 rfl (lv_at hl 1 rfl) ?_
  refine lv_iload_n hx hb d_L9_5 rfl (lv_at hl 2 rfl) ?_
  refine lv_iload_n hx hb d_L9_6 rfl (lv_at hl 3 rfl) ?_
  refine xV (As := [.int x0, .int x1, .int 1]) (rest := [.int 0, .ref a1]) (wr := []) (c100_B_kindAt l z hl0 a0 a2 a3 a4 a5 a6 a7 a8 a9 a10 a11 a12 a13 a14 a15 a16 a17 a18 a19 x0 x1 h0) hx hb hml hown hts w_961 w_958 w_959 w_960 w_1 md_b67c3a ⟨Nat.le_of_ble_eq_true rfl, Nat.le_of_ble_eq_true rfl⟩ hG hZ hP hD hS hA 0 rfl rfl rfl [0, 1] [] rfl rfl rfl rfl rfl hl.1 rfl (Nat.le_of_ble_eq_true rfl) d_L9_7 ⟨Nat.le_of_ble_eq_true rfl, Nat.le_of_ble_eq_true rfl⟩ (fun q0 ce9 H locs hP hD hS h7 h8 h9 => ?_)
  have hP : va_P z.1 classes [] H := hP
  have hD : va_D A [] := hD
  refine vx_catch hown [] ⟨0, 12, 15, 19⟩ [] (htab.trans rfl) (fun _ h9 => absurd h9 List.not_mem_nil) rfl (by decide) (hts _ w_849) (va_Nw.use rfl (hG.2.1 _ n_860 rfl)) h7 h8 h9 ?_
  refine lv_astore (lv' := [(5, .ref q0), (0, .ref a0), (1, .int x0), (2, .int x1), (3, .int 1), (4, .ref a1)]) hx hb d_L9_15 hl (by decide) rfl (fun ls hl => ?_)
  refine lv_iconst (v := 1) hx hb d_L9_17 (by decide +kernel) ?_
  refine W.widen (k := 1) (n := 6) (Nat.le_of_ble_eq_true rfl) (Nat.le_of_ble_eq_true rfl) ?_
  refine vx_ret ?_
  exact W.iret hx hb hr (fun t ht hW => qk hP hD hS [] rfl ((fun k => k), (fun _ _ => none)) rfl rfl rfl ht) hS.2.2 d_L9_18
set_option maxRecDepth 100000 in
set_option maxHeartbeats 4000000 in
theorem c102_BModel_kindAt (l : Launch) (z : Zz) (a0 a1 a2 a3 a4 a5 a6 a7 a8 a9 a10 a11 a12 a13 : Nat) (x0 : Int32) (x1 : Int32) (h0 : x0 < 0) : CT l z ⟨"BallothallModel", "kindAt", "(IIZ)I"⟩ prog_14_method_35_code 4 (some .int) [.ref a0, .int x0, .int x1, .int 1] [(a0, .inr (18, [.ref a1, .ref a2, .int 0, .ref a3, .int 0, .ref a4, .int 0, .null, .int 0, .null, .long 0, .int 0, .null])), (a1, .inr (17, [.int 0, .ref a5, .ref a6, .int 0, .ref a7, .ref a8, .ref a9, .null, .null, .int 0, .ref a10, .ref a11, .ref a12, .int 0, .ref a13, .int 1])), (a6, .inl (z.2 7, 0, .inr (.inr (.inr (.inr (fun _ => none))))))] 2 59 0 0 (fun u => some (.int 0)) (fun u => [(a0, .inr (18, [.ref a1, .ref a2, .int 0, .ref a3, .int 0, .ref a4, .int 1, .null, .int 0, .null, .long 0, .int 0, .null])), (a1, .inr (17, [.int 0, .ref a5, .ref a6, .int 0, .ref a7, .ref a8, .ref a9, .null, .null, .int 0, .ref a10, .ref a11, .ref a12, .int 0, .ref a13, .int 1])), (a6, .inl (z.2 7, 0, .inr (.inr (.inr (.inr (fun _ => none))))))]) := by
  refine CT.of (own := "BallothallModel") (by decide +kernel) (Nat.le_of_ble_eq_true rfl) rfl (fun p e s m below meth c A ls hx hb hml hr hts hown hlocks hin hA hG hZ hP hD hS hl => ?_)
  have hl : lv_has ls 4 [(0, .ref a0), (1, .int x0), (2, .int x1), (3, .int 1)] := hl
  refine lv_aload_n hx hb d_14_35_0 rfl (lv_at hl 0 rfl) ?_
  refine lv_aload_n hx hb d_14_35_1 rfl (lv_at hl 0 rfl) ?_
  refine lv_iload_n hx hb d_14_35_2 rfl (lv_at hl 1 rfl) ?_
  refine kV (As := [.int x0]) (rest := [.ref a0]) (wr := []) (c82_BModel_isKind l z a0 a1 a2 a3 a4 a5 a6 a7 a8 a9 a10 a11 a12 a13 x0 h0) hx hb hml hown hts w_1788 w_1785 w_1787 w_s_6f201a w_12 md_813f1f ⟨Nat.le_of_ble_eq_true rfl, Nat.le_of_ble_eq_true rfl⟩ hG hZ hP hD hS hA 0 rfl rfl rfl [0, 1, 2] [] rfl rfl rfl rfl rfl hl.1 rfl (Nat.le_of_ble_eq_true rfl) d_14_35_3 ⟨Nat.le_of_ble_eq_true rfl, Nat.le_of_ble_eq_true rfl⟩ (fun u0 H locs hP hD hS => ?_)
  have hP : va_P z.1 classes [(a0, .inr (18, [.ref a1, .ref a2, .int 0, .ref a3, .int 0, .ref a4, .int 0, .null, .int 0, .null, .long 0, .int 0, .null])), (a1, .inr (17, [.int 0, .ref a5, .ref a6, .int 0, .ref a7, .ref a8, .ref a9, .null, .null, .int 0, .ref a10, .ref a11, .ref a12, .int 0, .ref a13, .int 1])), (a6, .inl (z.2 7, 0, .inr (.inr (.inr (.inr (fun _ => none))))))] H := hP
  have hD : va_D A [(a0, .inr (18, [.ref a1, .ref a2, .int 0, .ref a3, .int 0, .ref a4, .int 0, .null, .int 0, .null, .long 0, .int 0, .null])), (a1, .inr (17, [.int 0, .ref a5, .ref a6, .int 0, .ref a7, .ref a8, .ref a9, .null, .null, .int 0, .ref a10, .ref a11, .ref a12, .int 0, .ref a13, .int 1])), (a6, .inl (z.2 7, 0, .inr (.inr (.inr (.inr (fun _ => none))))))] := hD
  refine W.eq (g2 := F0 m 6 ls [.int 0, .ref a0]) rfl ?_
  refine lv_if_eq (tgt := 21) hx hb d_14_35_6 (by decide) (fun _ => ?_) (fun c9 => absurd (by decide +kernel) c9)
  refine lv_iconst (v := 0) hx hb d_14_35_21 (by decide +kernel) ?_
  refine lv_iconst (v := 1) hx hb d_14_35_22 (by decide +kernel) ?_
  refine kV (As := [.int 0, .int 1]) (rest := []) (wr := [(a1, .inr (17, [.int 0, .ref a5, .ref a6, .int 0, .ref a7, .ref a8, .ref a9, .null, .null, .int 0, .ref a10, .ref a11, .ref a12, .int 0, .ref a13, .int 1])), (a6, .inl (z.2 7, 0, .inr (.inr (.inr (.inr (fun _ => none))))))]) (c31_BModel_ends l z a0 a1 a2 a3 a4) hx hb hml hown hts w_1696 w_1693 w_1695 w_s_f8f2b7 w_12 md_77b0f8 ⟨Nat.le_of_ble_eq_true rfl, Nat.le_of_ble_eq_true rfl⟩ hG hZ hP hD hS hA 0 rfl rfl rfl [0] [1, 2] rfl rfl rfl rfl rfl hl.1 rfl (Nat.le_of_ble_eq_true rfl) d_14_35_23 ⟨Nat.le_of_ble_eq_true rfl, Nat.le_of_ble_eq_true rfl⟩ (fun u1 H locs hP hD hS => ?_)
  have hP : va_P z.1 classes [(a1, .inr (17, [.int 0, .ref a5, .ref a6, .int 0, .ref a7, .ref a8, .ref a9, .null, .null, .int 0, .ref a10, .ref a11, .ref a12, .int 0, .ref a13, .int 1])), (a6, .inl (z.2 7, 0, .inr (.inr (.inr (.inr (fun _ => none)))))), (a0, .inr (18, [.ref a1, .ref a2, .int 0, .ref a3, .int 0, .ref a4, .int 1, .null, .int 0, .null, .long 0, .int 0, .null]))] H := hP
  have hD : va_D A [(a1, .inr (17, [.int 0, .ref a5, .ref a6, .int 0, .ref a7, .ref a8, .ref a9, .null, .null, .int 0, .ref a10, .ref a11, .ref a12, .int 0, .ref a13, .int 1])), (a6, .inl (z.2 7, 0, .inr (.inr (.inr (.inr (fun _ => none)))))), (a0, .inr (18, [.ref a1, .ref a2, .int 0, .ref a3, .int 0, .ref a4, .int 1, .null, .int 0, .null, .long 0, .int 0, .null]))] := hD
  refine W.eq (g2 := F0 m 26 ls [.int 1]) rfl ?_
  refine lv_if_eq (tgt := 31) hx hb d_14_35_26 (by decide) (fun c9 => absurd c9 (by decide +kernel)) (fun _ => ?_)
  refine lv_iconst (v := 0) hx hb d_14_35_29 (by decide +kernel) ?_
  refine W.widen (k := 0) (n := 0) (Nat.le_of_ble_eq_true rfl) (Nat.le_of_ble_eq_true rfl) ?_
  exact W.iret hx hb hr (fun t ht hW => qk hP hD hS [2, 0, 1] rfl ((fun k => k), (fun _ _ => none)) rfl rfl rfl ht) hS.2.2 d_14_35_30
set_option maxRecDepth 100000 in
set_option maxHeartbeats 4000000 in
theorem c103_B_kindAt (l : Launch) (z : Zz) (hl0 : l.stackTraces = false) (a0 a1 a2 a3 a4 a5 a6 a7 a8 a9 a10 a11 a12 a13 a14 a15 a16 a17 a18 : Nat) (x0 : Int32) (x1 : Int32) (h0 : ¬ x0 < 0) : XT l z ⟨"Ballothall", "kindAt", "(IIZ)I"⟩ prog_1_method_8_code 4 (some .int) [.ref a0, .int x0, .int x1, .int 1] [(a0, .inr (11, [.ref a1, .ref a2, .ref a3, .ref a4, .ref a5, .ref a6, .ref a7, .ref a8, .ref a9, .ref a10, .int 0, .int 0, .ref a11, .int 0])), (a1, .inr (0, [.ref a12, .int 0, .int 0, .int 0, .ref a13, .ref a14, .ref a15, .ref a16, .ref a17, .ref a18]))] 7 127 1 6 "java/lang/IndexOutOfBoundsException" := by
  refine XT.of (own := "Ballothall") (by decide +kernel) (Nat.le_of_ble_eq_true rfl) rfl (fun p e s m below meth c A ls hx hb hml hr hts hown hlocks hin hA hG hZ hP hD hS hl hnt => ?_)
  have hl : lv_has ls 4 [(0, .ref a0), (1, .int x0), (2, .int x1), (3, .int 1)] := hl
  refine lv_iload_n hx hb d_1_8_0 rfl (lv_at hl 1 rfl) ?_
  refine lv_aload_n hx hb d_1_8_1 rfl (lv_at hl 0 rfl) ?_
  refine va_get (D := z.1) (ci := 11) (v := .ref a1) (C := "Ballothall") (T := TX11) (N := 14) hx hb hts iX11 hown hG.1 hP 0 rfl rfl 0 (by decide) (hts _ w_406) (fun _ h9 => h9) rfl d_1_8_2 ?_
  refine va_getN (D := z.1) (ci := 0) (v := .int 0) (C := "Ballothall$BallotBox") (T := TX0) (N := 10) hx hb hts iX0 hown hG.1 hP 1 rfl rfl 3 (by decide) (va_Nw.use rfl (hG.2.1 _ n_63 rfl)) (fun _ h9 => h9) rfl d_1_8_5 ?_
  exact xS (As := [.int x0, .int 0]) (rest := []) (wr := [(a0, .inr (11, [.ref a1, .ref a2, .ref a3, .ref a4, .ref a5, .ref a6, .ref a7, .ref a8, .ref a9, .ref a10, .int 0, .int 0, .ref a11, .int 0])), (a1, .inr (0, [.ref a12, .int 0, .int 0, .int 0, .ref a13, .ref a14, .ref a15, .ref a16, .ref a17, .ref a18]))]) (c34_B_needIndex l z hl0 x0 h0) hx hb hml hown hts w_857 w_855 w_856 w_1 md_6cb26b ⟨Nat.le_of_ble_eq_true rfl, Nat.le_of_ble_eq_true rfl⟩ hG hZ hP hD hS hA [] [0, 1] rfl rfl rfl rfl rfl hl.1 rfl (Nat.le_of_ble_eq_true rfl) d_1_8_8 ⟨Nat.le_of_ble_eq_true rfl, Nat.le_of_ble_eq_true rfl⟩ (fun q9 ce9 H locs hP hD hS h7 h8 h9 => x_out hnt hlocks hS h7 h8 h9 (Nat.le_of_ble_eq_true rfl) (Nat.le_of_ble_eq_true rfl))
set_option maxRecDepth 100000 in
set_option maxHeartbeats 4000000 in
theorem c104_BLaw_kindAt (l : Launch) (z : Zz) (hl0 : l.stackTraces = false) (a0 a1 a2 a3 a4 a5 a6 a7 a8 a9 a10 a11 a12 a13 a14 a15 a16 a17 a18 a19 : Nat) (x0 : Int32) (x1 : Int32) (h0 : ¬ x0 < 0) : HT l z ⟨"BallothallLaw", "kindAt", "(LBallothall;IIZ[J)I"⟩ method_9_code 6 (some .int) [(0, 12, 15, 19)] [.ref a0, .int x0, .int x1, .int 1, .ref a1] [(a0, .inr (11, [.ref a2, .ref a3, .ref a4, .ref a5, .ref a6, .ref a7, .ref a8, .ref a9, .ref a10, .ref a11, .int 0, .int 0, .ref a12, .int 0])), (a2, .inr (0, [.ref a13, .int 0, .int 0, .int 0, .ref a14, .ref a15, .ref a16, .ref a17, .ref a18, .ref a19]))] 8 158 1 6 (fun u => some (.int 1)) (fun u => []) := by
  refine HT.of (own := "BallothallLaw") (by decide +kernel) (Nat.le_of_ble_eq_true rfl) rfl (fun p e s m below meth c A ls hx hb hml hr hts hown hlocks hin hA hG hZ hP hD hS hl htab => ?_)
  have hl : lv_has ls 6 [(0, .ref a0), (1, .int x0), (2, .int x1), (3, .int 1), (4, .ref a1)] := hl
  refine lv_aload hx hb d_L9_0 (lv_at hl 4 rfl) ?_
  refine lv_iconst (v := 0) hx hb d_L9_2 (by decide +kernel) ?_
  refine lv_aload_n hx hb d_L9_3 rfl (lv_at hl 0 rfl) ?_
  refine lv_iload_n hx hb d_L9_4 rfl (lv_at hl 1 rfl) ?_
  refine lv_iload_n hx hb d_L9_5 rfl (lv_at hl 2 rfl) ?_
  refine lv_iload_n hx hb d_L9_6 rfl (lv_at hl 3 rfl) ?_
  refine xV (As := [.int x0, .int x1, .int 1]) (rest := [.int 0, .ref a1]) (wr := []) (c103_B_kindAt l z hl0 a0 a2 a3 a4 a5 a6 a7 a8 a9 a10 a11 a12 a13 a14 a15 a16 a17 a18 a19 x0 x1 h0) hx hb hml hown hts w_961 w_958 w_959 w_960 w_1 md_b67c3a ⟨Nat.le_of_ble_eq_true rfl, Nat.le_of_ble_eq_true rfl⟩ hG hZ hP hD hS hA 0 rfl rfl rfl [0, 1] [] rfl rfl rfl rfl rfl hl.1 rfl (Nat.le_of_ble_eq_true rfl) d_L9_7 ⟨Nat.le_of_ble_eq_true rfl, Nat.le_of_ble_eq_true rfl⟩ (fun q0 ce9 H locs hP hD hS h7 h8 h9 => ?_)
  have hP : va_P z.1 classes [] H := hP
  have hD : va_D A [] := hD
  refine vx_catch hown [] ⟨0, 12, 15, 19⟩ [] (htab.trans rfl) (fun _ h9 => absurd h9 List.not_mem_nil) rfl (by decide) (hts _ w_849) (va_Nw.use rfl (hG.2.1 _ n_860 rfl)) h7 h8 h9 ?_
  refine lv_astore (lv' := [(5, .ref q0), (0, .ref a0), (1, .int x0), (2, .int x1), (3, .int 1), (4, .ref a1)]) hx hb d_L9_15 hl (by decide) rfl (fun ls hl => ?_)
  refine lv_iconst (v := 1) hx hb d_L9_17 (by decide +kernel) ?_
  refine W.widen (k := 1) (n := 6) (Nat.le_of_ble_eq_true rfl) (Nat.le_of_ble_eq_true rfl) ?_
  refine vx_ret ?_
  exact W.iret hx hb hr (fun t ht hW => qk hP hD hS [] rfl ((fun k => k), (fun _ _ => none)) rfl rfl rfl ht) hS.2.2 d_L9_18
set_option maxRecDepth 100000 in
set_option maxHeartbeats 4000000 in
theorem c105_BModel_kindAt (l : Launch) (z : Zz) (a0 a1 a2 a3 a4 a5 a6 a7 a8 a9 a10 a11 a12 a13 : Nat) (x0 : Int32) (x1 : Int32) (h0 : ¬ x0 < 0) (h1 : (-1) < x0) : CT l z ⟨"BallothallModel", "kindAt", "(IIZ)I"⟩ prog_14_method_35_code 4 (some .int) [.ref a0, .int x0, .int x1, .int 1] [(a0, .inr (18, [.ref a1, .ref a2, .int 0, .ref a3, .int 0, .ref a4, .int 0, .null, .int 0, .null, .long 0, .int 0, .null])), (a1, .inr (17, [.int 0, .ref a5, .ref a6, .int 0, .ref a7, .ref a8, .ref a9, .null, .null, .int 0, .ref a10, .ref a11, .ref a12, .int 0, .ref a13, .int 1])), (a6, .inl (z.2 7, 0, .inr (.inr (.inr (.inr (fun _ => none))))))] 2 59 0 0 (fun u => some (.int 0)) (fun u => [(a0, .inr (18, [.ref a1, .ref a2, .int 0, .ref a3, .int 0, .ref a4, .int 1, .null, .int 0, .null, .long 0, .int 0, .null])), (a1, .inr (17, [.int 0, .ref a5, .ref a6, .int 0, .ref a7, .ref a8, .ref a9, .null, .null, .int 0, .ref a10, .ref a11, .ref a12, .int 0, .ref a13, .int 1])), (a6, .inl (z.2 7, 0, .inr (.inr (.inr (.inr (fun _ => none))))))]) := by
  refine CT.of (own := "BallothallModel") (by decide +kernel) (Nat.le_of_ble_eq_true rfl) rfl (fun p e s m below meth c A ls hx hb hml hr hts hown hlocks hin hA hG hZ hP hD hS hl => ?_)
  have hl : lv_has ls 4 [(0, .ref a0), (1, .int x0), (2, .int x1), (3, .int 1)] := hl
  refine lv_aload_n hx hb d_14_35_0 rfl (lv_at hl 0 rfl) ?_
  refine lv_aload_n hx hb d_14_35_1 rfl (lv_at hl 0 rfl) ?_
  refine lv_iload_n hx hb d_14_35_2 rfl (lv_at hl 1 rfl) ?_
  refine kV (As := [.int x0]) (rest := [.ref a0]) (wr := []) (c86_BModel_isKind l z a0 a1 a2 a3 a4 a5 a6 a7 a8 a9 a10 a11 a12 a13 x0 h0 h1) hx hb hml hown hts w_1788 w_1785 w_1787 w_s_6f201a w_12 md_813f1f ⟨Nat.le_of_ble_eq_true rfl, Nat.le_of_ble_eq_true rfl⟩ hG hZ hP hD hS hA 0 rfl rfl rfl [0, 1, 2] [] rfl rfl rfl rfl rfl hl.1 rfl (Nat.le_of_ble_eq_true rfl) d_14_35_3 ⟨Nat.le_of_ble_eq_true rfl, Nat.le_of_ble_eq_true rfl⟩ (fun u0 H locs hP hD hS => ?_)
  have hP : va_P z.1 classes [(a0, .inr (18, [.ref a1, .ref a2, .int 0, .ref a3, .int 0, .ref a4, .int 0, .null, .int 0, .null, .long 0, .int 0, .null])), (a1, .inr (17, [.int 0, .ref a5, .ref a6, .int 0, .ref a7, .ref a8, .ref a9, .null, .null, .int 0, .ref a10, .ref a11, .ref a12, .int 0, .ref a13, .int 1])), (a6, .inl (z.2 7, 0, .inr (.inr (.inr (.inr (fun _ => none))))))] H := hP
  have hD : va_D A [(a0, .inr (18, [.ref a1, .ref a2, .int 0, .ref a3, .int 0, .ref a4, .int 0, .null, .int 0, .null, .long 0, .int 0, .null])), (a1, .inr (17, [.int 0, .ref a5, .ref a6, .int 0, .ref a7, .ref a8, .ref a9, .null, .null, .int 0, .ref a10, .ref a11, .ref a12, .int 0, .ref a13, .int 1])), (a6, .inl (z.2 7, 0, .inr (.inr (.inr (.inr (fun _ => none))))))] := hD
  refine W.eq (g2 := F0 m 6 ls [.int 0, .ref a0]) rfl ?_
  refine lv_if_eq (tgt := 21) hx hb d_14_35_6 (by decide) (fun _ => ?_) (fun c9 => absurd (by decide +kernel) c9)
  refine lv_iconst (v := 0) hx hb d_14_35_21 (by decide +kernel) ?_
  refine lv_iconst (v := 1) hx hb d_14_35_22 (by decide +kernel) ?_
  refine kV (As := [.int 0, .int 1]) (rest := []) (wr := [(a1, .inr (17, [.int 0, .ref a5, .ref a6, .int 0, .ref a7, .ref a8, .ref a9, .null, .null, .int 0, .ref a10, .ref a11, .ref a12, .int 0, .ref a13, .int 1])), (a6, .inl (z.2 7, 0, .inr (.inr (.inr (.inr (fun _ => none))))))]) (c31_BModel_ends l z a0 a1 a2 a3 a4) hx hb hml hown hts w_1696 w_1693 w_1695 w_s_f8f2b7 w_12 md_77b0f8 ⟨Nat.le_of_ble_eq_true rfl, Nat.le_of_ble_eq_true rfl⟩ hG hZ hP hD hS hA 0 rfl rfl rfl [0] [1, 2] rfl rfl rfl rfl rfl hl.1 rfl (Nat.le_of_ble_eq_true rfl) d_14_35_23 ⟨Nat.le_of_ble_eq_true rfl, Nat.le_of_ble_eq_true rfl⟩ (fun u1 H locs hP hD hS => ?_)
  have hP : va_P z.1 classes [(a1, .inr (17, [.int 0, .ref a5, .ref a6, .int 0, .ref a7, .ref a8, .ref a9, .null, .null, .int 0, .ref a10, .ref a11, .ref a12, .int 0, .ref a13, .int 1])), (a6, .inl (z.2 7, 0, .inr (.inr (.inr (.inr (fun _ => none)))))), (a0, .inr (18, [.ref a1, .ref a2, .int 0, .ref a3, .int 0, .ref a4, .int 1, .null, .int 0, .null, .long 0, .int 0, .null]))] H := hP
  have hD : va_D A [(a1, .inr (17, [.int 0, .ref a5, .ref a6, .int 0, .ref a7, .ref a8, .ref a9, .null, .null, .int 0, .ref a10, .ref a11, .ref a12, .int 0, .ref a13, .int 1])), (a6, .inl (z.2 7, 0, .inr (.inr (.inr (.inr (fun _ => none)))))), (a0, .inr (18, [.ref a1, .ref a2, .int 0, .ref a3, .int 0, .ref a4, .int 1, .null, .int 0, .null, .long 0, .int 0, .null]))] := hD
  refine W.eq (g2 := F0 m 26 ls [.int 1]) rfl ?_
  refine lv_if_eq (tgt := 31) hx hb d_14_35_26 (by decide) (fun c9 => absurd c9 (by decide +kernel)) (fun _ => ?_)
  refine lv_iconst (v := 0) hx hb d_14_35_29 (by decide +kernel) ?_
  refine W.widen (k := 0) (n := 0) (Nat.le_of_ble_eq_true rfl) (Nat.le_of_ble_eq_true rfl) ?_
  exact W.iret hx hb hr (fun t ht hW => qk hP hD hS [2, 0, 1] rfl ((fun k => k), (fun _ _ => none)) rfl rfl rfl ht) hS.2.2 d_14_35_30
set_option maxRecDepth 100000 in
set_option maxHeartbeats 4000000 in
theorem c106_BallotBox_ballotsOf (l : Launch) (z : Zz) (a0 a1 : Nat) : CT l z ⟨"Ballothall$BallotBox", "ballotsOf", "([II)I"⟩ prog_2_method_4_code 5 (some .int) [.ref a0, .ref a1, .int 0] [] 0 0 0 0 (fun u => some (.int 0)) (fun u => []) := by
  refine CT.of (own := "Ballothall$BallotBox") (by decide +kernel) (Nat.le_of_ble_eq_true rfl) rfl (fun p e s m below meth c A ls hx hb hml hr hts hown hlocks hin hA hG hZ hP hD hS hl => ?_)
  have hl : lv_has ls 5 [(0, .ref a0), (1, .ref a1), (2, .int 0)] := hl
  refine lv_iconst (v := 0) hx hb d_2_4_0 (by decide +kernel) ?_
  refine lv_istore_n (lv' := [(3, .int 0), (0, .ref a0), (1, .ref a1), (2, .int 0)]) hx hb d_2_4_1 rfl hl (by decide) rfl (fun ls hl => ?_)
  refine lv_iconst (v := 0) hx hb d_2_4_2 (by decide +kernel) ?_
  refine lv_istore (lv' := [(4, .int 0), (3, .int 0), (0, .ref a0), (1, .ref a1), (2, .int 0)]) hx hb d_2_4_3 hl (by decide) rfl (fun ls hl => ?_)
  refine lv_iload hx hb d_2_4_5 (lv_at hl 0 rfl) ?_
  refine lv_iload_n hx hb d_2_4_7 rfl (lv_at hl 4 rfl) ?_
  refine lv_icmp_ge (tgt := 24) hx hb d_2_4_8 (by decide) (fun _ => ?_) (fun c9 => absurd (by decide +kernel) c9)
  refine lv_iload_n hx hb d_2_4_24 rfl (lv_at hl 1 rfl) ?_
  refine W.widen (k := 0) (n := 0) (Nat.le_of_ble_eq_true rfl) (Nat.le_of_ble_eq_true rfl) ?_
  exact W.iret hx hb hr (fun t ht hW => qk hP hD hS [] rfl ((fun k => k), (fun _ _ => none)) rfl rfl rfl ht) hS.2.2 d_2_4_25
set_option maxRecDepth 100000 in
set_option maxHeartbeats 4000000 in
theorem c107_B_allBallots (l : Launch) (z : Zz) (a0 a1 a2 a3 a4 a5 a6 a7 a8 a9 a10 a11 a12 a13 a14 a15 a16 a17 a18 : Nat) : CT l z ⟨"Ballothall", "allBallots", "()I"⟩ prog_1_method_9_code 1 (some .int) [.ref a0] [(a0, .inr (11, [.ref a1, .ref a2, .ref a3, .ref a4, .ref a5, .ref a6, .ref a7, .ref a8, .ref a9, .ref a10, .int 0, .int 0, .ref a11, .int 0])), (a1, .inr (0, [.ref a12, .int 0, .int 0, .int 0, .ref a13, .ref a14, .ref a15, .ref a16, .ref a17, .ref a18]))] 1 32 0 0 (fun u => some (.int 0)) (fun u => [(a0, .inr (11, [.ref a1, .ref a2, .ref a3, .ref a4, .ref a5, .ref a6, .ref a7, .ref a8, .ref a9, .ref a10, .int 0, .int 0, .ref a11, .int 0])), (a1, .inr (0, [.ref a12, .int 0, .int 0, .int 0, .ref a13, .ref a14, .ref a15, .ref a16, .ref a17, .ref a18]))]) := by
  refine CT.of (own := "Ballothall") (by decide +kernel) (Nat.le_of_ble_eq_true rfl) rfl (fun p e s m below meth c A ls hx hb hml hr hts hown hlocks hin hA hG hZ hP hD hS hl => ?_)
  have hl : lv_has ls 1 [(0, .ref a0)] := hl
  refine lv_aload_n hx hb d_1_9_0 rfl (lv_at hl 0 rfl) ?_
  refine va_get (D := z.1) (ci := 11) (v := .ref a1) (C := "Ballothall") (T := TX11) (N := 14) hx hb hts iX11 hown hG.1 hP 0 rfl rfl 0 (by decide) (hts _ w_406) (fun _ h9 => h9) rfl d_1_9_1 ?_
  refine lv_aload_n hx hb d_1_9_4 rfl (lv_at hl 0 rfl) ?_
  refine va_get (D := z.1) (ci := 11) (v := .ref a1) (C := "Ballothall") (T := TX11) (N := 14) hx hb hts iX11 hown hG.1 hP 0 rfl rfl 0 (by decide) (hts _ w_406) (fun _ h9 => h9) rfl d_1_9_5 ?_
  refine va_getN (D := z.1) (ci := 0) (v := .ref a14) (C := "Ballothall$BallotBox") (T := TX0) (N := 10) hx hb hts iX0 hown hG.1 hP 1 rfl rfl 5 (by decide) (va_Nw.use rfl (hG.2.1 _ n_71 rfl)) (fun _ h9 => h9) rfl d_1_9_8 ?_
  refine lv_aload_n hx hb d_1_9_11 rfl (lv_at hl 0 rfl) ?_
  refine va_get (D := z.1) (ci := 11) (v := .ref a1) (C := "Ballothall") (T := TX11) (N := 14) hx hb hts iX11 hown hG.1 hP 0 rfl rfl 0 (by decide) (hts _ w_406) (fun _ h9 => h9) rfl d_1_9_12 ?_
  refine va_getN (D := z.1) (ci := 0) (v := .int 0) (C := "Ballothall$BallotBox") (T := TX0) (N := 10) hx hb hts iX0 hown hG.1 hP 1 rfl rfl 3 (by decide) (va_Nw.use rfl (hG.2.1 _ n_63 rfl)) (fun _ h9 => h9) rfl d_1_9_15 ?_
  refine kVN (As := [.ref a14, .int 0]) (rest := []) (wr := [(a0, .inr (11, [.ref a1, .ref a2, .ref a3, .ref a4, .ref a5, .ref a6, .ref a7, .ref a8, .ref a9, .ref a10, .int 0, .int 0, .ref a11, .int 0])), (a1, .inr (0, [.ref a12, .int 0, .int 0, .int 0, .ref a13, .ref a14, .ref a15, .ref a16, .ref a17, .ref a18]))]) (c106_BallotBox_ballotsOf l z a1 a14) hx hb hml hown hts w_456 n_453 w_455 w_s_fcecd2 w_2 md_ebdc38 ⟨Nat.le_of_ble_eq_true rfl, Nat.le_of_ble_eq_true rfl⟩ hG hZ hP hD hS hA 1 rfl rfl rfl [] [0, 1] rfl rfl rfl rfl rfl hl.1 rfl (Nat.le_of_ble_eq_true rfl) d_1_9_18 ⟨Nat.le_of_ble_eq_true rfl, Nat.le_of_ble_eq_true rfl⟩ (fun u0 H locs hP hD hS => ?_)
  have hP : va_P z.1 classes [(a0, .inr (11, [.ref a1, .ref a2, .ref a3, .ref a4, .ref a5, .ref a6, .ref a7, .ref a8, .ref a9, .ref a10, .int 0, .int 0, .ref a11, .int 0])), (a1, .inr (0, [.ref a12, .int 0, .int 0, .int 0, .ref a13, .ref a14, .ref a15, .ref a16, .ref a17, .ref a18]))] H := hP
  have hD : va_D A [(a0, .inr (11, [.ref a1, .ref a2, .ref a3, .ref a4, .ref a5, .ref a6, .ref a7, .ref a8, .ref a9, .ref a10, .int 0, .int 0, .ref a11, .int 0])), (a1, .inr (0, [.ref a12, .int 0, .int 0, .int 0, .ref a13, .ref a14, .ref a15, .ref a16, .ref a17, .ref a18]))] := hD
  refine W.eq (g2 := F0 m 21 ls [.int 0]) rfl ?_
  refine W.widen (k := 0) (n := 0) (Nat.le_of_ble_eq_true rfl) (Nat.le_of_ble_eq_true rfl) ?_
  exact W.iret hx hb hr (fun t ht hW => qk hP hD hS [0, 1] rfl ((fun k => k), (fun _ _ => none)) rfl rfl rfl ht) hS.2.2 d_1_9_21
set_option maxRecDepth 100000 in
set_option maxHeartbeats 4000000 in
theorem c108_BModel_sum (l : Launch) (z : Zz) (a0 : Nat) : CT l z ⟨"BallothallModel", "sum", "([LBallothallModel$Kind;)I"⟩ prog_14_method_36_code 6 (some .int) [.ref a0] [(a0, .inl (z.2 7, 0, .inr (.inr (.inr (.inr (fun _ => none))))))] 0 0 0 0 (fun u => some (.int 0)) (fun u => [(a0, .inl (z.2 7, 0, .inr (.inr (.inr (.inr (fun _ => none))))))]) := by
  refine CT.of (own := "BallothallModel") (by decide +kernel) (Nat.le_of_ble_eq_true rfl) rfl (fun p e s m below meth c A ls hx hb hml hr hts hown hlocks hin hA hG hZ hP hD hS hl => ?_)
  have hl : lv_has ls 6 [(0, .ref a0)] := hl
  refine lv_iconst (v := 0) hx hb d_14_36_0 (by decide +kernel) ?_
  refine lv_istore_n (lv' := [(1, .int 0), (0, .ref a0)]) hx hb d_14_36_1 rfl hl (by decide) rfl (fun ls hl => ?_)
  refine lv_aload_n hx hb d_14_36_2 rfl (lv_at hl 1 rfl) ?_
  refine lv_astore_n (lv' := [(2, .ref a0), (1, .int 0), (0, .ref a0)]) hx hb d_14_36_3 rfl hl (by decide) rfl (fun ls hl => ?_)
  refine lv_aload_n hx hb d_14_36_4 rfl (lv_at hl 0 rfl) ?_
  refine va_alen (v := 0) hx hb hG.1 hP 0 7 rfl rfl rfl d_14_36_5 ?_
  refine lv_istore_n (lv' := [(3, .int 0), (2, .ref a0), (1, .int 0), (0, .ref a0)]) hx hb d_14_36_6 rfl hl (by decide) rfl (fun ls hl => ?_)
  refine lv_iconst (v := 0) hx hb d_14_36_7 (by decide +kernel) ?_
  refine lv_istore (lv' := [(4, .int 0), (3, .int 0), (2, .ref a0), (1, .int 0), (0, .ref a0)]) hx hb d_14_36_8 hl (by decide) rfl (fun ls hl => ?_)
  refine lv_iload hx hb d_14_36_10 (lv_at hl 0 rfl) ?_
  refine lv_iload_n hx hb d_14_36_12 rfl (lv_at hl 1 rfl) ?_
  refine lv_icmp_ge (tgt := 36) hx hb d_14_36_13 (by decide) (fun _ => ?_) (fun c9 => absurd (by decide +kernel) c9)
  refine lv_iload_n hx hb d_14_36_36 rfl (lv_at hl 3 rfl) ?_
  refine W.widen (k := 0) (n := 0) (Nat.le_of_ble_eq_true rfl) (Nat.le_of_ble_eq_true rfl) ?_
  exact W.iret hx hb hr (fun t ht hW => qk hP hD hS [0] rfl ((fun k => k), (fun _ _ => none)) rfl rfl rfl ht) hS.2.2 d_14_36_37
set_option maxRecDepth 100000 in
set_option maxHeartbeats 4000000 in
theorem c109_BModel_allBallots (l : Launch) (z : Zz) (a0 a1 a2 a3 a4 a5 a6 a7 a8 a9 a10 a11 a12 a13 : Nat) : CT l z ⟨"BallothallModel", "allBallots", "()I"⟩ prog_14_method_37_code 1 (some .int) [.ref a0] [(a0, .inr (18, [.ref a1, .ref a2, .int 0, .ref a3, .int 0, .ref a4, .int 0, .null, .int 0, .null, .long 0, .int 0, .null])), (a1, .inr (17, [.int 0, .ref a5, .ref a6, .int 0, .ref a7, .ref a8, .ref a9, .null, .null, .int 0, .ref a10, .ref a11, .ref a12, .int 0, .ref a13, .int 1])), (a6, .inl (z.2 7, 0, .inr (.inr (.inr (.inr (fun _ => none))))))] 1 33 0 0 (fun u => some (.int 0)) (fun u => [(a0, .inr (18, [.ref a1, .ref a2, .int 0, .ref a3, .int 0, .ref a4, .int 0, .null, .int 0, .null, .long 0, .int 0, .null])), (a1, .inr (17, [.int 0, .ref a5, .ref a6, .int 0, .ref a7, .ref a8, .ref a9, .null, .null, .int 0, .ref a10, .ref a11, .ref a12, .int 0, .ref a13, .int 1])), (a6, .inl (z.2 7, 0, .inr (.inr (.inr (.inr (fun _ => none))))))]) := by
  refine CT.of (own := "BallothallModel") (by decide +kernel) (Nat.le_of_ble_eq_true rfl) rfl (fun p e s m below meth c A ls hx hb hml hr hts hown hlocks hin hA hG hZ hP hD hS hl => ?_)
  have hl : lv_has ls 1 [(0, .ref a0)] := hl
  refine lv_aload_n hx hb d_14_37_0 rfl (lv_at hl 0 rfl) ?_
  refine lv_iconst (v := 0) hx hb d_14_37_1 (by decide +kernel) ?_
  refine va_put (D := z.1) (ci := 18) (v := .int 0) (ty := .int) (C := "BallothallModel") (T := TX18) (N := 13) hx hb hts iX18 tyX18 tyX18_ok nmX18 hown hG.1 hP hD hS 0 rfl rfl 6 (by decide) (hts _ w_1651) (fun _ h9 => h9) rfl (by decide +kernel) rfl rfl (Nat.le_of_ble_eq_true rfl) d_14_37_2 (fun H locs hP hD hS => ?_)
  have hP : va_P z.1 classes [(a0, .inr (18, [.ref a1, .ref a2, .int 0, .ref a3, .int 0, .ref a4, .int 0, .null, .int 0, .null, .long 0, .int 0, .null])), (a1, .inr (17, [.int 0, .ref a5, .ref a6, .int 0, .ref a7, .ref a8, .ref a9, .null, .null, .int 0, .ref a10, .ref a11, .ref a12, .int 0, .ref a13, .int 1])), (a6, .inl (z.2 7, 0, .inr (.inr (.inr (.inr (fun _ => none))))))] H := hP
  have hD : va_D A [(a0, .inr (18, [.ref a1, .ref a2, .int 0, .ref a3, .int 0, .ref a4, .int 0, .null, .int 0, .null, .long 0, .int 0, .null])), (a1, .inr (17, [.int 0, .ref a5, .ref a6, .int 0, .ref a7, .ref a8, .ref a9, .null, .null, .int 0, .ref a10, .ref a11, .ref a12, .int 0, .ref a13, .int 1])), (a6, .inl (z.2 7, 0, .inr (.inr (.inr (.inr (fun _ => none))))))] := hD
  refine lv_aload_n hx hb d_14_37_5 rfl (lv_at hl 0 rfl) ?_
  refine va_get (D := z.1) (ci := 18) (v := .ref a1) (C := "BallothallModel") (T := TX18) (N := 13) hx hb hts iX18 hown hG.1 hP 0 rfl rfl 0 (by decide) (hts _ w_1645) (fun _ h9 => h9) rfl d_14_37_6 ?_
  refine va_getN (D := z.1) (ci := 17) (v := .ref a6) (C := "BallothallModel$State") (T := TX17) (N := 16) hx hb hts iX17 hown hG.1 hP 1 rfl rfl 2 (by decide) (va_Nw.use rfl (hG.2.1 _ n_1584 rfl)) (fun _ h9 => h9) rfl d_14_37_9 ?_
  refine kS (As := [.ref a6]) (rest := []) (wr := [(a0, .inr (18, [.ref a1, .ref a2, .int 0, .ref a3, .int 0, .ref a4, .int 0, .null, .int 0, .null, .long 0, .int 0, .null])), (a1, .inr (17, [.int 0, .ref a5, .ref a6, .int 0, .ref a7, .ref a8, .ref a9, .null, .null, .int 0, .ref a10, .ref a11, .ref a12, .int 0, .ref a13, .int 1]))]) (c108_BModel_sum l z a6) hx hb hml hown hts w_1807 w_1805 w_1806 w_12 md_f31511 ⟨Nat.le_of_ble_eq_true rfl, Nat.le_of_ble_eq_true rfl⟩ hG hZ hP hD hS hA [2] [0, 1] rfl rfl rfl rfl rfl hl.1 rfl (Nat.le_of_ble_eq_true rfl) d_14_37_12 ⟨Nat.le_of_ble_eq_true rfl, Nat.le_of_ble_eq_true rfl⟩ (fun u0 H locs hP hD hS => ?_)
  have hP : va_P z.1 classes [(a0, .inr (18, [.ref a1, .ref a2, .int 0, .ref a3, .int 0, .ref a4, .int 0, .null, .int 0, .null, .long 0, .int 0, .null])), (a1, .inr (17, [.int 0, .ref a5, .ref a6, .int 0, .ref a7, .ref a8, .ref a9, .null, .null, .int 0, .ref a10, .ref a11, .ref a12, .int 0, .ref a13, .int 1])), (a6, .inl (z.2 7, 0, .inr (.inr (.inr (.inr (fun _ => none))))))] H := hP
  have hD : va_D A [(a0, .inr (18, [.ref a1, .ref a2, .int 0, .ref a3, .int 0, .ref a4, .int 0, .null, .int 0, .null, .long 0, .int 0, .null])), (a1, .inr (17, [.int 0, .ref a5, .ref a6, .int 0, .ref a7, .ref a8, .ref a9, .null, .null, .int 0, .ref a10, .ref a11, .ref a12, .int 0, .ref a13, .int 1])), (a6, .inl (z.2 7, 0, .inr (.inr (.inr (.inr (fun _ => none))))))] := hD
  refine W.eq (g2 := F0 m 15 ls [.int 0]) rfl ?_
  refine W.widen (k := 0) (n := 0) (Nat.le_of_ble_eq_true rfl) (Nat.le_of_ble_eq_true rfl) ?_
  exact W.iret hx hb hr (fun t ht hW => qk hP hD hS [0, 1, 2] rfl ((fun k => k), (fun _ _ => none)) rfl rfl rfl ht) hS.2.2 d_14_37_15
set_option maxRecDepth 100000 in
set_option maxHeartbeats 4000000 in
theorem c110_B_needRange (l : Launch) (z : Zz) (hl0 : l.stackTraces = false) (x0 : Int32) (h0 : x0 < 0) : XT l z ⟨"Ballothall", "needRange", "(III)V"⟩ prog_1_method_57_code 3 none [.int x0, .int 0, .int 10000000] [] 6 98 1 6 "java/lang/IllegalArgumentException" := by
  refine XT.of (own := "Ballothall") (by decide +kernel) (Nat.le_of_ble_eq_true rfl) rfl (fun p e s m below meth c A ls hx hb hml hr hts hown hlocks hin hA hG hZ hP hD hS hl hnt => ?_)
  have hl : lv_has ls 3 [(0, .int x0), (1, .int 0), (2, .int 10000000)] := hl
  refine lv_iload_n hx hb d_1_57_0 rfl (lv_at hl 0 rfl) ?_
  refine lv_iload_n hx hb d_1_57_1 rfl (lv_at hl 1 rfl) ?_
  refine lv_icmp_lt (tgt := 10) hx hb d_1_57_2 (by decide) (fun _ => ?_) (fun c9 => absurd h0 c9)
  exact x_newW (text := "out of range") hl0 hx hb hml hown hts hlocks hnt hG hZ hS hl.1 (by decide +kernel) w_877 w_21 (by decide) xa_310_a xa_310_b d_1_57_10 d_1_57_13 d_1_57_14 d_1_57_17 d_1_57_20 ⟨Nat.le_of_ble_eq_true rfl, Nat.le_of_ble_eq_true rfl, Nat.le_of_ble_eq_true rfl, Nat.le_of_ble_eq_true rfl⟩ (Nat.le_of_ble_eq_true rfl) (Nat.le_of_ble_eq_true rfl) (Nat.le_of_ble_eq_true rfl)
set_option maxRecDepth 100000 in
set_option maxHeartbeats 4000000 in
theorem c111_B_list (l : Launch) (z : Zz) (hl0 : l.stackTraces = false) (a0 : Nat) (x0 : Int32) (h0 : x0 < 0) : XT l z ⟨"Ballothall", "list", "(I)I"⟩ prog_1_method_10_code 3 (some .int) [.ref a0, .int x0] [] 7 128 1 6 "java/lang/IllegalArgumentException" := by
  refine XT.of (own := "Ballothall") (by decide +kernel) (Nat.le_of_ble_eq_true rfl) rfl (fun p e s m below meth c A ls hx hb hml hr hts hown hlocks hin hA hG hZ hP hD hS hl hnt => ?_)
  have hl : lv_has ls 3 [(0, .ref a0), (1, .int x0)] := hl
  refine lv_iload_n hx hb d_1_10_0 rfl (lv_at hl 1 rfl) ?_
  refine lv_iconst (v := 0) hx hb d_1_10_1 (by decide +kernel) ?_
  refine lv_ldc hx hb hown (hts _ w_973) d_1_10_2 ?_
  exact xS (As := [.int x0, .int 0, .int 10000000]) (rest := []) (wr := []) (c110_B_needRange l z hl0 x0 h0) hx hb hml hown hts w_876 w_874 w_875 w_1 md_519134 ⟨Nat.le_of_ble_eq_true rfl, Nat.le_of_ble_eq_true rfl⟩ hG hZ hP hD hS hA [] [] rfl rfl rfl rfl rfl hl.1 rfl (Nat.le_of_ble_eq_true rfl) d_1_10_4 ⟨Nat.le_of_ble_eq_true rfl, Nat.le_of_ble_eq_true rfl⟩ (fun q9 ce9 H locs hP hD hS h7 h8 h9 => x_out hnt hlocks hS h7 h8 h9 (Nat.le_of_ble_eq_true rfl) (Nat.le_of_ble_eq_true rfl))
set_option maxRecDepth 100000 in
set_option maxHeartbeats 4000000 in
theorem c112_BLaw_list (l : Launch) (z : Zz) (hl0 : l.stackTraces = false) (a0 a1 a2 a3 a4 a5 a6 a7 a8 a9 a10 a11 a12 : Nat) (x0 : Int32) (h0 : x0 < 0) : HT l z ⟨"BallothallLaw", "list", "(LBallothall;I[J)I"⟩ method_10_code 4 (some .int) [(0, 9, 12, 21), (0, 9, 15, 13)] [.ref a0, .int x0, .ref a1] [(a0, .inr (11, [.ref a2, .ref a3, .ref a4, .ref a5, .ref a6, .ref a7, .ref a8, .ref a9, .ref a10, .ref a11, .int 0, .int 0, .ref a12, .int 0]))] 8 158 1 6 (fun u => some (.int 1)) (fun u => [(a0, .inr (11, [.ref a2, .ref a3, .ref a4, .ref a5, .ref a6, .ref a7, .ref a8, .ref a9, .ref a10, .ref a11, .int 0, .int 0, .ref a12, .int 0]))]) := by
  refine HT.of (own := "BallothallLaw") (by decide +kernel) (Nat.le_of_ble_eq_true rfl) rfl (fun p e s m below meth c A ls hx hb hml hr hts hown hlocks hin hA hG hZ hP hD hS hl htab => ?_)
  have hl : lv_has ls 4 [(0, .ref a0), (1, .int x0), (2, .ref a1)] := hl
  refine lv_aload_n hx hb d_L10_0 rfl (lv_at hl 2 rfl) ?_
  refine lv_iconst (v := 0) hx hb d_L10_1 (by decide +kernel) ?_
  refine lv_aload_n hx hb d_L10_2 rfl (lv_at hl 0 rfl) ?_
  refine lv_iload_n hx hb d_L10_3 rfl (lv_at hl 1 rfl) ?_
  refine xV (As := [.int x0]) (rest := [.int 0, .ref a1]) (wr := [(a0, .inr (11, [.ref a2, .ref a3, .ref a4, .ref a5, .ref a6, .ref a7, .ref a8, .ref a9, .ref a10, .ref a11, .int 0, .int 0, .ref a12, .int 0]))]) (c111_B_list l z hl0 a0 x0 h0) hx hb hml hown hts w_972 w_969 w_970 w_971 w_1 md_c7d969 ⟨Nat.le_of_ble_eq_true rfl, Nat.le_of_ble_eq_true rfl⟩ hG hZ hP hD hS hA 0 rfl rfl rfl [] [0] rfl rfl rfl rfl rfl hl.1 rfl (Nat.le_of_ble_eq_true rfl) d_L10_4 ⟨Nat.le_of_ble_eq_true rfl, Nat.le_of_ble_eq_true rfl⟩ (fun q0 ce9 H locs hP hD hS h7 h8 h9 => ?_)
  have hP : va_P z.1 classes [(a0, .inr (11, [.ref a2, .ref a3, .ref a4, .ref a5, .ref a6, .ref a7, .ref a8, .ref a9, .ref a10, .ref a11, .int 0, .int 0, .ref a12, .int 0]))] H := hP
  have hD : va_D A [(a0, .inr (11, [.ref a2, .ref a3, .ref a4, .ref a5, .ref a6, .ref a7, .ref a8, .ref a9, .ref a10, .ref a11, .int 0, .int 0, .ref a12, .int 0]))] := hD
  refine vx_catch hown [] ⟨0, 9, 12, 21⟩ [⟨0, 9, 15, 13⟩] (htab.trans rfl) (fun _ h9 => absurd h9 List.not_mem_nil) rfl (by decide) (hts _ w_850) (va_Nw.use rfl (hG.2.1 _ n_879 rfl)) h7 h8 h9 ?_
  refine lv_astore_n (lv' := [(3, .ref q0), (0, .ref a0), (1, .int x0), (2, .ref a1)]) hx hb d_L10_12 rfl hl (by decide) rfl (fun ls hl => ?_)
  refine lv_iconst (v := 1) hx hb d_L10_13 (by decide +kernel) ?_
  refine W.widen (k := 1) (n := 6) (Nat.le_of_ble_eq_true rfl) (Nat.le_of_ble_eq_true rfl) ?_
  refine vx_ret ?_
  exact W.iret hx hb hr (fun t ht hW => qk hP hD hS [0] rfl ((fun k => k), (fun _ _ => none)) rfl rfl rfl ht) hS.2.2 d_L10_14
set_option maxRecDepth 100000 in
set_option maxHeartbeats 4000000 in
theorem c113_BModel_isIn (l : Launch) (z : Zz) (x0 : Int32) (h0 : x0 < 0) : CT l z ⟨"BallothallModel", "isIn", "(III)Z"⟩ prog_14_method_20_code 3 (some .boolean) [.int x0, .int 0, .int 10000000] [] 0 0 0 0 (fun u => some (.int 0)) (fun u => []) := by
  refine CT.of (own := "BallothallModel") (by decide +kernel) (Nat.le_of_ble_eq_true rfl) rfl (fun p e s m below meth c A ls hx hb hml hr hts hown hlocks hin hA hG hZ hP hD hS hl => ?_)
  have hl : lv_has ls 3 [(0, .int x0), (1, .int 0), (2, .int 10000000)] := hl
  refine lv_iload_n hx hb d_14_20_0 rfl (lv_at hl 0 rfl) ?_
  refine lv_iload_n hx hb d_14_20_1 rfl (lv_at hl 1 rfl) ?_
  refine lv_icmp_lt (tgt := 14) hx hb d_14_20_2 (by decide) (fun _ => ?_) (fun c9 => absurd h0 c9)
  refine lv_iconst (v := 0) hx hb d_14_20_14 (by decide +kernel) ?_
  refine W.widen (k := 0) (n := 0) (Nat.le_of_ble_eq_true rfl) (Nat.le_of_ble_eq_true rfl) ?_
  exact W.zret hx hb hr rfl (fun t ht hW => qk hP hD hS [] rfl ((fun k => k), (fun _ _ => none)) rfl rfl rfl ht) hS.2.2 d_14_20_15
set_option maxRecDepth 100000 in
set_option maxHeartbeats 4000000 in
theorem c114_BModel_list (l : Launch) (z : Zz) (a0 a1 a2 a3 a4 : Nat) (x0 : Int32) (h0 : x0 < 0) : CT l z ⟨"BallothallModel", "list", "(I)I"⟩ prog_14_method_38_code 2 (some .int) [.ref a0, .int x0] [(a0, .inr (18, [.ref a1, .ref a2, .int 0, .ref a3, .int 0, .ref a4, .int 0, .null, .int 0, .null, .long 0, .int 0, .null]))] 1 30 0 0 (fun u => some (.int 0)) (fun u => [(a0, .inr (18, [.ref a1, .ref a2, .int 0, .ref a3, .int 0, .ref a4, .int 1, .null, .int 0, .null, .long 0, .int 0, .null]))]) := by
  refine CT.of (own := "BallothallModel") (by decide +kernel) (Nat.le_of_ble_eq_true rfl) rfl (fun p e s m below meth c A ls hx hb hml hr hts hown hlocks hin hA hG hZ hP hD hS hl => ?_)
  have hl : lv_has ls 2 [(0, .ref a0), (1, .int x0)] := hl
  refine lv_aload_n hx hb d_14_38_0 rfl (lv_at hl 0 rfl) ?_
  refine lv_iload_n hx hb d_14_38_1 rfl (lv_at hl 1 rfl) ?_
  refine lv_iconst (v := 0) hx hb d_14_38_2 (by decide +kernel) ?_
  refine lv_ldc hx hb hown (hts _ w_1812) d_14_38_3 ?_
  refine kS (As := [.int x0, .int 0, .int 10000000]) (rest := [.ref a0]) (wr := [(a0, .inr (18, [.ref a1, .ref a2, .int 0, .ref a3, .int 0, .ref a4, .int 0, .null, .int 0, .null, .long 0, .int 0, .null]))]) (c113_BModel_isIn l z x0 h0) hx hb hml hown hts w_1718 w_1716 w_1717 w_12 md_bca45c ⟨Nat.le_of_ble_eq_true rfl, Nat.le_of_ble_eq_true rfl⟩ hG hZ hP hD hS hA [] [0] rfl rfl rfl rfl rfl hl.1 rfl (Nat.le_of_ble_eq_true rfl) d_14_38_5 ⟨Nat.le_of_ble_eq_true rfl, Nat.le_of_ble_eq_true rfl⟩ (fun u0 H locs hP hD hS => ?_)
  have hP : va_P z.1 classes [(a0, .inr (18, [.ref a1, .ref a2, .int 0, .ref a3, .int 0, .ref a4, .int 0, .null, .int 0, .null, .long 0, .int 0, .null]))] H := hP
  have hD : va_D A [(a0, .inr (18, [.ref a1, .ref a2, .int 0, .ref a3, .int 0, .ref a4, .int 0, .null, .int 0, .null, .long 0, .int 0, .null]))] := hD
  refine W.eq (g2 := F0 m 8 ls [.int 0, .ref a0]) rfl ?_
  refine lv_iconst (v := 1) hx hb d_14_38_8 (by decide +kernel) ?_
  refine kV (As := [.int 0, .int 1]) (rest := []) (wr := []) (c31_BModel_ends l z a0 a1 a2 a3 a4) hx hb hml hown hts w_1696 w_1693 w_1695 w_s_f8f2b7 w_12 md_77b0f8 ⟨Nat.le_of_ble_eq_true rfl, Nat.le_of_ble_eq_true rfl⟩ hG hZ hP hD hS hA 0 rfl rfl rfl [0] [] rfl rfl rfl rfl rfl hl.1 rfl (Nat.le_of_ble_eq_true rfl) d_14_38_9 ⟨Nat.le_of_ble_eq_true rfl, Nat.le_of_ble_eq_true rfl⟩ (fun u1 H locs hP hD hS => ?_)
  have hP : va_P z.1 classes [(a0, .inr (18, [.ref a1, .ref a2, .int 0, .ref a3, .int 0, .ref a4, .int 1, .null, .int 0, .null, .long 0, .int 0, .null]))] H := hP
  have hD : va_D A [(a0, .inr (18, [.ref a1, .ref a2, .int 0, .ref a3, .int 0, .ref a4, .int 1, .null, .int 0, .null, .long 0, .int 0, .null]))] := hD
  refine W.eq (g2 := F0 m 12 ls [.int 1]) rfl ?_
  refine lv_if_ne (tgt := 40) hx hb d_14_38_12 (by decide) (fun _ => ?_) (fun c9 => absurd c9 (by decide +kernel))
  refine lv_iconst (v := 0) hx hb d_14_38_40 (by decide +kernel) ?_
  refine W.widen (k := 0) (n := 0) (Nat.le_of_ble_eq_true rfl) (Nat.le_of_ble_eq_true rfl) ?_
  exact W.iret hx hb hr (fun t ht hW => qk hP hD hS [0] rfl ((fun k => k), (fun _ _ => none)) rfl rfl rfl ht) hS.2.2 d_14_38_41
set_option maxRecDepth 100000 in
set_option maxHeartbeats 4000000 in
theorem c115_B_needRange (l : Launch) (z : Zz) (hl0 : l.stackTraces = false) (x0 : Int32) (h0 : ¬ x0 < 0) (h1 : 10000000 < x0) : XT l z ⟨"Ballothall", "needRange", "(III)V"⟩ prog_1_method_57_code 3 none [.int x0, .int 0, .int 10000000] [] 6 98 1 6 "java/lang/IllegalArgumentException" := by
  refine XT.of (own := "Ballothall") (by decide +kernel) (Nat.le_of_ble_eq_true rfl) rfl (fun p e s m below meth c A ls hx hb hml hr hts hown hlocks hin hA hG hZ hP hD hS hl hnt => ?_)
  have hl : lv_has ls 3 [(0, .int x0), (1, .int 0), (2, .int 10000000)] := hl
  refine lv_iload_n hx hb d_1_57_0 rfl (lv_at hl 0 rfl) ?_
  refine lv_iload_n hx hb d_1_57_1 rfl (lv_at hl 1 rfl) ?_
  refine lv_icmp_lt (tgt := 10) hx hb d_1_57_2 (by decide) (fun c9 => absurd c9 h0) (fun _ => ?_)
  refine lv_iload_n hx hb d_1_57_5 rfl (lv_at hl 0 rfl) ?_
  refine lv_iload_n hx hb d_1_57_6 rfl (lv_at hl 2 rfl) ?_
  refine lv_icmp_le (tgt := 21) hx hb d_1_57_7 (by decide) (fun c9 => absurd c9 (Int32.not_le.mpr h1)) (fun _ => ?_)
  exact x_newW (text := "out of range") hl0 hx hb hml hown hts hlocks hnt hG hZ hS hl.1 (by decide +kernel) w_877 w_21 (by decide) xa_310_a xa_310_b d_1_57_10 d_1_57_13 d_1_57_14 d_1_57_17 d_1_57_20 ⟨Nat.le_of_ble_eq_true rfl, Nat.le_of_ble_eq_true rfl, Nat.le_of_ble_eq_true rfl, Nat.le_of_ble_eq_true rfl⟩ (Nat.le_of_ble_eq_true rfl) (Nat.le_of_ble_eq_true rfl) (Nat.le_of_ble_eq_true rfl)
set_option maxRecDepth 100000 in
set_option maxHeartbeats 4000000 in
theorem c116_B_list (l : Launch) (z : Zz) (hl0 : l.stackTraces = false) (a0 : Nat) (x0 : Int32) (h0 : ¬ x0 < 0) (h1 : 10000000 < x0) : XT l z ⟨"Ballothall", "list", "(I)I"⟩ prog_1_method_10_code 3 (some .int) [.ref a0, .int x0] [] 7 128 1 6 "java/lang/IllegalArgumentException" := by
  refine XT.of (own := "Ballothall") (by decide +kernel) (Nat.le_of_ble_eq_true rfl) rfl (fun p e s m below meth c A ls hx hb hml hr hts hown hlocks hin hA hG hZ hP hD hS hl hnt => ?_)
  have hl : lv_has ls 3 [(0, .ref a0), (1, .int x0)] := hl
  refine lv_iload_n hx hb d_1_10_0 rfl (lv_at hl 1 rfl) ?_
  refine lv_iconst (v := 0) hx hb d_1_10_1 (by decide +kernel) ?_
  refine lv_ldc hx hb hown (hts _ w_973) d_1_10_2 ?_
  exact xS (As := [.int x0, .int 0, .int 10000000]) (rest := []) (wr := []) (c115_B_needRange l z hl0 x0 h0 h1) hx hb hml hown hts w_876 w_874 w_875 w_1 md_519134 ⟨Nat.le_of_ble_eq_true rfl, Nat.le_of_ble_eq_true rfl⟩ hG hZ hP hD hS hA [] [] rfl rfl rfl rfl rfl hl.1 rfl (Nat.le_of_ble_eq_true rfl) d_1_10_4 ⟨Nat.le_of_ble_eq_true rfl, Nat.le_of_ble_eq_true rfl⟩ (fun q9 ce9 H locs hP hD hS h7 h8 h9 => x_out hnt hlocks hS h7 h8 h9 (Nat.le_of_ble_eq_true rfl) (Nat.le_of_ble_eq_true rfl))
set_option maxRecDepth 100000 in
set_option maxHeartbeats 4000000 in
theorem c117_BLaw_list (l : Launch) (z : Zz) (hl0 : l.stackTraces = false) (a0 a1 a2 a3 a4 a5 a6 a7 a8 a9 a10 a11 a12 : Nat) (x0 : Int32) (h0 : ¬ x0 < 0) (h1 : 10000000 < x0) : HT l z ⟨"BallothallLaw", "list", "(LBallothall;I[J)I"⟩ method_10_code 4 (some .int) [(0, 9, 12, 21), (0, 9, 15, 13)] [.ref a0, .int x0, .ref a1] [(a0, .inr (11, [.ref a2, .ref a3, .ref a4, .ref a5, .ref a6, .ref a7, .ref a8, .ref a9, .ref a10, .ref a11, .int 0, .int 0, .ref a12, .int 0]))] 8 158 1 6 (fun u => some (.int 1)) (fun u => [(a0, .inr (11, [.ref a2, .ref a3, .ref a4, .ref a5, .ref a6, .ref a7, .ref a8, .ref a9, .ref a10, .ref a11, .int 0, .int 0, .ref a12, .int 0]))]) := by
  refine HT.of (own := "BallothallLaw") (by decide +kernel) (Nat.le_of_ble_eq_true rfl) rfl (fun p e s m below meth c A ls hx hb hml hr hts hown hlocks hin hA hG hZ hP hD hS hl htab => ?_)
  have hl : lv_has ls 4 [(0, .ref a0), (1, .int x0), (2, .ref a1)] := hl
  refine lv_aload_n hx hb d_L10_0 rfl (lv_at hl 2 rfl) ?_
  refine lv_iconst (v := 0) hx hb d_L10_1 (by decide +kernel) ?_
  refine lv_aload_n hx hb d_L10_2 rfl (lv_at hl 0 rfl) ?_
  refine lv_iload_n hx hb d_L10_3 rfl (lv_at hl 1 rfl) ?_
  refine xV (As := [.int x0]) (rest := [.int 0, .ref a1]) (wr := [(a0, .inr (11, [.ref a2, .ref a3, .ref a4, .ref a5, .ref a6, .ref a7, .ref a8, .ref a9, .ref a10, .ref a11, .int 0, .int 0, .ref a12, .int 0]))]) (c116_B_list l z hl0 a0 x0 h0 h1) hx hb hml hown hts w_972 w_969 w_970 w_971 w_1 md_c7d969 ⟨Nat.le_of_ble_eq_true rfl, Nat.le_of_ble_eq_true rfl⟩ hG hZ hP hD hS hA 0 rfl rfl rfl [] [0] rfl rfl rfl rfl rfl hl.1 rfl (Nat.le_of_ble_eq_true rfl) d_L10_4 ⟨Nat.le_of_ble_eq_true rfl, Nat.le_of_ble_eq_true rfl⟩ (fun q0 ce9 H locs hP hD hS h7 h8 h9 => ?_)
  have hP : va_P z.1 classes [(a0, .inr (11, [.ref a2, .ref a3, .ref a4, .ref a5, .ref a6, .ref a7, .ref a8, .ref a9, .ref a10, .ref a11, .int 0, .int 0, .ref a12, .int 0]))] H := hP
  have hD : va_D A [(a0, .inr (11, [.ref a2, .ref a3, .ref a4, .ref a5, .ref a6, .ref a7, .ref a8, .ref a9, .ref a10, .ref a11, .int 0, .int 0, .ref a12, .int 0]))] := hD
  refine vx_catch hown [] ⟨0, 9, 12, 21⟩ [⟨0, 9, 15, 13⟩] (htab.trans rfl) (fun _ h9 => absurd h9 List.not_mem_nil) rfl (by decide) (hts _ w_850) (va_Nw.use rfl (hG.2.1 _ n_879 rfl)) h7 h8 h9 ?_
  refine lv_astore_n (lv' := [(3, .ref q0), (0, .ref a0), (1, .int x0), (2, .ref a1)]) hx hb d_L10_12 rfl hl (by decide) rfl (fun ls hl => ?_)
  refine lv_iconst (v := 1) hx hb d_L10_13 (by decide +kernel) ?_
  refine W.widen (k := 1) (n := 6) (Nat.le_of_ble_eq_true rfl) (Nat.le_of_ble_eq_true rfl) ?_
  refine vx_ret ?_
  exact W.iret hx hb hr (fun t ht hW => qk hP hD hS [0] rfl ((fun k => k), (fun _ _ => none)) rfl rfl rfl ht) hS.2.2 d_L10_14
set_option maxRecDepth 100000 in
set_option maxHeartbeats 4000000 in
theorem c118_BModel_isIn (l : Launch) (z : Zz) (x0 : Int32) (h0 : ¬ x0 < 0) (h1 : 10000000 < x0) : CT l z ⟨"BallothallModel", "isIn", "(III)Z"⟩ prog_14_method_20_code 3 (some .boolean) [.int x0, .int 0, .int 10000000] [] 0 0 0 0 (fun u => some (.int 0)) (fun u => []) := by
  refine CT.of (own := "BallothallModel") (by decide +kernel) (Nat.le_of_ble_eq_true rfl) rfl (fun p e s m below meth c A ls hx hb hml hr hts hown hlocks hin hA hG hZ hP hD hS hl => ?_)
  have hl : lv_has ls 3 [(0, .int x0), (1, .int 0), (2, .int 10000000)] := hl
  refine lv_iload_n hx hb d_14_20_0 rfl (lv_at hl 0 rfl) ?_
  refine lv_iload_n hx hb d_14_20_1 rfl (lv_at hl 1 rfl) ?_
  refine lv_icmp_lt (tgt := 14) hx hb d_14_20_2 (by decide) (fun c9 => absurd c9 h0) (fun _ => ?_)
  refine lv_iload_n hx hb d_14_20_5 rfl (lv_at hl 0 rfl) ?_
  refine lv_iload_n hx hb d_14_20_6 rfl (lv_at hl 2 rfl) ?_
  refine lv_icmp_gt (tgt := 14) hx hb d_14_20_7 (by decide) (fun _ => ?_) (fun c9 => absurd h1 c9)
  refine lv_iconst (v := 0) hx hb d_14_20_14 (by decide +kernel) ?_
  refine W.widen (k := 0) (n := 0) (Nat.le_of_ble_eq_true rfl) (Nat.le_of_ble_eq_true rfl) ?_
  exact W.zret hx hb hr rfl (fun t ht hW => qk hP hD hS [] rfl ((fun k => k), (fun _ _ => none)) rfl rfl rfl ht) hS.2.2 d_14_20_15
set_option maxRecDepth 100000 in
set_option maxHeartbeats 4000000 in
theorem c119_BModel_list (l : Launch) (z : Zz) (a0 a1 a2 a3 a4 : Nat) (x0 : Int32) (h0 : ¬ x0 < 0) (h1 : 10000000 < x0) : CT l z ⟨"BallothallModel", "list", "(I)I"⟩ prog_14_method_38_code 2 (some .int) [.ref a0, .int x0] [(a0, .inr (18, [.ref a1, .ref a2, .int 0, .ref a3, .int 0, .ref a4, .int 0, .null, .int 0, .null, .long 0, .int 0, .null]))] 1 30 0 0 (fun u => some (.int 0)) (fun u => [(a0, .inr (18, [.ref a1, .ref a2, .int 0, .ref a3, .int 0, .ref a4, .int 1, .null, .int 0, .null, .long 0, .int 0, .null]))]) := by
  refine CT.of (own := "BallothallModel") (by decide +kernel) (Nat.le_of_ble_eq_true rfl) rfl (fun p e s m below meth c A ls hx hb hml hr hts hown hlocks hin hA hG hZ hP hD hS hl => ?_)
  have hl : lv_has ls 2 [(0, .ref a0), (1, .int x0)] := hl
  refine lv_aload_n hx hb d_14_38_0 rfl (lv_at hl 0 rfl) ?_
  refine lv_iload_n hx hb d_14_38_1 rfl (lv_at hl 1 rfl) ?_
  refine lv_iconst (v := 0) hx hb d_14_38_2 (by decide +kernel) ?_
  refine lv_ldc hx hb hown (hts _ w_1812) d_14_38_3 ?_
  refine kS (As := [.int x0, .int 0, .int 10000000]) (rest := [.ref a0]) (wr := [(a0, .inr (18, [.ref a1, .ref a2, .int 0, .ref a3, .int 0, .ref a4, .int 0, .null, .int 0, .null, .long 0, .int 0, .null]))]) (c118_BModel_isIn l z x0 h0 h1) hx hb hml hown hts w_1718 w_1716 w_1717 w_12 md_bca45c ⟨Nat.le_of_ble_eq_true rfl, Nat.le_of_ble_eq_true rfl⟩ hG hZ hP hD hS hA [] [0] rfl rfl rfl rfl rfl hl.1 rfl (Nat.le_of_ble_eq_true rfl) d_14_38_5 ⟨Nat.le_of_ble_eq_true rfl, Nat.le_of_ble_eq_true rfl⟩ (fun u0 H locs hP hD hS => ?_)
  have hP : va_P z.1 classes [(a0, .inr (18, [.ref a1, .ref a2, .int 0, .ref a3, .int 0, .ref a4, .int 0, .null, .int 0, .null, .long 0, .int 0, .null]))] H := hP
  have hD : va_D A [(a0, .inr (18, [.ref a1, .ref a2, .int 0, .ref a3, .int 0, .ref a4, .int 0, .null, .int 0, .null, .long 0, .int 0, .null]))] := hD
  refine W.eq (g2 := F0 m 8 ls [.int 0, .ref a0]) rfl ?_
  refine lv_iconst (v := 1) hx hb d_14_38_8 (by decide +kernel) ?_
  refine kV (As := [.int 0, .int 1]) (rest := []) (wr := []) (c31_BModel_ends l z a0 a1 a2 a3 a4) hx hb hml hown hts w_1696 w_1693 w_1695 w_s_f8f2b7 w_12 md_77b0f8 ⟨Nat.le_of_ble_eq_true rfl, Nat.le_of_ble_eq_true rfl⟩ hG hZ hP hD hS hA 0 rfl rfl rfl [0] [] rfl rfl rfl rfl rfl hl.1 rfl (Nat.le_of_ble_eq_true rfl) d_14_38_9 ⟨Nat.le_of_ble_eq_true rfl, Nat.le_of_ble_eq_true rfl⟩ (fun u1 H locs hP hD hS => ?_)
  have hP : va_P z.1 classes [(a0, .inr (18, [.ref a1, .ref a2, .int 0, .ref a3, .int 0, .ref a4, .int 1, .null, .int 0, .null, .long 0, .int 0, .null]))] H := hP
  have hD : va_D A [(a0, .inr (18, [.ref a1, .ref a2, .int 0, .ref a3, .int 0, .ref a4, .int 1, .null, .int 0, .null, .long 0, .int 0, .null]))] := hD
  refine W.eq (g2 := F0 m 12 ls [.int 1]) rfl ?_
  refine lv_if_ne (tgt := 40) hx hb d_14_38_12 (by decide) (fun _ => ?_) (fun c9 => absurd c9 (by decide +kernel))
  refine lv_iconst (v := 0) hx hb d_14_38_40 (by decide +kernel) ?_
  refine W.widen (k := 0) (n := 0) (Nat.le_of_ble_eq_true rfl) (Nat.le_of_ble_eq_true rfl) ?_
  exact W.iret hx hb hr (fun t ht hW => qk hP hD hS [0] rfl ((fun k => k), (fun _ _ => none)) rfl rfl rfl ht) hS.2.2 d_14_38_41
set_option maxRecDepth 100000 in
set_option maxHeartbeats 4000000 in
theorem c120_B_needRange (l : Launch) (z : Zz) (x0 : Int32) (h0 : ¬ x0 < 0) (h1 : ¬ 10000000 < x0) : CT l z ⟨"Ballothall", "needRange", "(III)V"⟩ prog_1_method_57_code 3 none [.int x0, .int 0, .int 10000000] [] 0 0 0 0 (fun u => none) (fun u => []) := by
  refine CT.of (own := "Ballothall") (by decide +kernel) (Nat.le_of_ble_eq_true rfl) rfl (fun p e s m below meth c A ls hx hb hml hr hts hown hlocks hin hA hG hZ hP hD hS hl => ?_)
  have hl : lv_has ls 3 [(0, .int x0), (1, .int 0), (2, .int 10000000)] := hl
  refine lv_iload_n hx hb d_1_57_0 rfl (lv_at hl 0 rfl) ?_
  refine lv_iload_n hx hb d_1_57_1 rfl (lv_at hl 1 rfl) ?_
  refine lv_icmp_lt (tgt := 10) hx hb d_1_57_2 (by decide) (fun c9 => absurd c9 h0) (fun _ => ?_)
  refine lv_iload_n hx hb d_1_57_5 rfl (lv_at hl 0 rfl) ?_
  refine lv_iload_n hx hb d_1_57_6 rfl (lv_at hl 2 rfl) ?_
  refine lv_icmp_le (tgt := 21) hx hb d_1_57_7 (by decide) (fun _ => ?_) (fun c9 => absurd (Int32.not_lt.mp h1) c9)
  refine W.widen (k := 0) (n := 0) (Nat.le_of_ble_eq_true rfl) (Nat.le_of_ble_eq_true rfl) ?_
  exact W.vret hx hb hr (fun t ht hW => qk hP hD hS [] rfl ((fun k => k), (fun _ _ => none)) rfl rfl rfl ht) hS.2.2 d_1_57_21
set_option maxRecDepth 100000 in
set_option maxHeartbeats 4000000 in
theorem c121_Lists_append (l : Launch) (z : Zz) (a0 a1 a2 a3 a4 a5 a6 a7 a8 : Nat) (x0 : Int32) : CT l z ⟨"Ballothall$Lists", "append", "(I)I"⟩ prog_9_method_2_code 3 (some .int) [.ref a0, .int x0] [(a0, .inr (7, [.int 0, .ref a1, .ref a2, .ref a3, .ref a4, .ref a5, .int 0, .ref a6, .ref a7, .ref a8, .int 0])), (a1, .inl (z.2 0, 8, .inl (fun _ => 0))), (a2, .inl (z.2 0, 8, .inl (fun _ => 0))), (a3, .inl (z.2 0, 8, .inl (fun _ => 0)))] 0 0 0 0 (fun u => some (.int 0)) (fun u => [(a0, .inr (7, [.int 1, .ref a1, .ref a2, .ref a3, .ref a4, .ref a5, .int 0, .ref a6, .ref a7, .ref a8, .int 0])), (a1, .inl (z.2 0, 8, .inl (upd (fun _ => 0) 0 x0))), (a2, .inl (z.2 0, 8, .inl (fun _ => 0))), (a3, .inl (z.2 0, 8, .inl (fun _ => 0)))]) := by
  refine CT.of (own := "Ballothall$Lists") (by decide +kernel) (Nat.le_of_ble_eq_true rfl) rfl (fun p e s m below meth c A ls hx hb hml hr hts hown hlocks hin hA hG hZ hP hD hS hl => ?_)
  have hl : lv_has ls 3 [(0, .ref a0), (1, .int x0)] := hl
  refine lv_aload_n hx hb d_9_2_0 rfl (lv_at hl 0 rfl) ?_
  refine va_get (D := z.1) (ci := 7) (v := .int 0) (C := "Ballothall$Lists") (T := TX7) (N := 11) hx hb hts iX7 hown hG.1 hP 0 rfl rfl 0 (by decide) (hts _ w_249) (fun _ h9 => h9) rfl d_9_2_1 ?_
  refine lv_istore_n (lv' := [(2, .int 0), (0, .ref a0), (1, .int x0)]) hx hb d_9_2_4 rfl hl (by decide) rfl (fun ls hl => ?_)
  refine lv_aload_n hx hb d_9_2_5 rfl (lv_at hl 1 rfl) ?_
  refine va_get (D := z.1) (ci := 7) (v := .ref a1) (C := "Ballothall$Lists") (T := TX7) (N := 11) hx hb hts iX7 hown hG.1 hP 0 rfl rfl 1 (by decide) (hts _ w_251) (fun _ h9 => h9) rfl d_9_2_6 ?_
  refine lv_iload_n hx hb d_9_2_9 rfl (lv_at hl 0 rfl) ?_
  refine lv_iload_n hx hb d_9_2_10 rfl (lv_at hl 2 rfl) ?_
  refine va_iast hx hb hG.1 hP hD hS 1 0 rfl rfl (vin rfl) d_9_2_11 (fun H locs hP hD hS => ?_)
  have hP : va_P z.1 classes [(a0, .inr (7, [.int 0, .ref a1, .ref a2, .ref a3, .ref a4, .ref a5, .int 0, .ref a6, .ref a7, .ref a8, .int 0])), (a1, .inl (z.2 0, 8, .inl (upd (fun _ => 0) 0 x0))), (a2, .inl (z.2 0, 8, .inl (fun _ => 0))), (a3, .inl (z.2 0, 8, .inl (fun _ => 0)))] H := hP
  have hD : va_D A [(a0, .inr (7, [.int 0, .ref a1, .ref a2, .ref a3, .ref a4, .ref a5, .int 0, .ref a6, .ref a7, .ref a8, .int 0])), (a1, .inl (z.2 0, 8, .inl (upd (fun _ => 0) 0 x0))), (a2, .inl (z.2 0, 8, .inl (fun _ => 0))), (a3, .inl (z.2 0, 8, .inl (fun _ => 0)))] := hD
  refine lv_aload_n hx hb d_9_2_12 rfl (lv_at hl 1 rfl) ?_
  refine va_get (D := z.1) (ci := 7) (v := .ref a2) (C := "Ballothall$Lists") (T := TX7) (N := 11) hx hb hts iX7 hown hG.1 hP 0 rfl rfl 2 (by decide) (hts _ w_253) (fun _ h9 => h9) rfl d_9_2_13 ?_
  refine lv_iload_n hx hb d_9_2_16 rfl (lv_at hl 0 rfl) ?_
  refine lv_iconst (v := 0) hx hb d_9_2_17 (by decide +kernel) ?_
  refine va_iast hx hb hG.1 hP hD hS 2 0 rfl rfl (vin rfl) d_9_2_18 (fun H locs hP hD hS => ?_)
  rw [upd_z] at hP hD
  have hP : va_P z.1 classes [(a0, .inr (7, [.int 0, .ref a1, .ref a2, .ref a3, .ref a4, .ref a5, .int 0, .ref a6, .ref a7, .ref a8, .int 0])), (a1, .inl (z.2 0, 8, .inl (upd (fun _ => 0) 0 x0))), (a2, .inl (z.2 0, 8, .inl (fun _ => 0))), (a3, .inl (z.2 0, 8, .inl (fun _ => 0)))] H := hP
  have hD : va_D A [(a0, .inr (7, [.int 0, .ref a1, .ref a2, .ref a3, .ref a4, .ref a5, .int 0, .ref a6, .ref a7, .ref a8, .int 0])), (a1, .inl (z.2 0, 8, .inl (upd (fun _ => 0) 0 x0))), (a2, .inl (z.2 0, 8, .inl (fun _ => 0))), (a3, .inl (z.2 0, 8, .inl (fun _ => 0)))] := hD
  refine lv_aload_n hx hb d_9_2_19 rfl (lv_at hl 1 rfl) ?_
  refine va_get (D := z.1) (ci := 7) (v := .ref a3) (C := "Ballothall$Lists") (T := TX7) (N := 11) hx hb hts iX7 hown hG.1 hP 0 rfl rfl 3 (by decide) (hts _ w_255) (fun _ h9 => h9) rfl d_9_2_20 ?_
  refine lv_iload_n hx hb d_9_2_23 rfl (lv_at hl 0 rfl) ?_
  refine lv_iload_n hx hb d_9_2_24 rfl (lv_at hl 0 rfl) ?_
  refine va_iast hx hb hG.1 hP hD hS 3 0 rfl rfl (vin rfl) d_9_2_25 (fun H locs hP hD hS => ?_)
  rw [upd_z] at hP hD
  have hP : va_P z.1 classes [(a0, .inr (7, [.int 0, .ref a1, .ref a2, .ref a3, .ref a4, .ref a5, .int 0, .ref a6, .ref a7, .ref a8, .int 0])), (a1, .inl (z.2 0, 8, .inl (upd (fun _ => 0) 0 x0))), (a2, .inl (z.2 0, 8, .inl (fun _ => 0))), (a3, .inl (z.2 0, 8, .inl (fun _ => 0)))] H := hP
  have hD : va_D A [(a0, .inr (7, [.int 0, .ref a1, .ref a2, .ref a3, .ref a4, .ref a5, .int 0, .ref a6, .ref a7, .ref a8, .int 0])), (a1, .inl (z.2 0, 8, .inl (upd (fun _ => 0) 0 x0))), (a2, .inl (z.2 0, 8, .inl (fun _ => 0))), (a3, .inl (z.2 0, 8, .inl (fun _ => 0)))] := hD
  refine lv_aload_n hx hb d_9_2_26 rfl (lv_at hl 1 rfl) ?_
  refine lv_dup hx hb d_9_2_27 rfl ?_
  refine va_get (D := z.1) (ci := 7) (v := .int 0) (C := "Ballothall$Lists") (T := TX7) (N := 11) hx hb hts iX7 hown hG.1 hP 0 rfl rfl 0 (by decide) (hts _ w_249) (fun _ h9 => h9) rfl d_9_2_28 ?_
  refine lv_iconst (v := 1) hx hb d_9_2_31 (by decide +kernel) ?_
  refine lv_iadd hx hb d_9_2_32 ?_
  refine nrm (x1 := 1) (by decide +kernel) ?_
  refine va_put (D := z.1) (ci := 7) (v := .int 1) (ty := .int) (C := "Ballothall$Lists") (T := TX7) (N := 11) hx hb hts iX7 tyX7 tyX7_ok nmX7 hown hG.1 hP hD hS 0 rfl rfl 0 (by decide) (hts _ w_249) (fun _ h9 => h9) rfl (by decide +kernel) rfl rfl (Nat.le_of_ble_eq_true rfl) d_9_2_33 (fun H locs hP hD hS => ?_)
  have hP : va_P z.1 classes [(a0, .inr (7, [.int 1, .ref a1, .ref a2, .ref a3, .ref a4, .ref a5, .int 0, .ref a6, .ref a7, .ref a8, .int 0])), (a1, .inl (z.2 0, 8, .inl (upd (fun _ => 0) 0 x0))), (a2, .inl (z.2 0, 8, .inl (fun _ => 0))), (a3, .inl (z.2 0, 8, .inl (fun _ => 0)))] H := hP
  have hD : va_D A [(a0, .inr (7, [.int 1, .ref a1, .ref a2, .ref a3, .ref a4, .ref a5, .int 0, .ref a6, .ref a7, .ref a8, .int 0])), (a1, .inl (z.2 0, 8, .inl (upd (fun _ => 0) 0 x0))), (a2, .inl (z.2 0, 8, .inl (fun _ => 0))), (a3, .inl (z.2 0, 8, .inl (fun _ => 0)))] := hD
  refine lv_iload_n hx hb d_9_2_36 rfl (lv_at hl 0 rfl) ?_
  refine W.widen (k := 0) (n := 0) (Nat.le_of_ble_eq_true rfl) (Nat.le_of_ble_eq_true rfl) ?_
  exact W.iret hx hb hr (fun t ht hW => qk hP hD hS [0, 1, 2, 3] rfl ((fun k => k), (fun _ _ => none)) rfl rfl rfl ht) hS.2.2 d_9_2_37
set_option maxRecDepth 100000 in
set_option maxHeartbeats 4000000 in
theorem c122_B_remember (l : Launch) (z : Zz) (a0 a1 a2 a3 a4 a5 a6 a7 a8 a9 a10 a11 : Nat) : CT l z ⟨"Ballothall", "remember", "(III)V"⟩ prog_1_method_61_code 4 none [.ref a0, .int 5, .int 0, .int 0] [(a0, .inr (11, [.ref a1, .ref a2, .ref a3, .ref a4, .ref a5, .ref a6, .ref a7, .ref a8, .ref a9, .ref a10, .int 0, .int 0, .ref a11, .int 0])), (a8, .inl (z.2 0, 20, .inl (fun _ => 0))), (a9, .inl (z.2 0, 20, .inl (fun _ => 0))), (a10, .inl (z.2 0, 20, .inl (fun _ => 0)))] 1 29 0 0 (fun u => none) (fun u => [(a0, .inr (11, [.ref a1, .ref a2, .ref a3, .ref a4, .ref a5, .ref a6, .ref a7, .ref a8, .ref a9, .ref a10, .int 1, .int 1, .ref a11, .int 0])), (a8, .inl (z.2 0, 20, .inl (upd (fun _ => 0) 1 5))), (a9, .inl (z.2 0, 20, .inl (fun _ => 0))), (a10, .inl (z.2 0, 20, .inl (fun _ => 0)))]) := by
  refine CT.of (own := "Ballothall") (by decide +kernel) (Nat.le_of_ble_eq_true rfl) rfl (fun p e s m below meth c A ls hx hb hml hr hts hown hlocks hin hA hG hZ hP hD hS hl => ?_)
  have hl : lv_has ls 4 [(0, .ref a0), (1, .int 5), (2, .int 0), (3, .int 0)] := hl
  refine lv_aload_n hx hb d_1_61_0 rfl (lv_at hl 0 rfl) ?_
  refine lv_aload_n hx hb d_1_61_1 rfl (lv_at hl 0 rfl) ?_
  refine va_get (D := z.1) (ci := 11) (v := .int 0) (C := "Ballothall") (T := TX11) (N := 14) hx hb hts iX11 hown hG.1 hP 0 rfl rfl 10 (by decide) (hts _ w_416) (fun _ h9 => h9) rfl d_1_61_2 ?_
  refine lv_iconst (v := 1) hx hb d_1_61_5 (by decide +kernel) ?_
  refine lv_iadd hx hb d_1_61_6 ?_
  refine nrm (x1 := 1) (by decide +kernel) ?_
  refine lv_bipush (v := 20) hx hb d_1_61_7 (by decide +kernel) ?_
  refine lv_irem hx hb d_1_61_9 (by decide +kernel) ?_
  refine nrm (x1 := 1) (by decide +kernel) ?_
  refine va_put (D := z.1) (ci := 11) (v := .int 1) (ty := .int) (C := "Ballothall") (T := TX11) (N := 14) hx hb hts iX11 tyX11 tyX11_ok nmX11 hown hG.1 hP hD hS 0 rfl rfl 10 (by decide) (hts _ w_416) (fun _ h9 => h9) rfl (by decide +kernel) rfl rfl (Nat.le_of_ble_eq_true rfl) d_1_61_10 (fun H locs hP hD hS => ?_)
  have hP : va_P z.1 classes [(a0, .inr (11, [.ref a1, .ref a2, .ref a3, .ref a4, .ref a5, .ref a6, .ref a7, .ref a8, .ref a9, .ref a10, .int 1, .int 0, .ref a11, .int 0])), (a8, .inl (z.2 0, 20, .inl (fun _ => 0))), (a9, .inl (z.2 0, 20, .inl (fun _ => 0))), (a10, .inl (z.2 0, 20, .inl (fun _ => 0)))] H := hP
  have hD : va_D A [(a0, .inr (11, [.ref a1, .ref a2, .ref a3, .ref a4, .ref a5, .ref a6, .ref a7, .ref a8, .ref a9, .ref a10, .int 1, .int 0, .ref a11, .int 0])), (a8, .inl (z.2 0, 20, .inl (fun _ => 0))), (a9, .inl (z.2 0, 20, .inl (fun _ => 0))), (a10, .inl (z.2 0, 20, .inl (fun _ => 0)))] := hD
  refine lv_aload_n hx hb d_1_61_13 rfl (lv_at hl 0 rfl) ?_
  refine va_get (D := z.1) (ci := 11) (v := .ref a8) (C := "Ballothall") (T := TX11) (N := 14) hx hb hts iX11 hown hG.1 hP 0 rfl rfl 7 (by decide) (hts _ w_413) (fun _ h9 => h9) rfl d_1_61_14 ?_
  refine lv_aload_n hx hb d_1_61_17 rfl (lv_at hl 0 rfl) ?_
  refine va_get (D := z.1) (ci := 11) (v := .int 1) (C := "Ballothall") (T := TX11) (N := 14) hx hb hts iX11 hown hG.1 hP 0 rfl rfl 10 (by decide) (hts _ w_416) (fun _ h9 => h9) rfl d_1_61_18 ?_
  refine lv_iload_n hx hb d_1_61_21 rfl (lv_at hl 1 rfl) ?_
  refine va_iast hx hb hG.1 hP hD hS 1 0 rfl rfl (vin rfl) d_1_61_22 (fun H locs hP hD hS => ?_)
  have hP : va_P z.1 classes [(a0, .inr (11, [.ref a1, .ref a2, .ref a3, .ref a4, .ref a5, .ref a6, .ref a7, .ref a8, .ref a9, .ref a10, .int 1, .int 0, .ref a11, .int 0])), (a8, .inl (z.2 0, 20, .inl (upd (fun _ => 0) 1 5))), (a9, .inl (z.2 0, 20, .inl (fun _ => 0))), (a10, .inl (z.2 0, 20, .inl (fun _ => 0)))] H := hP
  have hD : va_D A [(a0, .inr (11, [.ref a1, .ref a2, .ref a3, .ref a4, .ref a5, .ref a6, .ref a7, .ref a8, .ref a9, .ref a10, .int 1, .int 0, .ref a11, .int 0])), (a8, .inl (z.2 0, 20, .inl (upd (fun _ => 0) 1 5))), (a9, .inl (z.2 0, 20, .inl (fun _ => 0))), (a10, .inl (z.2 0, 20, .inl (fun _ => 0)))] := hD
  refine lv_aload_n hx hb d_1_61_23 rfl (lv_at hl 0 rfl) ?_
  refine va_get (D := z.1) (ci := 11) (v := .ref a9) (C := "Ballothall") (T := TX11) (N := 14) hx hb hts iX11 hown hG.1 hP 0 rfl rfl 8 (by decide) (hts _ w_414) (fun _ h9 => h9) rfl d_1_61_24 ?_
  refine lv_aload_n hx hb d_1_61_27 rfl (lv_at hl 0 rfl) ?_
  refine va_get (D := z.1) (ci := 11) (v := .int 1) (C := "Ballothall") (T := TX11) (N := 14) hx hb hts iX11 hown hG.1 hP 0 rfl rfl 10 (by decide) (hts _ w_416) (fun _ h9 => h9) rfl d_1_61_28 ?_
  refine lv_iload_n hx hb d_1_61_31 rfl (lv_at hl 2 rfl) ?_
  refine va_iast hx hb hG.1 hP hD hS 2 0 rfl rfl (vin rfl) d_1_61_32 (fun H locs hP hD hS => ?_)
  rw [upd_z] at hP hD
  have hP : va_P z.1 classes [(a0, .inr (11, [.ref a1, .ref a2, .ref a3, .ref a4, .ref a5, .ref a6, .ref a7, .ref a8, .ref a9, .ref a10, .int 1, .int 0, .ref a11, .int 0])), (a8, .inl (z.2 0, 20, .inl (upd (fun _ => 0) 1 5))), (a9, .inl (z.2 0, 20, .inl (fun _ => 0))), (a10, .inl (z.2 0, 20, .inl (fun _ => 0)))] H := hP
  have hD : va_D A [(a0, .inr (11, [.ref a1, .ref a2, .ref a3, .ref a4, .ref a5, .ref a6, .ref a7, .ref a8, .ref a9, .ref a10, .int 1, .int 0, .ref a11, .int 0])), (a8, .inl (z.2 0, 20, .inl (upd (fun _ => 0) 1 5))), (a9, .inl (z.2 0, 20, .inl (fun _ => 0))), (a10, .inl (z.2 0, 20, .inl (fun _ => 0)))] := hD
  refine lv_aload_n hx hb d_1_61_33 rfl (lv_at hl 0 rfl) ?_
  refine va_get (D := z.1) (ci := 11) (v := .ref a10) (C := "Ballothall") (T := TX11) (N := 14) hx hb hts iX11 hown hG.1 hP 0 rfl rfl 9 (by decide) (hts _ w_415) (fun _ h9 => h9) rfl d_1_61_34 ?_
  refine lv_aload_n hx hb d_1_61_37 rfl (lv_at hl 0 rfl) ?_
  refine va_get (D := z.1) (ci := 11) (v := .int 1) (C := "Ballothall") (T := TX11) (N := 14) hx hb hts iX11 hown hG.1 hP 0 rfl rfl 10 (by decide) (hts _ w_416) (fun _ h9 => h9) rfl d_1_61_38 ?_
  refine lv_iload_n hx hb d_1_61_41 rfl (lv_at hl 3 rfl) ?_
  refine va_iast hx hb hG.1 hP hD hS 3 0 rfl rfl (vin rfl) d_1_61_42 (fun H locs hP hD hS => ?_)
  rw [upd_z] at hP hD
  have hP : va_P z.1 classes [(a0, .inr (11, [.ref a1, .ref a2, .ref a3, .ref a4, .ref a5, .ref a6, .ref a7, .ref a8, .ref a9, .ref a10, .int 1, .int 0, .ref a11, .int 0])), (a8, .inl (z.2 0, 20, .inl (upd (fun _ => 0) 1 5))), (a9, .inl (z.2 0, 20, .inl (fun _ => 0))), (a10, .inl (z.2 0, 20, .inl (fun _ => 0)))] H := hP
  have hD : va_D A [(a0, .inr (11, [.ref a1, .ref a2, .ref a3, .ref a4, .ref a5, .ref a6, .ref a7, .ref a8, .ref a9, .ref a10, .int 1, .int 0, .ref a11, .int 0])), (a8, .inl (z.2 0, 20, .inl (upd (fun _ => 0) 1 5))), (a9, .inl (z.2 0, 20, .inl (fun _ => 0))), (a10, .inl (z.2 0, 20, .inl (fun _ => 0)))] := hD
  refine lv_aload_n hx hb d_1_61_43 rfl (lv_at hl 0 rfl) ?_
  refine lv_aload_n hx hb d_1_61_44 rfl (lv_at hl 0 rfl) ?_
  refine va_get (D := z.1) (ci := 11) (v := .int 0) (C := "Ballothall") (T := TX11) (N := 14) hx hb hts iX11 hown hG.1 hP 0 rfl rfl 11 (by decide) (hts _ w_417) (fun _ h9 => h9) rfl d_1_61_45 ?_
  refine lv_iconst (v := 1) hx hb d_1_61_48 (by decide +kernel) ?_
  refine lv_iadd hx hb d_1_61_49 ?_
  refine nrm (x1 := 1) (by decide +kernel) ?_
  refine lv_bipush (v := 20) hx hb d_1_61_50 (by decide +kernel) ?_
  refine va_mmin hx hb (by rw [hml]; exact hl.1.symm) hown (hts _ w_845) (hts _ w_550) (hts _ w_18) (hts _ w_min) (Nat.le_of_ble_eq_true rfl) (Nat.le_of_ble_eq_true rfl) (Nat.le_of_ble_eq_true rfl) (Nat.le_of_ble_eq_true rfl) d_1_61_52 ?_
  refine nrm (x1 := 1) (by decide +kernel) ?_
  refine va_put (D := z.1) (ci := 11) (v := .int 1) (ty := .int) (C := "Ballothall") (T := TX11) (N := 14) hx hb hts iX11 tyX11 tyX11_ok nmX11 hown hG.1 hP hD hS 0 rfl rfl 11 (by decide) (hts _ w_417) (fun _ h9 => h9) rfl (by decide +kernel) rfl rfl (Nat.le_of_ble_eq_true rfl) d_1_61_55 (fun H locs hP hD hS => ?_)
  have hP : va_P z.1 classes [(a0, .inr (11, [.ref a1, .ref a2, .ref a3, .ref a4, .ref a5, .ref a6, .ref a7, .ref a8, .ref a9, .ref a10, .int 1, .int 1, .ref a11, .int 0])), (a8, .inl (z.2 0, 20, .inl (upd (fun _ => 0) 1 5))), (a9, .inl (z.2 0, 20, .inl (fun _ => 0))), (a10, .inl (z.2 0, 20, .inl (fun _ => 0)))] H := hP
  have hD : va_D A [(a0, .inr (11, [.ref a1, .ref a2, .ref a3, .ref a4, .ref a5, .ref a6, .ref a7, .ref a8, .ref a9, .ref a10, .int 1, .int 1, .ref a11, .int 0])), (a8, .inl (z.2 0, 20, .inl (upd (fun _ => 0) 1 5))), (a9, .inl (z.2 0, 20, .inl (fun _ => 0))), (a10, .inl (z.2 0, 20, .inl (fun _ => 0)))] := hD
  refine W.widen (k := 0) (n := 0) (Nat.le_of_ble_eq_true rfl) (Nat.le_of_ble_eq_true rfl) ?_
  exact W.vret hx hb hr (fun t ht hW => qk hP hD hS [0, 1, 2, 3] rfl ((fun k => k), (fun _ _ => none)) rfl rfl rfl ht) hS.2.2 d_1_61_58
set_option maxRecDepth 100000 in
set_option maxHeartbeats 4000000 in
theorem c123_B_list (l : Launch) (z : Zz) (a0 a1 a2 a3 a4 a5 a6 a7 a8 a9 a10 a11 a12 a13 a14 a15 a16 a17 a18 a19 : Nat) (x0 : Int32) (h0 : ¬ x0 < 0) (h1 : ¬ 10000000 < x0) : CT l z ⟨"Ballothall", "list", "(I)I"⟩ prog_1_method_10_code 3 (some .int) [.ref a0, .int x0] [(a0, .inr (11, [.ref a1, .ref a2, .ref a3, .ref a4, .ref a5, .ref a6, .ref a7, .ref a8, .ref a9, .ref a10, .int 0, .int 0, .ref a11, .int 0])), (a4, .inr (7, [.int 0, .ref a12, .ref a13, .ref a14, .ref a15, .ref a16, .int 0, .ref a17, .ref a18, .ref a19, .int 0])), (a12, .inl (z.2 0, 8, .inl (fun _ => 0))), (a13, .inl (z.2 0, 8, .inl (fun _ => 0))), (a14, .inl (z.2 0, 8, .inl (fun _ => 0))), (a8, .inl (z.2 0, 20, .inl (fun _ => 0))), (a9, .inl (z.2 0, 20, .inl (fun _ => 0))), (a10, .inl (z.2 0, 20, .inl (fun _ => 0)))] 2 60 0 0 (fun u => some (.int 0)) (fun u => [(a0, .inr (11, [.ref a1, .ref a2, .ref a3, .ref a4, .ref a5, .ref a6, .ref a7, .ref a8, .ref a9, .ref a10, .int 1, .int 1, .ref a11, .int 0])), (a4, .inr (7, [.int 1, .ref a12, .ref a13, .ref a14, .ref a15, .ref a16, .int 0, .ref a17, .ref a18, .ref a19, .int 0])), (a12, .inl (z.2 0, 8, .inl (upd (fun _ => 0) 0 x0))), (a13, .inl (z.2 0, 8, .inl (fun _ => 0))), (a14, .inl (z.2 0, 8, .inl (fun _ => 0))), (a8, .inl (z.2 0, 20, .inl (upd (fun _ => 0) 1 5))), (a9, .inl (z.2 0, 20, .inl (fun _ => 0))), (a10, .inl (z.2 0, 20, .inl (fun _ => 0)))]) := by
  refine CT.of (own := "Ballothall") (by decide +kernel) (Nat.le_of_ble_eq_true rfl) rfl (fun p e s m below meth c A ls hx hb hml hr hts hown hlocks hin hA hG hZ hP hD hS hl => ?_)
  have hl : lv_has ls 3 [(0, .ref a0), (1, .int x0)] := hl
  refine lv_iload_n hx hb d_1_10_0 rfl (lv_at hl 1 rfl) ?_
  refine lv_iconst (v := 0) hx hb d_1_10_1 (by decide +kernel) ?_
  refine lv_ldc hx hb hown (hts _ w_973) d_1_10_2 ?_
  refine kS (As := [.int x0, .int 0, .int 10000000]) (rest := []) (wr := [(a0, .inr (11, [.ref a1, .ref a2, .ref a3, .ref a4, .ref a5, .ref a6, .ref a7, .ref a8, .ref a9, .ref a10, .int 0, .int 0, .ref a11, .int 0])), (a4, .inr (7, [.int 0, .ref a12, .ref a13, .ref a14, .ref a15, .ref a16, .int 0, .ref a17, .ref a18, .ref a19, .int 0])), (a12, .inl (z.2 0, 8, .inl (fun _ => 0))), (a13, .inl (z.2 0, 8, .inl (fun _ => 0))), (a14, .inl (z.2 0, 8, .inl (fun _ => 0))), (a8, .inl (z.2 0, 20, .inl (fun _ => 0))), (a9, .inl (z.2 0, 20, .inl (fun _ => 0))), (a10, .inl (z.2 0, 20, .inl (fun _ => 0)))]) (c120_B_needRange l z x0 h0 h1) hx hb hml hown hts w_876 w_874 w_875 w_1 md_519134 ⟨Nat.le_of_ble_eq_true rfl, Nat.le_of_ble_eq_true rfl⟩ hG hZ hP hD hS hA [] [0, 1, 2, 3, 4, 5, 6, 7] rfl rfl rfl rfl rfl hl.1 rfl (Nat.le_of_ble_eq_true rfl) d_1_10_4 ⟨Nat.le_of_ble_eq_true rfl, Nat.le_of_ble_eq_true rfl⟩ (fun u0 H locs hP hD hS => ?_)
  have hP : va_P z.1 classes [(a0, .inr (11, [.ref a1, .ref a2, .ref a3, .ref a4, .ref a5, .ref a6, .ref a7, .ref a8, .ref a9, .ref a10, .int 0, .int 0, .ref a11, .int 0])), (a4, .inr (7, [.int 0, .ref a12, .ref a13, .ref a14, .ref a15, .ref a16, .int 0, .ref a17, .ref a18, .ref a19, .int 0])), (a12, .inl (z.2 0, 8, .inl (fun _ => 0))), (a13, .inl (z.2 0, 8, .inl (fun _ => 0))), (a14, .inl (z.2 0, 8, .inl (fun _ => 0))), (a8, .inl (z.2 0, 20, .inl (fun _ => 0))), (a9, .inl (z.2 0, 20, .inl (fun _ => 0))), (a10, .inl (z.2 0, 20, .inl (fun _ => 0)))] H := hP
  have hD : va_D A [(a0, .inr (11, [.ref a1, .ref a2, .ref a3, .ref a4, .ref a5, .ref a6, .ref a7, .ref a8, .ref a9, .ref a10, .int 0, .int 0, .ref a11, .int 0])), (a4, .inr (7, [.int 0, .ref a12, .ref a13, .ref a14, .ref a15, .ref a16, .int 0, .ref a17, .ref a18, .ref a19, .int 0])), (a12, .inl (z.2 0, 8, .inl (fun _ => 0))), (a13, .inl (z.2 0, 8, .inl (fun _ => 0))), (a14, .inl (z.2 0, 8, .inl (fun _ => 0))), (a8, .inl (z.2 0, 20, .inl (fun _ => 0))), (a9, .inl (z.2 0, 20, .inl (fun _ => 0))), (a10, .inl (z.2 0, 20, .inl (fun _ => 0)))] := hD
  refine W.eq (g2 := F0 m 7 ls []) rfl ?_
  refine lv_aload_n hx hb d_1_10_7 rfl (lv_at hl 0 rfl) ?_
  refine va_get (D := z.1) (ci := 11) (v := .ref a4) (C := "Ballothall") (T := TX11) (N := 14) hx hb hts iX11 hown hG.1 hP 0 rfl rfl 3 (by decide) (hts _ w_409) (fun _ h9 => h9) rfl d_1_10_8 ?_
  refine va_getN (D := z.1) (ci := 7) (v := .int 0) (C := "Ballothall$Lists") (T := TX7) (N := 11) hx hb hts iX7 hown hG.1 hP 1 rfl rfl 0 (by decide) (va_Nw.use rfl (hG.2.1 _ n_250 rfl)) (fun _ h9 => h9) rfl d_1_10_11 ?_
  refine lv_iconst (v := 1) hx hb d_1_10_14 (by decide +kernel) ?_
  refine lv_iadd hx hb d_1_10_15 ?_
  refine nrm (x1 := 1) (by decide +kernel) ?_
  refine lv_bipush (v := 8) hx hb d_1_10_16 (by decide +kernel) ?_
  refine kS (As := [.int 1, .int 8]) (rest := []) (wr := [(a0, .inr (11, [.ref a1, .ref a2, .ref a3, .ref a4, .ref a5, .ref a6, .ref a7, .ref a8, .ref a9, .ref a10, .int 0, .int 0, .ref a11, .int 0])), (a4, .inr (7, [.int 0, .ref a12, .ref a13, .ref a14, .ref a15, .ref a16, .int 0, .ref a17, .ref a18, .ref a19, .int 0])), (a12, .inl (z.2 0, 8, .inl (fun _ => 0))), (a13, .inl (z.2 0, 8, .inl (fun _ => 0))), (a14, .inl (z.2 0, 8, .inl (fun _ => 0))), (a8, .inl (z.2 0, 20, .inl (fun _ => 0))), (a9, .inl (z.2 0, 20, .inl (fun _ => 0))), (a10, .inl (z.2 0, 20, .inl (fun _ => 0)))]) (c17_B_needRoom l z ) hx hb hml hown hts w_771 w_769 w_770 w_1 md_ec9fa9 ⟨Nat.le_of_ble_eq_true rfl, Nat.le_of_ble_eq_true rfl⟩ hG hZ hP hD hS hA [] [0, 1, 2, 3, 4, 5, 6, 7] rfl rfl rfl rfl rfl hl.1 rfl (Nat.le_of_ble_eq_true rfl) d_1_10_18 ⟨Nat.le_of_ble_eq_true rfl, Nat.le_of_ble_eq_true rfl⟩ (fun u1 H locs hP hD hS => ?_)
  have hP : va_P z.1 classes [(a0, .inr (11, [.ref a1, .ref a2, .ref a3, .ref a4, .ref a5, .ref a6, .ref a7, .ref a8, .ref a9, .ref a10, .int 0, .int 0, .ref a11, .int 0])), (a4, .inr (7, [.int 0, .ref a12, .ref a13, .ref a14, .ref a15, .ref a16, .int 0, .ref a17, .ref a18, .ref a19, .int 0])), (a12, .inl (z.2 0, 8, .inl (fun _ => 0))), (a13, .inl (z.2 0, 8, .inl (fun _ => 0))), (a14, .inl (z.2 0, 8, .inl (fun _ => 0))), (a8, .inl (z.2 0, 20, .inl (fun _ => 0))), (a9, .inl (z.2 0, 20, .inl (fun _ => 0))), (a10, .inl (z.2 0, 20, .inl (fun _ => 0)))] H := hP
  have hD : va_D A [(a0, .inr (11, [.ref a1, .ref a2, .ref a3, .ref a4, .ref a5, .ref a6, .ref a7, .ref a8, .ref a9, .ref a10, .int 0, .int 0, .ref a11, .int 0])), (a4, .inr (7, [.int 0, .ref a12, .ref a13, .ref a14, .ref a15, .ref a16, .int 0, .ref a17, .ref a18, .ref a19, .int 0])), (a12, .inl (z.2 0, 8, .inl (fun _ => 0))), (a13, .inl (z.2 0, 8, .inl (fun _ => 0))), (a14, .inl (z.2 0, 8, .inl (fun _ => 0))), (a8, .inl (z.2 0, 20, .inl (fun _ => 0))), (a9, .inl (z.2 0, 20, .inl (fun _ => 0))), (a10, .inl (z.2 0, 20, .inl (fun _ => 0)))] := hD
  refine W.eq (g2 := F0 m 21 ls []) rfl ?_
  refine lv_aload_n hx hb d_1_10_21 rfl (lv_at hl 0 rfl) ?_
  refine va_get (D := z.1) (ci := 11) (v := .ref a4) (C := "Ballothall") (T := TX11) (N := 14) hx hb hts iX11 hown hG.1 hP 0 rfl rfl 3 (by decide) (hts _ w_409) (fun _ h9 => h9) rfl d_1_10_22 ?_
  refine lv_iload_n hx hb d_1_10_25 rfl (lv_at hl 1 rfl) ?_
  refine kVN (As := [.int x0]) (rest := []) (wr := [(a0, .inr (11, [.ref a1, .ref a2, .ref a3, .ref a4, .ref a5, .ref a6, .ref a7, .ref a8, .ref a9, .ref a10, .int 0, .int 0, .ref a11, .int 0])), (a8, .inl (z.2 0, 20, .inl (fun _ => 0))), (a9, .inl (z.2 0, 20, .inl (fun _ => 0))), (a10, .inl (z.2 0, 20, .inl (fun _ => 0)))]) (c121_Lists_append l z a4 a12 a13 a14 a15 a16 a17 a18 a19 x0) hx hb hml hown hts w_977 n_974 w_976 w_s_e9d9cd w_5 md_b749d4 ⟨Nat.le_of_ble_eq_true rfl, Nat.le_of_ble_eq_true rfl⟩ hG hZ hP hD hS hA 1 rfl rfl rfl [1, 2, 3, 4] [0, 5, 6, 7] rfl rfl rfl rfl rfl hl.1 rfl (Nat.le_of_ble_eq_true rfl) d_1_10_26 ⟨Nat.le_of_ble_eq_true rfl, Nat.le_of_ble_eq_true rfl⟩ (fun u2 H locs hP hD hS => ?_)
  have hP : va_P z.1 classes [(a0, .inr (11, [.ref a1, .ref a2, .ref a3, .ref a4, .ref a5, .ref a6, .ref a7, .ref a8, .ref a9, .ref a10, .int 0, .int 0, .ref a11, .int 0])), (a8, .inl (z.2 0, 20, .inl (fun _ => 0))), (a9, .inl (z.2 0, 20, .inl (fun _ => 0))), (a10, .inl (z.2 0, 20, .inl (fun _ => 0))), (a4, .inr (7, [.int 1, .ref a12, .ref a13, .ref a14, .ref a15, .ref a16, .int 0, .ref a17, .ref a18, .ref a19, .int 0])), (a12, .inl (z.2 0, 8, .inl (upd (fun _ => 0) 0 x0))), (a13, .inl (z.2 0, 8, .inl (fun _ => 0))), (a14, .inl (z.2 0, 8, .inl (fun _ => 0)))] H := hP
  have hD : va_D A [(a0, .inr (11, [.ref a1, .ref a2, .ref a3, .ref a4, .ref a5, .ref a6, .ref a7, .ref a8, .ref a9, .ref a10, .int 0, .int 0, .ref a11, .int 0])), (a8, .inl (z.2 0, 20, .inl (fun _ => 0))), (a9, .inl (z.2 0, 20, .inl (fun _ => 0))), (a10, .inl (z.2 0, 20, .inl (fun _ => 0))), (a4, .inr (7, [.int 1, .ref a12, .ref a13, .ref a14, .ref a15, .ref a16, .int 0, .ref a17, .ref a18, .ref a19, .int 0])), (a12, .inl (z.2 0, 8, .inl (upd (fun _ => 0) 0 x0))), (a13, .inl (z.2 0, 8, .inl (fun _ => 0))), (a14, .inl (z.2 0, 8, .inl (fun _ => 0)))] := hD
  refine W.eq (g2 := F0 m 29 ls [.int 0]) rfl ?_
  refine lv_istore_n (lv' := [(2, .int 0), (0, .ref a0), (1, .int x0)]) hx hb d_1_10_29 rfl hl (by decide) rfl (fun ls hl => ?_)
  refine lv_aload_n hx hb d_1_10_30 rfl (lv_at hl 1 rfl) ?_
  refine lv_iconst (v := 5) hx hb d_1_10_31 (by decide +kernel) ?_
  refine lv_iload_n hx hb d_1_10_32 rfl (lv_at hl 0 rfl) ?_
  refine lv_iconst (v := 0) hx hb d_1_10_33 (by decide +kernel) ?_
  refine kV (As := [.int 5, .int 0, .int 0]) (rest := []) (wr := [(a4, .inr (7, [.int 1, .ref a12, .ref a13, .ref a14, .ref a15, .ref a16, .int 0, .ref a17, .ref a18, .ref a19, .int 0])), (a12, .inl (z.2 0, 8, .inl (upd (fun _ => 0) 0 x0))), (a13, .inl (z.2 0, 8, .inl (fun _ => 0))), (a14, .inl (z.2 0, 8, .inl (fun _ => 0)))]) (c122_B_remember l z a0 a1 a2 a3 a4 a5 a6 a7 a8 a9 a10 a11) hx hb hml hown hts w_844 w_841 w_843 w_s_b872b3 w_1 md_7af0bb ⟨Nat.le_of_ble_eq_true rfl, Nat.le_of_ble_eq_true rfl⟩ hG hZ hP hD hS hA 0 rfl rfl rfl [0, 1, 2, 3] [4, 5, 6, 7] rfl rfl rfl rfl rfl hl.1 rfl (Nat.le_of_ble_eq_true rfl) d_1_10_34 ⟨Nat.le_of_ble_eq_true rfl, Nat.le_of_ble_eq_true rfl⟩ (fun u3 H locs hP hD hS => ?_)
  have hP : va_P z.1 classes [(a4, .inr (7, [.int 1, .ref a12, .ref a13, .ref a14, .ref a15, .ref a16, .int 0, .ref a17, .ref a18, .ref a19, .int 0])), (a12, .inl (z.2 0, 8, .inl (upd (fun _ => 0) 0 x0))), (a13, .inl (z.2 0, 8, .inl (fun _ => 0))), (a14, .inl (z.2 0, 8, .inl (fun _ => 0))), (a0, .inr (11, [.ref a1, .ref a2, .ref a3, .ref a4, .ref a5, .ref a6, .ref a7, .ref a8, .ref a9, .ref a10, .int 1, .int 1, .ref a11, .int 0])), (a8, .inl (z.2 0, 20, .inl (upd (fun _ => 0) 1 5))), (a9, .inl (z.2 0, 20, .inl (fun _ => 0))), (a10, .inl (z.2 0, 20, .inl (fun _ => 0)))] H := hP
  have hD : va_D A [(a4, .inr (7, [.int 1, .ref a12, .ref a13, .ref a14, .ref a15, .ref a16, .int 0, .ref a17, .ref a18, .ref a19, .int 0])), (a12, .inl (z.2 0, 8, .inl (upd (fun _ => 0) 0 x0))), (a13, .inl (z.2 0, 8, .inl (fun _ => 0))), (a14, .inl (z.2 0, 8, .inl (fun _ => 0))), (a0, .inr (11, [.ref a1, .ref a2, .ref a3, .ref a4, .ref a5, .ref a6, .ref a7, .ref a8, .ref a9, .ref a10, .int 1, .int 1, .ref a11, .int 0])), (a8, .inl (z.2 0, 20, .inl (upd (fun _ => 0) 1 5))), (a9, .inl (z.2 0, 20, .inl (fun _ => 0))), (a10, .inl (z.2 0, 20, .inl (fun _ => 0)))] := hD
  refine W.eq (g2 := F0 m 37 ls []) rfl ?_
  refine lv_iload_n hx hb d_1_10_37 rfl (lv_at hl 0 rfl) ?_
  refine W.widen (k := 0) (n := 0) (Nat.le_of_ble_eq_true rfl) (Nat.le_of_ble_eq_true rfl) ?_
  exact W.iret hx hb hr (fun t ht hW => qk hP hD hS [4, 0, 1, 2, 3, 5, 6, 7] rfl ((fun k => k), (fun _ _ => none)) rfl rfl rfl ht) hS.2.2 d_1_10_38
set_option maxRecDepth 100000 in
set_option maxHeartbeats 4000000 in
theorem c124_BLaw_list (l : Launch) (z : Zz) (a0 a1 a2 a3 a4 a5 a6 a7 a8 a9 a10 a11 a12 a13 a14 a15 a16 a17 a18 a19 a20 : Nat) (x0 : Int32) (h0 : ¬ x0 < 0) (h1 : ¬ 10000000 < x0) : HT l z ⟨"BallothallLaw", "list", "(LBallothall;I[J)I"⟩ method_10_code 4 (some .int) [(0, 9, 12, 21), (0, 9, 15, 13)] [.ref a0, .int x0, .ref a1] [(a0, .inr (11, [.ref a2, .ref a3, .ref a4, .ref a5, .ref a6, .ref a7, .ref a8, .ref a9, .ref a10, .ref a11, .int 0, .int 0, .ref a12, .int 0])), (a5, .inr (7, [.int 0, .ref a13, .ref a14, .ref a15, .ref a16, .ref a17, .int 0, .ref a18, .ref a19, .ref a20, .int 0])), (a13, .inl (z.2 0, 8, .inl (fun _ => 0))), (a14, .inl (z.2 0, 8, .inl (fun _ => 0))), (a15, .inl (z.2 0, 8, .inl (fun _ => 0))), (a9, .inl (z.2 0, 20, .inl (fun _ => 0))), (a10, .inl (z.2 0, 20, .inl (fun _ => 0))), (a11, .inl (z.2 0, 20, .inl (fun _ => 0))), (a1, .inl (z.2 1, 1, .inr (.inl (fun _ => 0))))] 3 90 0 0 (fun u => some (.int 0)) (fun u => [(a0, .inr (11, [.ref a2, .ref a3, .ref a4, .ref a5, .ref a6, .ref a7, .ref a8, .ref a9, .ref a10, .ref a11, .int 1, .int 1, .ref a12, .int 0])), (a5, .inr (7, [.int 1, .ref a13, .ref a14, .ref a15, .ref a16, .ref a17, .int 0, .ref a18, .ref a19, .ref a20, .int 0])), (a13, .inl (z.2 0, 8, .inl (upd (fun _ => 0) 0 x0))), (a14, .inl (z.2 0, 8, .inl (fun _ => 0))), (a15, .inl (z.2 0, 8, .inl (fun _ => 0))), (a9, .inl (z.2 0, 20, .inl (upd (fun _ => 0) 1 5))), (a10, .inl (z.2 0, 20, .inl (fun _ => 0))), (a11, .inl (z.2 0, 20, .inl (fun _ => 0))), (a1, .inl (z.2 1, 1, .inr (.inl (fun _ => 0))))]) := by
  refine HT.of (own := "BallothallLaw") (by decide +kernel) (Nat.le_of_ble_eq_true rfl) rfl (fun p e s m below meth c A ls hx hb hml hr hts hown hlocks hin hA hG hZ hP hD hS hl htab => ?_)
  have hl : lv_has ls 4 [(0, .ref a0), (1, .int x0), (2, .ref a1)] := hl
  refine lv_aload_n hx hb d_L10_0 rfl (lv_at hl 2 rfl) ?_
  refine lv_iconst (v := 0) hx hb d_L10_1 (by decide +kernel) ?_
  refine lv_aload_n hx hb d_L10_2 rfl (lv_at hl 0 rfl) ?_
  refine lv_iload_n hx hb d_L10_3 rfl (lv_at hl 1 rfl) ?_
  refine kV (As := [.int x0]) (rest := [.int 0, .ref a1]) (wr := [(a1, .inl (z.2 1, 1, .inr (.inl (fun _ => 0))))]) (c123_B_list l z a0 a2 a3 a4 a5 a6 a7 a8 a9 a10 a11 a12 a13 a14 a15 a16 a17 a18 a19 a20 x0 h0 h1) hx hb hml hown hts w_972 w_969 w_970 w_971 w_1 md_c7d969 ⟨Nat.le_of_ble_eq_true rfl, Nat.le_of_ble_eq_true rfl⟩ hG hZ hP hD hS hA 0 rfl rfl rfl [0, 1, 2, 3, 4, 5, 6, 7] [8] rfl rfl rfl rfl rfl hl.1 rfl (Nat.le_of_ble_eq_true rfl) d_L10_4 ⟨Nat.le_of_ble_eq_true rfl, Nat.le_of_ble_eq_true rfl⟩ (fun u0 H locs hP hD hS => ?_)
  have hP : va_P z.1 classes [(a1, .inl (z.2 1, 1, .inr (.inl (fun _ => 0)))), (a0, .inr (11, [.ref a2, .ref a3, .ref a4, .ref a5, .ref a6, .ref a7, .ref a8, .ref a9, .ref a10, .ref a11, .int 1, .int 1, .ref a12, .int 0])), (a5, .inr (7, [.int 1, .ref a13, .ref a14, .ref a15, .ref a16, .ref a17, .int 0, .ref a18, .ref a19, .ref a20, .int 0])), (a13, .inl (z.2 0, 8, .inl (upd (fun _ => 0) 0 x0))), (a14, .inl (z.2 0, 8, .inl (fun _ => 0))), (a15, .inl (z.2 0, 8, .inl (fun _ => 0))), (a9, .inl (z.2 0, 20, .inl (upd (fun _ => 0) 1 5))), (a10, .inl (z.2 0, 20, .inl (fun _ => 0))), (a11, .inl (z.2 0, 20, .inl (fun _ => 0)))] H := hP
  have hD : va_D A [(a1, .inl (z.2 1, 1, .inr (.inl (fun _ => 0)))), (a0, .inr (11, [.ref a2, .ref a3, .ref a4, .ref a5, .ref a6, .ref a7, .ref a8, .ref a9, .ref a10, .ref a11, .int 1, .int 1, .ref a12, .int 0])), (a5, .inr (7, [.int 1, .ref a13, .ref a14, .ref a15, .ref a16, .ref a17, .int 0, .ref a18, .ref a19, .ref a20, .int 0])), (a13, .inl (z.2 0, 8, .inl (upd (fun _ => 0) 0 x0))), (a14, .inl (z.2 0, 8, .inl (fun _ => 0))), (a15, .inl (z.2 0, 8, .inl (fun _ => 0))), (a9, .inl (z.2 0, 20, .inl (upd (fun _ => 0) 1 5))), (a10, .inl (z.2 0, 20, .inl (fun _ => 0))), (a11, .inl (z.2 0, 20, .inl (fun _ => 0)))] := hD
  refine W.eq (g2 := F0 m 7 ls [.int 0, .int 0, .ref a1]) rfl ?_
  refine lv_i2l (v := 0) hx hb d_L10_7 (by decide +kernel) ?_
  refine va_last hx hb hG.1 hP hD hS 0 1 rfl rfl (vin rfl) d_L10_8 (fun H locs hP hD hS => ?_)
  rw [updL_z] at hP hD
  have hP : va_P z.1 classes [(a1, .inl (z.2 1, 1, .inr (.inl (fun _ => 0)))), (a0, .inr (11, [.ref a2, .ref a3, .ref a4, .ref a5, .ref a6, .ref a7, .ref a8, .ref a9, .ref a10, .ref a11, .int 1, .int 1, .ref a12, .int 0])), (a5, .inr (7, [.int 1, .ref a13, .ref a14, .ref a15, .ref a16, .ref a17, .int 0, .ref a18, .ref a19, .ref a20, .int 0])), (a13, .inl (z.2 0, 8, .inl (upd (fun _ => 0) 0 x0))), (a14, .inl (z.2 0, 8, .inl (fun _ => 0))), (a15, .inl (z.2 0, 8, .inl (fun _ => 0))), (a9, .inl (z.2 0, 20, .inl (upd (fun _ => 0) 1 5))), (a10, .inl (z.2 0, 20, .inl (fun _ => 0))), (a11, .inl (z.2 0, 20, .inl (fun _ => 0)))] H := hP
  have hD : va_D A [(a1, .inl (z.2 1, 1, .inr (.inl (fun _ => 0)))), (a0, .inr (11, [.ref a2, .ref a3, .ref a4, .ref a5, .ref a6, .ref a7, .ref a8, .ref a9, .ref a10, .ref a11, .int 1, .int 1, .ref a12, .int 0])), (a5, .inr (7, [.int 1, .ref a13, .ref a14, .ref a15, .ref a16, .ref a17, .int 0, .ref a18, .ref a19, .ref a20, .int 0])), (a13, .inl (z.2 0, 8, .inl (upd (fun _ => 0) 0 x0))), (a14, .inl (z.2 0, 8, .inl (fun _ => 0))), (a15, .inl (z.2 0, 8, .inl (fun _ => 0))), (a9, .inl (z.2 0, 20, .inl (upd (fun _ => 0) 1 5))), (a10, .inl (z.2 0, 20, .inl (fun _ => 0))), (a11, .inl (z.2 0, 20, .inl (fun _ => 0)))] := hD
  refine lv_goto (tgt := 18) hx hb d_L10_9 (by decide) ?_
  refine lv_iconst (v := 0) hx hb d_L10_18 (by decide +kernel) ?_
  refine W.widen (k := 0) (n := 0) (Nat.le_of_ble_eq_true rfl) (Nat.le_of_ble_eq_true rfl) ?_
  refine vx_ret ?_
  exact W.iret hx hb hr (fun t ht hW => qk hP hD hS [1, 2, 3, 4, 5, 6, 7, 8, 0] rfl ((fun k => k), (fun _ _ => none)) rfl rfl rfl ht) hS.2.2 d_L10_19
set_option maxRecDepth 100000 in
set_option maxHeartbeats 4000000 in
theorem c125_BModel_isIn (l : Launch) (z : Zz) (x0 : Int32) (h0 : ¬ x0 < 0) (h1 : ¬ 10000000 < x0) : CT l z ⟨"BallothallModel", "isIn", "(III)Z"⟩ prog_14_method_20_code 3 (some .boolean) [.int x0, .int 0, .int 10000000] [] 0 0 0 0 (fun u => some (.int 1)) (fun u => []) := by
  refine CT.of (own := "BallothallModel") (by decide +kernel) (Nat.le_of_ble_eq_true rfl) rfl (fun p e s m below meth c A ls hx hb hml hr hts hown hlocks hin hA hG hZ hP hD hS hl => ?_)
  have hl : lv_has ls 3 [(0, .int x0), (1, .int 0), (2, .int 10000000)] := hl
  refine lv_iload_n hx hb d_14_20_0 rfl (lv_at hl 0 rfl) ?_
  refine lv_iload_n hx hb d_14_20_1 rfl (lv_at hl 1 rfl) ?_
  refine lv_icmp_lt (tgt := 14) hx hb d_14_20_2 (by decide) (fun c9 => absurd c9 h0) (fun _ => ?_)
  refine lv_iload_n hx hb d_14_20_5 rfl (lv_at hl 0 rfl) ?_
  refine lv_iload_n hx hb d_14_20_6 rfl (lv_at hl 2 rfl) ?_
  refine lv_icmp_gt (tgt := 14) hx hb d_14_20_7 (by decide) (fun c9 => absurd c9 h1) (fun _ => ?_)
  refine lv_iconst (v := 1) hx hb d_14_20_10 (by decide +kernel) ?_
  refine lv_goto (tgt := 15) hx hb d_14_20_11 (by decide) ?_
  refine W.widen (k := 0) (n := 0) (Nat.le_of_ble_eq_true rfl) (Nat.le_of_ble_eq_true rfl) ?_
  exact W.zret hx hb hr rfl (fun t ht hW => qk hP hD hS [] rfl ((fun k => k), (fun _ _ => none)) rfl rfl rfl ht) hS.2.2 d_14_20_15
set_option maxRecDepth 100000 in
set_option maxHeartbeats 4000000 in
theorem c126_BModel_ends (l : Launch) (z : Zz) (a0 a1 a2 a3 a4 : Nat) : CT l z ⟨"BallothallModel", "ends", "(ZI)Z"⟩ prog_14_method_18_code 3 (some .boolean) [.ref a0, .int 1, .int 2] [(a0, .inr (18, [.ref a1, .ref a2, .int 0, .ref a3, .int 0, .ref a4, .int 0, .null, .int 0, .null, .long 0, .int 0, .null]))] 0 0 0 0 (fun u => some (.int 0)) (fun u => [(a0, .inr (18, [.ref a1, .ref a2, .int 0, .ref a3, .int 0, .ref a4, .int 0, .null, .int 0, .null, .long 0, .int 0, .null]))]) := by
  refine CT.of (own := "BallothallModel") (by decide +kernel) (Nat.le_of_ble_eq_true rfl) rfl (fun p e s m below meth c A ls hx hb hml hr hts hown hlocks hin hA hG hZ hP hD hS hl => ?_)
  have hl : lv_has ls 3 [(0, .ref a0), (1, .int 1), (2, .int 2)] := hl
  refine lv_aload_n hx hb d_14_18_0 rfl (lv_at hl 0 rfl) ?_
  refine lv_iload_n hx hb d_14_18_1 rfl (lv_at hl 1 rfl) ?_
  refine lv_if_eq (tgt := 9) hx hb d_14_18_2 (by decide) (fun c9 => absurd c9 (by decide +kernel)) (fun _ => ?_)
  refine lv_iconst (v := 0) hx hb d_14_18_5 (by decide +kernel) ?_
  refine lv_goto (tgt := 10) hx hb d_14_18_6 (by decide) ?_
  refine va_put (D := z.1) (ci := 18) (v := .int 0) (ty := .int) (C := "BallothallModel") (T := TX18) (N := 13) hx hb hts iX18 tyX18 tyX18_ok nmX18 hown hG.1 hP hD hS 0 rfl rfl 6 (by decide) (hts _ w_1651) (fun _ h9 => h9) rfl (by decide +kernel) rfl rfl (Nat.le_of_ble_eq_true rfl) d_14_18_10 (fun H locs hP hD hS => ?_)
  have hP : va_P z.1 classes [(a0, .inr (18, [.ref a1, .ref a2, .int 0, .ref a3, .int 0, .ref a4, .int 0, .null, .int 0, .null, .long 0, .int 0, .null]))] H := hP
  have hD : va_D A [(a0, .inr (18, [.ref a1, .ref a2, .int 0, .ref a3, .int 0, .ref a4, .int 0, .null, .int 0, .null, .long 0, .int 0, .null]))] := hD
  refine lv_iload_n hx hb d_14_18_13 rfl (lv_at hl 1 rfl) ?_
  refine lv_if_ne (tgt := 21) hx hb d_14_18_14 (by decide) (fun _ => ?_) (fun c9 => absurd c9 (by decide +kernel))
  refine lv_iconst (v := 0) hx hb d_14_18_21 (by decide +kernel) ?_
  refine W.widen (k := 0) (n := 0) (Nat.le_of_ble_eq_true rfl) (Nat.le_of_ble_eq_true rfl) ?_
  exact W.zret hx hb hr rfl (fun t ht hW => qk hP hD hS [0] rfl ((fun k => k), (fun _ _ => none)) rfl rfl rfl ht) hS.2.2 d_14_18_22
set_option maxRecDepth 100000 in
set_option maxHeartbeats 4000000 in
theorem c127_BModel_list (l : Launch) (z : Zz) (a0 a1 a2 a3 a4 a5 a6 a7 a8 a9 a10 a11 a12 a13 : Nat) (x0 : Int32) (h0 : ¬ x0 < 0) (h1 : ¬ 10000000 < x0) : CT l z ⟨"BallothallModel", "list", "(I)I"⟩ prog_14_method_38_code 2 (some .int) [.ref a0, .int x0] [(a0, .inr (18, [.ref a1, .ref a2, .int 0, .ref a3, .int 0, .ref a4, .int 0, .null, .int 0, .null, .long 0, .int 0, .null])), (a1, .inr (17, [.int 0, .ref a5, .ref a6, .int 0, .ref a7, .ref a8, .ref a9, .null, .null, .int 0, .ref a10, .ref a11, .ref a12, .int 0, .ref a13, .int 1])), (a5, .inl (z.2 0, 8, .inl (fun _ => 0))), (a7, .inl (z.2 0, 8, .inl (fun _ => 0))), (a8, .inl (z.2 0, 8, .inl (fun _ => 0))), (a9, .inl (z.2 0, 8, .inl (fun _ => 0))), (a10, .inl (z.2 0, 16, .inl (fun _ => 0))), (a11, .inl (z.2 0, 16, .inl (fun _ => 0))), (a12, .inl (z.2 0, 16, .inl (fun _ => 0))), (a13, .inl (z.2 0, 12, .inl (fun _ => 0))), (a2, .inl (z.2 6, 20, .inr (.inr (.inr (.inr (fun _ => none))))))] 4 118 10 108 (fun u => some (.int 0)) (fun u => [(a0, .inr (18, [.ref a1, .ref a2, .int 1, .ref a3, .int 0, .ref a4, .int 0, .null, .int 0, .null, .long 0, .int 0, .null])), (a1, .inr (17, [.int 0, .ref a5, .ref a6, .int 1, .ref a7, .ref a8, .ref a9, .null, .null, .int 0, .ref a10, .ref a11, .ref a12, .int 0, .ref a13, .int 1])), (a5, .inl (z.2 0, 8, .inl (fun _ => 0))), (a7, .inl (z.2 0, 8, .inl (upd (fun _ => 0) 0 x0))), (a8, .inl (z.2 0, 8, .inl (fun _ => 0))), (a9, .inl (z.2 0, 8, .inl (fun _ => 0))), (a10, .inl (z.2 0, 16, .inl (fun _ => 0))), (a11, .inl (z.2 0, 16, .inl (fun _ => 0))), (a12, .inl (z.2 0, 16, .inl (fun _ => 0))), (a13, .inl (z.2 0, 12, .inl (fun _ => 0))), (a2, .inl (z.2 6, 20, .inr (.inr (.inr (.inr (va_up (fun _ => none) 0 (some (u.1 0))))))))]) := by
  refine CT.of (own := "BallothallModel") (by decide +kernel) (Nat.le_of_ble_eq_true rfl) rfl (fun p e s m below meth c A ls hx hb hml hr hts hown hlocks hin hA hG hZ hP hD hS hl => ?_)
  have hl : lv_has ls 2 [(0, .ref a0), (1, .int x0)] := hl
  refine lv_aload_n hx hb d_14_38_0 rfl (lv_at hl 0 rfl) ?_
  refine lv_iload_n hx hb d_14_38_1 rfl (lv_at hl 1 rfl) ?_
  refine lv_iconst (v := 0) hx hb d_14_38_2 (by decide +kernel) ?_
  refine lv_ldc hx hb hown (hts _ w_1812) d_14_38_3 ?_
  refine kS (As := [.int x0, .int 0, .int 10000000]) (rest := [.ref a0]) (wr := [(a0, .inr (18, [.ref a1, .ref a2, .int 0, .ref a3, .int 0, .ref a4, .int 0, .null, .int 0, .null, .long 0, .int 0, .null])), (a1, .inr (17, [.int 0, .ref a5, .ref a6, .int 0, .ref a7, .ref a8, .ref a9, .null, .null, .int 0, .ref a10, .ref a11, .ref a12, .int 0, .ref a13, .int 1])), (a5, .inl (z.2 0, 8, .inl (fun _ => 0))), (a7, .inl (z.2 0, 8, .inl (fun _ => 0))), (a8, .inl (z.2 0, 8, .inl (fun _ => 0))), (a9, .inl (z.2 0, 8, .inl (fun _ => 0))), (a10, .inl (z.2 0, 16, .inl (fun _ => 0))), (a11, .inl (z.2 0, 16, .inl (fun _ => 0))), (a12, .inl (z.2 0, 16, .inl (fun _ => 0))), (a13, .inl (z.2 0, 12, .inl (fun _ => 0))), (a2, .inl (z.2 6, 20, .inr (.inr (.inr (.inr (fun _ => none))))))]) (c125_BModel_isIn l z x0 h0 h1) hx hb hml hown hts w_1718 w_1716 w_1717 w_12 md_bca45c ⟨Nat.le_of_ble_eq_true rfl, Nat.le_of_ble_eq_true rfl⟩ hG hZ hP hD hS hA [] [0, 1, 2, 3, 4, 5, 6, 7, 8, 9, 10] rfl rfl rfl rfl rfl hl.1 rfl (Nat.le_of_ble_eq_true rfl) d_14_38_5 ⟨Nat.le_of_ble_eq_true rfl, Nat.le_of_ble_eq_true rfl⟩ (fun u0 H locs hP hD hS => ?_)
  have hP : va_P z.1 classes [(a0, .inr (18, [.ref a1, .ref a2, .int 0, .ref a3, .int 0, .ref a4, .int 0, .null, .int 0, .null, .long 0, .int 0, .null])), (a1, .inr (17, [.int 0, .ref a5, .ref a6, .int 0, .ref a7, .ref a8, .ref a9, .null, .null, .int 0, .ref a10, .ref a11, .ref a12, .int 0, .ref a13, .int 1])), (a5, .inl (z.2 0, 8, .inl (fun _ => 0))), (a7, .inl (z.2 0, 8, .inl (fun _ => 0))), (a8, .inl (z.2 0, 8, .inl (fun _ => 0))), (a9, .inl (z.2 0, 8, .inl (fun _ => 0))), (a10, .inl (z.2 0, 16, .inl (fun _ => 0))), (a11, .inl (z.2 0, 16, .inl (fun _ => 0))), (a12, .inl (z.2 0, 16, .inl (fun _ => 0))), (a13, .inl (z.2 0, 12, .inl (fun _ => 0))), (a2, .inl (z.2 6, 20, .inr (.inr (.inr (.inr (fun _ => none))))))] H := hP
  have hD : va_D A [(a0, .inr (18, [.ref a1, .ref a2, .int 0, .ref a3, .int 0, .ref a4, .int 0, .null, .int 0, .null, .long 0, .int 0, .null])), (a1, .inr (17, [.int 0, .ref a5, .ref a6, .int 0, .ref a7, .ref a8, .ref a9, .null, .null, .int 0, .ref a10, .ref a11, .ref a12, .int 0, .ref a13, .int 1])), (a5, .inl (z.2 0, 8, .inl (fun _ => 0))), (a7, .inl (z.2 0, 8, .inl (fun _ => 0))), (a8, .inl (z.2 0, 8, .inl (fun _ => 0))), (a9, .inl (z.2 0, 8, .inl (fun _ => 0))), (a10, .inl (z.2 0, 16, .inl (fun _ => 0))), (a11, .inl (z.2 0, 16, .inl (fun _ => 0))), (a12, .inl (z.2 0, 16, .inl (fun _ => 0))), (a13, .inl (z.2 0, 12, .inl (fun _ => 0))), (a2, .inl (z.2 6, 20, .inr (.inr (.inr (.inr (fun _ => none))))))] := hD
  refine W.eq (g2 := F0 m 8 ls [.int 1, .ref a0]) rfl ?_
  refine lv_iconst (v := 1) hx hb d_14_38_8 (by decide +kernel) ?_
  refine kV (As := [.int 1, .int 1]) (rest := []) (wr := [(a1, .inr (17, [.int 0, .ref a5, .ref a6, .int 0, .ref a7, .ref a8, .ref a9, .null, .null, .int 0, .ref a10, .ref a11, .ref a12, .int 0, .ref a13, .int 1])), (a5, .inl (z.2 0, 8, .inl (fun _ => 0))), (a7, .inl (z.2 0, 8, .inl (fun _ => 0))), (a8, .inl (z.2 0, 8, .inl (fun _ => 0))), (a9, .inl (z.2 0, 8, .inl (fun _ => 0))), (a10, .inl (z.2 0, 16, .inl (fun _ => 0))), (a11, .inl (z.2 0, 16, .inl (fun _ => 0))), (a12, .inl (z.2 0, 16, .inl (fun _ => 0))), (a13, .inl (z.2 0, 12, .inl (fun _ => 0))), (a2, .inl (z.2 6, 20, .inr (.inr (.inr (.inr (fun _ => none))))))]) (c16_BModel_ends l z a0 a1 a2 a3 a4) hx hb hml hown hts w_1696 w_1693 w_1695 w_s_f8f2b7 w_12 md_77b0f8 ⟨Nat.le_of_ble_eq_true rfl, Nat.le_of_ble_eq_true rfl⟩ hG hZ hP hD hS hA 0 rfl rfl rfl [0] [1, 2, 3, 4, 5, 6, 7, 8, 9, 10] rfl rfl rfl rfl rfl hl.1 rfl (Nat.le_of_ble_eq_true rfl) d_14_38_9 ⟨Nat.le_of_ble_eq_true rfl, Nat.le_of_ble_eq_true rfl⟩ (fun u1 H locs hP hD hS => ?_)
  have hP : va_P z.1 classes [(a1, .inr (17, [.int 0, .ref a5, .ref a6, .int 0, .ref a7, .ref a8, .ref a9, .null, .null, .int 0, .ref a10, .ref a11, .ref a12, .int 0, .ref a13, .int 1])), (a5, .inl (z.2 0, 8, .inl (fun _ => 0))), (a7, .inl (z.2 0, 8, .inl (fun _ => 0))), (a8, .inl (z.2 0, 8, .inl (fun _ => 0))), (a9, .inl (z.2 0, 8, .inl (fun _ => 0))), (a10, .inl (z.2 0, 16, .inl (fun _ => 0))), (a11, .inl (z.2 0, 16, .inl (fun _ => 0))), (a12, .inl (z.2 0, 16, .inl (fun _ => 0))), (a13, .inl (z.2 0, 12, .inl (fun _ => 0))), (a2, .inl (z.2 6, 20, .inr (.inr (.inr (.inr (fun _ => none)))))), (a0, .inr (18, [.ref a1, .ref a2, .int 0, .ref a3, .int 0, .ref a4, .int 0, .null, .int 0, .null, .long 0, .int 0, .null]))] H := hP
  have hD : va_D A [(a1, .inr (17, [.int 0, .ref a5, .ref a6, .int 0, .ref a7, .ref a8, .ref a9, .null, .null, .int 0, .ref a10, .ref a11, .ref a12, .int 0, .ref a13, .int 1])), (a5, .inl (z.2 0, 8, .inl (fun _ => 0))), (a7, .inl (z.2 0, 8, .inl (fun _ => 0))), (a8, .inl (z.2 0, 8, .inl (fun _ => 0))), (a9, .inl (z.2 0, 8, .inl (fun _ => 0))), (a10, .inl (z.2 0, 16, .inl (fun _ => 0))), (a11, .inl (z.2 0, 16, .inl (fun _ => 0))), (a12, .inl (z.2 0, 16, .inl (fun _ => 0))), (a13, .inl (z.2 0, 12, .inl (fun _ => 0))), (a2, .inl (z.2 6, 20, .inr (.inr (.inr (.inr (fun _ => none)))))), (a0, .inr (18, [.ref a1, .ref a2, .int 0, .ref a3, .int 0, .ref a4, .int 0, .null, .int 0, .null, .long 0, .int 0, .null]))] := hD
  refine W.eq (g2 := F0 m 12 ls [.int 0]) rfl ?_
  refine lv_if_ne (tgt := 40) hx hb d_14_38_12 (by decide) (fun c9 => absurd (by decide +kernel) c9) (fun _ => ?_)
  refine lv_aload_n hx hb d_14_38_15 rfl (lv_at hl 0 rfl) ?_
  refine lv_aload_n hx hb d_14_38_16 rfl (lv_at hl 0 rfl) ?_
  refine va_get (D := z.1) (ci := 18) (v := .ref a1) (C := "BallothallModel") (T := TX18) (N := 13) hx hb hts iX18 hown hG.1 hP 10 rfl rfl 0 (by decide) (hts _ w_1645) (fun _ h9 => h9) rfl d_14_38_17 ?_
  refine va_getN (D := z.1) (ci := 17) (v := .int 0) (C := "BallothallModel$State") (T := TX17) (N := 16) hx hb hts iX17 hown hG.1 hP 0 rfl rfl 3 (by decide) (va_Nw.use rfl (hG.2.1 _ n_1586 rfl)) (fun _ h9 => h9) rfl d_14_38_20 ?_
  refine lv_bipush (v := 8) hx hb d_14_38_23 (by decide +kernel) ?_
  refine lv_icmp_ge (tgt := 32) hx hb d_14_38_25 (by decide) (fun c9 => absurd c9 (by decide +kernel)) (fun _ => ?_)
  refine lv_iconst (v := 1) hx hb d_14_38_28 (by decide +kernel) ?_
  refine lv_goto (tgt := 33) hx hb d_14_38_29 (by decide) ?_
  refine lv_iconst (v := 2) hx hb d_14_38_33 (by decide +kernel) ?_
  refine kV (As := [.int 1, .int 2]) (rest := []) (wr := [(a1, .inr (17, [.int 0, .ref a5, .ref a6, .int 0, .ref a7, .ref a8, .ref a9, .null, .null, .int 0, .ref a10, .ref a11, .ref a12, .int 0, .ref a13, .int 1])), (a5, .inl (z.2 0, 8, .inl (fun _ => 0))), (a7, .inl (z.2 0, 8, .inl (fun _ => 0))), (a8, .inl (z.2 0, 8, .inl (fun _ => 0))), (a9, .inl (z.2 0, 8, .inl (fun _ => 0))), (a10, .inl (z.2 0, 16, .inl (fun _ => 0))), (a11, .inl (z.2 0, 16, .inl (fun _ => 0))), (a12, .inl (z.2 0, 16, .inl (fun _ => 0))), (a13, .inl (z.2 0, 12, .inl (fun _ => 0))), (a2, .inl (z.2 6, 20, .inr (.inr (.inr (.inr (fun _ => none))))))]) (c126_BModel_ends l z a0 a1 a2 a3 a4) hx hb hml hown hts w_1696 w_1693 w_1695 w_s_f8f2b7 w_12 md_77b0f8 ⟨Nat.le_of_ble_eq_true rfl, Nat.le_of_ble_eq_true rfl⟩ hG hZ hP hD hS hA 10 rfl rfl rfl [10] [0, 1, 2, 3, 4, 5, 6, 7, 8, 9] rfl rfl rfl rfl rfl hl.1 rfl (Nat.le_of_ble_eq_true rfl) d_14_38_34 ⟨Nat.le_of_ble_eq_true rfl, Nat.le_of_ble_eq_true rfl⟩ (fun u2 H locs hP hD hS => ?_)
  have hP : va_P z.1 classes [(a1, .inr (17, [.int 0, .ref a5, .ref a6, .int 0, .ref a7, .ref a8, .ref a9, .null, .null, .int 0, .ref a10, .ref a11, .ref a12, .int 0, .ref a13, .int 1])), (a5, .inl (z.2 0, 8, .inl (fun _ => 0))), (a7, .inl (z.2 0, 8, .inl (fun _ => 0))), (a8, .inl (z.2 0, 8, .inl (fun _ => 0))), (a9, .inl (z.2 0, 8, .inl (fun _ => 0))), (a10, .inl (z.2 0, 16, .inl (fun _ => 0))), (a11, .inl (z.2 0, 16, .inl (fun _ => 0))), (a12, .inl (z.2 0, 16, .inl (fun _ => 0))), (a13, .inl (z.2 0, 12, .inl (fun _ => 0))), (a2, .inl (z.2 6, 20, .inr (.inr (.inr (.inr (fun _ => none)))))), (a0, .inr (18, [.ref a1, .ref a2, .int 0, .ref a3, .int 0, .ref a4, .int 0, .null, .int 0, .null, .long 0, .int 0, .null]))] H := hP
  have hD : va_D A [(a1, .inr (17, [.int 0, .ref a5, .ref a6, .int 0, .ref a7, .ref a8, .ref a9, .null, .null, .int 0, .ref a10, .ref a11, .ref a12, .int 0, .ref a13, .int 1])), (a5, .inl (z.2 0, 8, .inl (fun _ => 0))), (a7, .inl (z.2 0, 8, .inl (fun _ => 0))), (a8, .inl (z.2 0, 8, .inl (fun _ => 0))), (a9, .inl (z.2 0, 8, .inl (fun _ => 0))), (a10, .inl (z.2 0, 16, .inl (fun _ => 0))), (a11, .inl (z.2 0, 16, .inl (fun _ => 0))), (a12, .inl (z.2 0, 16, .inl (fun _ => 0))), (a13, .inl (z.2 0, 12, .inl (fun _ => 0))), (a2, .inl (z.2 6, 20, .inr (.inr (.inr (.inr (fun _ => none)))))), (a0, .inr (18, [.ref a1, .ref a2, .int 0, .ref a3, .int 0, .ref a4, .int 0, .null, .int 0, .null, .long 0, .int 0, .null]))] := hD
  refine W.eq (g2 := F0 m 37 ls [.int 0]) rfl ?_
  refine lv_if_eq (tgt := 42) hx hb d_14_38_37 (by decide) (fun _ => ?_) (fun c9 => absurd (by decide +kernel) c9)
  refine lv_aload_n hx hb d_14_38_42 rfl (lv_at hl 0 rfl) ?_
  refine kV (As := []) (rest := []) (wr := []) (c23_BModel_keeps l z a0 a1 a2 a3 a4 a5 a6 a7 a8 a9 a10 a11 a12 a13) hx hb hml hown hts w_1700 w_1697 w_1699 w_s_6545fc w_12 md_85dc6a ⟨Nat.le_of_ble_eq_true rfl, Nat.le_of_ble_eq_true rfl⟩ hG hZ hP hD hS hA 10 rfl rfl rfl [10, 0, 1, 2, 3, 4, 5, 6, 7, 8, 9] [] rfl rfl rfl rfl rfl hl.1 rfl (Nat.le_of_ble_eq_true rfl) d_14_38_43 ⟨Nat.le_of_ble_eq_true rfl, Nat.le_of_ble_eq_true rfl⟩ (fun u3 H locs hP hD hS => ?_)
  have hP : va_P z.1 classes [(a0, .inr (18, [.ref a1, .ref a2, .int 1, .ref a3, .int 0, .ref a4, .int 0, .null, .int 0, .null, .long 0, .int 0, .null])), (a1, .inr (17, [.int 0, .ref a5, .ref a6, .int 0, .ref a7, .ref a8, .ref a9, .null, .null, .int 0, .ref a10, .ref a11, .ref a12, .int 0, .ref a13, .int 1])), (a5, .inl (z.2 0, 8, .inl (fun _ => 0))), (a7, .inl (z.2 0, 8, .inl (fun _ => 0))), (a8, .inl (z.2 0, 8, .inl (fun _ => 0))), (a9, .inl (z.2 0, 8, .inl (fun _ => 0))), (a10, .inl (z.2 0, 16, .inl (fun _ => 0))), (a11, .inl (z.2 0, 16, .inl (fun _ => 0))), (a12, .inl (z.2 0, 16, .inl (fun _ => 0))), (a13, .inl (z.2 0, 12, .inl (fun _ => 0))), (a2, .inl (z.2 6, 20, .inr (.inr (.inr (.inr (va_up (fun _ => none) 0 (some (u3.1 0))))))))] H := hP
  have hD : va_D A [(a0, .inr (18, [.ref a1, .ref a2, .int 1, .ref a3, .int 0, .ref a4, .int 0, .null, .int 0, .null, .long 0, .int 0, .null])), (a1, .inr (17, [.int 0, .ref a5, .ref a6, .int 0, .ref a7, .ref a8, .ref a9, .null, .null, .int 0, .ref a10, .ref a11, .ref a12, .int 0, .ref a13, .int 1])), (a5, .inl (z.2 0, 8, .inl (fun _ => 0))), (a7, .inl (z.2 0, 8, .inl (fun _ => 0))), (a8, .inl (z.2 0, 8, .inl (fun _ => 0))), (a9, .inl (z.2 0, 8, .inl (fun _ => 0))), (a10, .inl (z.2 0, 16, .inl (fun _ => 0))), (a11, .inl (z.2 0, 16, .inl (fun _ => 0))), (a12, .inl (z.2 0, 16, .inl (fun _ => 0))), (a13, .inl (z.2 0, 12, .inl (fun _ => 0))), (a2, .inl (z.2 6, 20, .inr (.inr (.inr (.inr (va_up (fun _ => none) 0 (some (u3.1 0))))))))] := hD
  refine W.eq (g2 := F0 m 46 ls []) rfl ?_
  refine lv_aload_n hx hb d_14_38_46 rfl (lv_at hl 0 rfl) ?_
  refine va_get (D := z.1) (ci := 18) (v := .ref a1) (C := "BallothallModel") (T := TX18) (N := 13) hx hb hts iX18 hown hG.1 hP 0 rfl rfl 0 (by decide) (hts _ w_1645) (fun _ h9 => h9) rfl d_14_38_47 ?_
  refine va_getN (D := z.1) (ci := 17) (v := .ref a7) (C := "BallothallModel$State") (T := TX17) (N := 16) hx hb hts iX17 hown hG.1 hP 1 rfl rfl 4 (by decide) (va_Nw.use rfl (hG.2.1 _ n_1588 rfl)) (fun _ h9 => h9) rfl d_14_38_50 ?_
  refine lv_aload_n hx hb d_14_38_53 rfl (lv_at hl 0 rfl) ?_
  refine va_get (D := z.1) (ci := 18) (v := .ref a1) (C := "BallothallModel") (T := TX18) (N := 13) hx hb hts iX18 hown hG.1 hP 0 rfl rfl 0 (by decide) (hts _ w_1645) (fun _ h9 => h9) rfl d_14_38_54 ?_
  refine va_getN (D := z.1) (ci := 17) (v := .int 0) (C := "BallothallModel$State") (T := TX17) (N := 16) hx hb hts iX17 hown hG.1 hP 1 rfl rfl 3 (by decide) (va_Nw.use rfl (hG.2.1 _ n_1586 rfl)) (fun _ h9 => h9) rfl d_14_38_57 ?_
  refine lv_iload_n hx hb d_14_38_60 rfl (lv_at hl 1 rfl) ?_
  refine va_iast hx hb hG.1 hP hD hS 3 0 rfl rfl (vin rfl) d_14_38_61 (fun H locs hP hD hS => ?_)
  have hP : va_P z.1 classes [(a0, .inr (18, [.ref a1, .ref a2, .int 1, .ref a3, .int 0, .ref a4, .int 0, .null, .int 0, .null, .long 0, .int 0, .null])), (a1, .inr (17, [.int 0, .ref a5, .ref a6, .int 0, .ref a7, .ref a8, .ref a9, .null, .null, .int 0, .ref a10, .ref a11, .ref a12, .int 0, .ref a13, .int 1])), (a5, .inl (z.2 0, 8, .inl (fun _ => 0))), (a7, .inl (z.2 0, 8, .inl (upd (fun _ => 0) 0 x0))), (a8, .inl (z.2 0, 8, .inl (fun _ => 0))), (a9, .inl (z.2 0, 8, .inl (fun _ => 0))), (a10, .inl (z.2 0, 16, .inl (fun _ => 0))), (a11, .inl (z.2 0, 16, .inl (fun _ => 0))), (a12, .inl (z.2 0, 16, .inl (fun _ => 0))), (a13, .inl (z.2 0, 12, .inl (fun _ => 0))), (a2, .inl (z.2 6, 20, .inr (.inr (.inr (.inr (va_up (fun _ => none) 0 (some (u3.1 0))))))))] H := hP
  have hD : va_D A [(a0, .inr (18, [.ref a1, .ref a2, .int 1, .ref a3, .int 0, .ref a4, .int 0, .null, .int 0, .null, .long 0, .int 0, .null])), (a1, .inr (17, [.int 0, .ref a5, .ref a6, .int 0, .ref a7, .ref a8, .ref a9, .null, .null, .int 0, .ref a10, .ref a11, .ref a12, .int 0, .ref a13, .int 1])), (a5, .inl (z.2 0, 8, .inl (fun _ => 0))), (a7, .inl (z.2 0, 8, .inl (upd (fun _ => 0) 0 x0))), (a8, .inl (z.2 0, 8, .inl (fun _ => 0))), (a9, .inl (z.2 0, 8, .inl (fun _ => 0))), (a10, .inl (z.2 0, 16, .inl (fun _ => 0))), (a11, .inl (z.2 0, 16, .inl (fun _ => 0))), (a12, .inl (z.2 0, 16, .inl (fun _ => 0))), (a13, .inl (z.2 0, 12, .inl (fun _ => 0))), (a2, .inl (z.2 6, 20, .inr (.inr (.inr (.inr (va_up (fun _ => none) 0 (some (u3.1 0))))))))] := hD
  refine lv_aload_n hx hb d_14_38_62 rfl (lv_at hl 0 rfl) ?_
  refine va_get (D := z.1) (ci := 18) (v := .ref a1) (C := "BallothallModel") (T := TX18) (N := 13) hx hb hts iX18 hown hG.1 hP 0 rfl rfl 0 (by decide) (hts _ w_1645) (fun _ h9 => h9) rfl d_14_38_63 ?_
  refine va_getN (D := z.1) (ci := 17) (v := .ref a8) (C := "BallothallModel$State") (T := TX17) (N := 16) hx hb hts iX17 hown hG.1 hP 1 rfl rfl 5 (by decide) (va_Nw.use rfl (hG.2.1 _ n_1590 rfl)) (fun _ h9 => h9) rfl d_14_38_66 ?_
  refine lv_aload_n hx hb d_14_38_69 rfl (lv_at hl 0 rfl) ?_
  refine va_get (D := z.1) (ci := 18) (v := .ref a1) (C := "BallothallModel") (T := TX18) (N := 13) hx hb hts iX18 hown hG.1 hP 0 rfl rfl 0 (by decide) (hts _ w_1645) (fun _ h9 => h9) rfl d_14_38_70 ?_
  refine va_getN (D := z.1) (ci := 17) (v := .int 0) (C := "BallothallModel$State") (T := TX17) (N := 16) hx hb hts iX17 hown hG.1 hP 1 rfl rfl 3 (by decide) (va_Nw.use rfl (hG.2.1 _ n_1586 rfl)) (fun _ h9 => h9) rfl d_14_38_73 ?_
  refine lv_iconst (v := 0) hx hb d_14_38_76 (by decide +kernel) ?_
  refine va_iast hx hb hG.1 hP hD hS 4 0 rfl rfl (vin rfl) d_14_38_77 (fun H locs hP hD hS => ?_)
  rw [upd_z] at hP hD
  have hP : va_P z.1 classes [(a0, .inr (18, [.ref a1, .ref a2, .int 1, .ref a3, .int 0, .ref a4, .int 0, .null, .int 0, .null, .long 0, .int 0, .null])), (a1, .inr (17, [.int 0, .ref a5, .ref a6, .int 0, .ref a7, .ref a8, .ref a9, .null, .null, .int 0, .ref a10, .ref a11, .ref a12, .int 0, .ref a13, .int 1])), (a5, .inl (z.2 0, 8, .inl (fun _ => 0))), (a7, .inl (z.2 0, 8, .inl (upd (fun _ => 0) 0 x0))), (a8, .inl (z.2 0, 8, .inl (fun _ => 0))), (a9, .inl (z.2 0, 8, .inl (fun _ => 0))), (a10, .inl (z.2 0, 16, .inl (fun _ => 0))), (a11, .inl (z.2 0, 16, .inl (fun _ => 0))), (a12, .inl (z.2 0, 16, .inl (fun _ => 0))), (a13, .inl (z.2 0, 12, .inl (fun _ => 0))), (a2, .inl (z.2 6, 20, .inr (.inr (.inr (.inr (va_up (fun _ => none) 0 (some (u3.1 0))))))))] H := hP
  have hD : va_D A [(a0, .inr (18, [.ref a1, .ref a2, .int 1, .ref a3, .int 0, .ref a4, .int 0, .null, .int 0, .null, .long 0, .int 0, .null])), (a1, .inr (17, [.int 0, .ref a5, .ref a6, .int 0, .ref a7, .ref a8, .ref a9, .null, .null, .int 0, .ref a10, .ref a11, .ref a12, .int 0, .ref a13, .int 1])), (a5, .inl (z.2 0, 8, .inl (fun _ => 0))), (a7, .inl (z.2 0, 8, .inl (upd (fun _ => 0) 0 x0))), (a8, .inl (z.2 0, 8, .inl (fun _ => 0))), (a9, .inl (z.2 0, 8, .inl (fun _ => 0))), (a10, .inl (z.2 0, 16, .inl (fun _ => 0))), (a11, .inl (z.2 0, 16, .inl (fun _ => 0))), (a12, .inl (z.2 0, 16, .inl (fun _ => 0))), (a13, .inl (z.2 0, 12, .inl (fun _ => 0))), (a2, .inl (z.2 6, 20, .inr (.inr (.inr (.inr (va_up (fun _ => none) 0 (some (u3.1 0))))))))] := hD
  refine lv_aload_n hx hb d_14_38_78 rfl (lv_at hl 0 rfl) ?_
  refine va_get (D := z.1) (ci := 18) (v := .ref a1) (C := "BallothallModel") (T := TX18) (N := 13) hx hb hts iX18 hown hG.1 hP 0 rfl rfl 0 (by decide) (hts _ w_1645) (fun _ h9 => h9) rfl d_14_38_79 ?_
  refine va_getN (D := z.1) (ci := 17) (v := .ref a9) (C := "BallothallModel$State") (T := TX17) (N := 16) hx hb hts iX17 hown hG.1 hP 1 rfl rfl 6 (by decide) (va_Nw.use rfl (hG.2.1 _ n_1592 rfl)) (fun _ h9 => h9) rfl d_14_38_82 ?_
  refine lv_aload_n hx hb d_14_38_85 rfl (lv_at hl 0 rfl) ?_
  refine va_get (D := z.1) (ci := 18) (v := .ref a1) (C := "BallothallModel") (T := TX18) (N := 13) hx hb hts iX18 hown hG.1 hP 0 rfl rfl 0 (by decide) (hts _ w_1645) (fun _ h9 => h9) rfl d_14_38_86 ?_
  refine va_getN (D := z.1) (ci := 17) (v := .int 0) (C := "BallothallModel$State") (T := TX17) (N := 16) hx hb hts iX17 hown hG.1 hP 1 rfl rfl 3 (by decide) (va_Nw.use rfl (hG.2.1 _ n_1586 rfl)) (fun _ h9 => h9) rfl d_14_38_89 ?_
  refine lv_aload_n hx hb d_14_38_92 rfl (lv_at hl 0 rfl) ?_
  refine va_get (D := z.1) (ci := 18) (v := .ref a1) (C := "BallothallModel") (T := TX18) (N := 13) hx hb hts iX18 hown hG.1 hP 0 rfl rfl 0 (by decide) (hts _ w_1645) (fun _ h9 => h9) rfl d_14_38_93 ?_
  refine va_getN (D := z.1) (ci := 17) (v := .int 0) (C := "BallothallModel$State") (T := TX17) (N := 16) hx hb hts iX17 hown hG.1 hP 1 rfl rfl 3 (by decide) (va_Nw.use rfl (hG.2.1 _ n_1586 rfl)) (fun _ h9 => h9) rfl d_14_38_96 ?_
  refine va_iast hx hb hG.1 hP hD hS 5 0 rfl rfl (vin rfl) d_14_38_99 (fun H locs hP hD hS => ?_)
  rw [upd_z] at hP hD
  have hP : va_P z.1 classes [(a0, .inr (18, [.ref a1, .ref a2, .int 1, .ref a3, .int 0, .ref a4, .int 0, .null, .int 0, .null, .long 0, .int 0, .null])), (a1, .inr (17, [.int 0, .ref a5, .ref a6, .int 0, .ref a7, .ref a8, .ref a9, .null, .null, .int 0, .ref a10, .ref a11, .ref a12, .int 0, .ref a13, .int 1])), (a5, .inl (z.2 0, 8, .inl (fun _ => 0))), (a7, .inl (z.2 0, 8, .inl (upd (fun _ => 0) 0 x0))), (a8, .inl (z.2 0, 8, .inl (fun _ => 0))), (a9, .inl (z.2 0, 8, .inl (fun _ => 0))), (a10, .inl (z.2 0, 16, .inl (fun _ => 0))), (a11, .inl (z.2 0, 16, .inl (fun _ => 0))), (a12, .inl (z.2 0, 16, .inl (fun _ => 0))), (a13, .inl (z.2 0, 12, .inl (fun _ => 0))), (a2, .inl (z.2 6, 20, .inr (.inr (.inr (.inr (va_up (fun _ => none) 0 (some (u3.1 0))))))))] H := hP
  have hD : va_D A [(a0, .inr (18, [.ref a1, .ref a2, .int 1, .ref a3, .int 0, .ref a4, .int 0, .null, .int 0, .null, .long 0, .int 0, .null])), (a1, .inr (17, [.int 0, .ref a5, .ref a6, .int 0, .ref a7, .ref a8, .ref a9, .null, .null, .int 0, .ref a10, .ref a11, .ref a12, .int 0, .ref a13, .int 1])), (a5, .inl (z.2 0, 8, .inl (fun _ => 0))), (a7, .inl (z.2 0, 8, .inl (upd (fun _ => 0) 0 x0))), (a8, .inl (z.2 0, 8, .inl (fun _ => 0))), (a9, .inl (z.2 0, 8, .inl (fun _ => 0))), (a10, .inl (z.2 0, 16, .inl (fun _ => 0))), (a11, .inl (z.2 0, 16, .inl (fun _ => 0))), (a12, .inl (z.2 0, 16, .inl (fun _ => 0))), (a13, .inl (z.2 0, 12, .inl (fun _ => 0))), (a2, .inl (z.2 6, 20, .inr (.inr (.inr (.inr (va_up (fun _ => none) 0 (some (u3.1 0))))))))] := hD
  refine lv_aload_n hx hb d_14_38_100 rfl (lv_at hl 0 rfl) ?_
  refine va_get (D := z.1) (ci := 18) (v := .ref a1) (C := "BallothallModel") (T := TX18) (N := 13) hx hb hts iX18 hown hG.1 hP 0 rfl rfl 0 (by decide) (hts _ w_1645) (fun _ h9 => h9) rfl d_14_38_101 ?_
  refine lv_dup hx hb d_14_38_104 rfl ?_
  refine va_getN (D := z.1) (ci := 17) (v := .int 0) (C := "BallothallModel$State") (T := TX17) (N := 16) hx hb hts iX17 hown hG.1 hP 1 rfl rfl 3 (by decide) (va_Nw.use rfl (hG.2.1 _ n_1586 rfl)) (fun _ h9 => h9) rfl d_14_38_105 ?_
  refine lv_iconst (v := 1) hx hb d_14_38_108 (by decide +kernel) ?_
  refine lv_iadd hx hb d_14_38_109 ?_
  refine nrm (x1 := 1) (by decide +kernel) ?_
  refine va_putN (D := z.1) (ci := 17) (v := .int 1) (ty := .int) (C := "BallothallModel$State") (T := TX17) (N := 16) hx hb hts iX17 tyX17 tyX17_ok nmX17 hown hG.1 hP hD hS 1 rfl rfl 3 (by decide) (va_Nw.use rfl (hG.2.1 _ n_1586 rfl)) (fun _ h9 => h9) rfl (by decide +kernel) rfl rfl (Nat.le_of_ble_eq_true rfl) d_14_38_110 (fun H locs hP hD hS => ?_)
  have hP : va_P z.1 classes [(a0, .inr (18, [.ref a1, .ref a2, .int 1, .ref a3, .int 0, .ref a4, .int 0, .null, .int 0, .null, .long 0, .int 0, .null])), (a1, .inr (17, [.int 0, .ref a5, .ref a6, .int 1, .ref a7, .ref a8, .ref a9, .null, .null, .int 0, .ref a10, .ref a11, .ref a12, .int 0, .ref a13, .int 1])), (a5, .inl (z.2 0, 8, .inl (fun _ => 0))), (a7, .inl (z.2 0, 8, .inl (upd (fun _ => 0) 0 x0))), (a8, .inl (z.2 0, 8, .inl (fun _ => 0))), (a9, .inl (z.2 0, 8, .inl (fun _ => 0))), (a10, .inl (z.2 0, 16, .inl (fun _ => 0))), (a11, .inl (z.2 0, 16, .inl (fun _ => 0))), (a12, .inl (z.2 0, 16, .inl (fun _ => 0))), (a13, .inl (z.2 0, 12, .inl (fun _ => 0))), (a2, .inl (z.2 6, 20, .inr (.inr (.inr (.inr (va_up (fun _ => none) 0 (some (u3.1 0))))))))] H := hP
  have hD : va_D A [(a0, .inr (18, [.ref a1, .ref a2, .int 1, .ref a3, .int 0, .ref a4, .int 0, .null, .int 0, .null, .long 0, .int 0, .null])), (a1, .inr (17, [.int 0, .ref a5, .ref a6, .int 1, .ref a7, .ref a8, .ref a9, .null, .null, .int 0, .ref a10, .ref a11, .ref a12, .int 0, .ref a13, .int 1])), (a5, .inl (z.2 0, 8, .inl (fun _ => 0))), (a7, .inl (z.2 0, 8, .inl (upd (fun _ => 0) 0 x0))), (a8, .inl (z.2 0, 8, .inl (fun _ => 0))), (a9, .inl (z.2 0, 8, .inl (fun _ => 0))), (a10, .inl (z.2 0, 16, .inl (fun _ => 0))), (a11, .inl (z.2 0, 16, .inl (fun _ => 0))), (a12, .inl (z.2 0, 16, .inl (fun _ => 0))), (a13, .inl (z.2 0, 12, .inl (fun _ => 0))), (a2, .inl (z.2 6, 20, .inr (.inr (.inr (.inr (va_up (fun _ => none) 0 (some (u3.1 0))))))))] := hD
  refine lv_aload_n hx hb d_14_38_113 rfl (lv_at hl 0 rfl) ?_
  refine va_get (D := z.1) (ci := 18) (v := .ref a1) (C := "BallothallModel") (T := TX18) (N := 13) hx hb hts iX18 hown hG.1 hP 0 rfl rfl 0 (by decide) (hts _ w_1645) (fun _ h9 => h9) rfl d_14_38_114 ?_
  refine va_getN (D := z.1) (ci := 17) (v := .int 1) (C := "BallothallModel$State") (T := TX17) (N := 16) hx hb hts iX17 hown hG.1 hP 1 rfl rfl 3 (by decide) (va_Nw.use rfl (hG.2.1 _ n_1586 rfl)) (fun _ h9 => h9) rfl d_14_38_117 ?_
  refine lv_iconst (v := 1) hx hb d_14_38_120 (by decide +kernel) ?_
  refine lv_isub hx hb d_14_38_121 ?_
  refine nrm (x1 := 0) (by decide +kernel) ?_
  refine W.widen (k := 10) (n := 108) (Nat.le_of_ble_eq_true rfl) (Nat.le_of_ble_eq_true rfl) ?_
  exact W.iret hx hb hr (fun t ht hW => qk hP hD hS [0, 1, 2, 3, 4, 5, 6, 7, 8, 9, 10] rfl ((fun k => ([(u3.1 0)] : List Nat).getD k 0), (fun _ _ => none)) rfl rfl rfl ht) hS.2.2 d_14_38_122
set_option maxRecDepth 100000 in
set_option maxHeartbeats 4000000 in
theorem c128_B_setVotes (l : Launch) (z : Zz) (hl0 : l.stackTraces = false) (a0 a1 a2 a3 a4 a5 a6 a7 a8 a9 a10 a11 a12 a13 a14 a15 a16 a17 a18 a19 : Nat) (x0 : Int32) (x1 : Int32) (h0 : x0 < 0) : XT l z ⟨"Ballothall", "setVotes", "(II)I"⟩ prog_1_method_11_code 4 (some .int) [.ref a0, .int x0, .int x1] [(a0, .inr (11, [.ref a1, .ref a2, .ref a3, .ref a4, .ref a5, .ref a6, .ref a7, .ref a8, .ref a9, .ref a10, .int 0, .int 0, .ref a11, .int 0])), (a4, .inr (7, [.int 0, .ref a12, .ref a13, .ref a14, .ref a15, .ref a16, .int 0, .ref a17, .ref a18, .ref a19, .int 0]))] 7 127 1 6 "java/lang/IndexOutOfBoundsException" := by
  refine XT.of (own := "Ballothall") (by decide +kernel) (Nat.le_of_ble_eq_true rfl) rfl (fun p e s m below meth c A ls hx hb hml hr hts hown hlocks hin hA hG hZ hP hD hS hl hnt => ?_)
  have hl : lv_has ls 4 [(0, .ref a0), (1, .int x0), (2, .int x1)] := hl
  refine lv_iload_n hx hb d_1_11_0 rfl (lv_at hl 1 rfl) ?_
  refine lv_aload_n hx hb d_1_11_1 rfl (lv_at hl 0 rfl) ?_
  refine va_get (D := z.1) (ci := 11) (v := .ref a4) (C := "Ballothall") (T := TX11) (N := 14) hx hb hts iX11 hown hG.1 hP 0 rfl rfl 3 (by decide) (hts _ w_409) (fun _ h9 => h9) rfl d_1_11_2 ?_
  refine va_getN (D := z.1) (ci := 7) (v := .int 0) (C := "Ballothall$Lists") (T := TX7) (N := 11) hx hb hts iX7 hown hG.1 hP 1 rfl rfl 0 (by decide) (va_Nw.use rfl (hG.2.1 _ n_250 rfl)) (fun _ h9 => h9) rfl d_1_11_5 ?_
  exact xS (As := [.int x0, .int 0]) (rest := []) (wr := [(a0, .inr (11, [.ref a1, .ref a2, .ref a3, .ref a4, .ref a5, .ref a6, .ref a7, .ref a8, .ref a9, .ref a10, .int 0, .int 0, .ref a11, .int 0])), (a4, .inr (7, [.int 0, .ref a12, .ref a13, .ref a14, .ref a15, .ref a16, .int 0, .ref a17, .ref a18, .ref a19, .int 0]))]) (c26_B_needIndex l z hl0 x0 h0) hx hb hml hown hts w_857 w_855 w_856 w_1 md_6cb26b ⟨Nat.le_of_ble_eq_true rfl, Nat.le_of_ble_eq_true rfl⟩ hG hZ hP hD hS hA [] [0, 1] rfl rfl rfl rfl rfl hl.1 rfl (Nat.le_of_ble_eq_true rfl) d_1_11_8 ⟨Nat.le_of_ble_eq_true rfl, Nat.le_of_ble_eq_true rfl⟩ (fun q9 ce9 H locs hP hD hS h7 h8 h9 => x_out hnt hlocks hS h7 h8 h9 (Nat.le_of_ble_eq_true rfl) (Nat.le_of_ble_eq_true rfl))
set_option maxRecDepth 100000 in
set_option maxHeartbeats 4000000 in
theorem c129_BLaw_setVotes (l : Launch) (z : Zz) (hl0 : l.stackTraces = false) (a0 a1 a2 a3 a4 a5 a6 a7 a8 a9 a10 a11 a12 a13 a14 a15 a16 a17 a18 a19 a20 : Nat) (x0 : Int32) (x1 : Int32) (h0 : x0 < 0) : HT l z ⟨"BallothallLaw", "setVotes", "(LBallothall;II[J)I"⟩ method_11_code 5 (some .int) [(0, 10, 13, 19), (0, 10, 17, 21)] [.ref a0, .int x0, .int x1, .ref a1] [(a0, .inr (11, [.ref a2, .ref a3, .ref a4, .ref a5, .ref a6, .ref a7, .ref a8, .ref a9, .ref a10, .ref a11, .int 0, .int 0, .ref a12, .int 0])), (a5, .inr (7, [.int 0, .ref a13, .ref a14, .ref a15, .ref a16, .ref a17, .int 0, .ref a18, .ref a19, .ref a20, .int 0]))] 8 158 1 6 (fun u => some (.int 1)) (fun u => []) := by
  refine HT.of (own := "BallothallLaw") (by decide +kernel) (Nat.le_of_ble_eq_true rfl) rfl (fun p e s m below meth c A ls hx hb hml hr hts hown hlocks hin hA hG hZ hP hD hS hl htab => ?_)
  have hl : lv_has ls 5 [(0, .ref a0), (1, .int x0), (2, .int x1), (3, .ref a1)] := hl
  refine lv_aload_n hx hb d_L11_0 rfl (lv_at hl 3 rfl) ?_
  refine lv_iconst (v := 0) hx hb d_L11_1 (by decide +kernel) ?_
  refine lv_aload_n hx hb d_L11_2 rfl (lv_at hl 0 rfl) ?_
  refine lv_iload_n hx hb d_L11_3 rfl (lv_at hl 1 rfl) ?_
  refine lv_iload_n hx hb d_L11_4 rfl (lv_at hl 2 rfl) ?_
  refine xV (As := [.int x0, .int x1]) (rest := [.int 0, .ref a1]) (wr := []) (c128_B_setVotes l z hl0 a0 a2 a3 a4 a5 a6 a7 a8 a9 a10 a11 a12 a13 a14 a15 a16 a17 a18 a19 a20 x0 x1 h0) hx hb hml hown hts w_984 w_981 w_982 w_983 w_1 md_33e935 ⟨Nat.le_of_ble_eq_true rfl, Nat.le_of_ble_eq_true rfl⟩ hG hZ hP hD hS hA 0 rfl rfl rfl [0, 1] [] rfl rfl rfl rfl rfl hl.1 rfl (Nat.le_of_ble_eq_true rfl) d_L11_5 ⟨Nat.le_of_ble_eq_true rfl, Nat.le_of_ble_eq_true rfl⟩ (fun q0 ce9 H locs hP hD hS h7 h8 h9 => ?_)
  have hP : va_P z.1 classes [] H := hP
  have hD : va_D A [] := hD
  refine vx_catch hown [] ⟨0, 10, 13, 19⟩ [⟨0, 10, 17, 21⟩] (htab.trans rfl) (fun _ h9 => absurd h9 List.not_mem_nil) rfl (by decide) (hts _ w_849) (va_Nw.use rfl (hG.2.1 _ n_860 rfl)) h7 h8 h9 ?_
  refine lv_astore (lv' := [(4, .ref q0), (0, .ref a0), (1, .int x0), (2, .int x1), (3, .ref a1)]) hx hb d_L11_13 hl (by decide) rfl (fun ls hl => ?_)
  refine lv_iconst (v := 1) hx hb d_L11_15 (by decide +kernel) ?_
  refine W.widen (k := 1) (n := 6) (Nat.le_of_ble_eq_true rfl) (Nat.le_of_ble_eq_true rfl) ?_
  refine vx_ret ?_
  exact W.iret hx hb hr (fun t ht hW => qk hP hD hS [] rfl ((fun k => k), (fun _ _ => none)) rfl rfl rfl ht) hS.2.2 d_L11_16
set_option maxRecDepth 100000 in
set_option maxHeartbeats 4000000 in
theorem c130_BModel_setVotes (l : Launch) (z : Zz) (a0 a1 a2 a3 a4 a5 a6 a7 a8 a9 a10 a11 a12 a13 : Nat) (x0 : Int32) (x1 : Int32) (h0 : x0 < 0) : CT l z ⟨"BallothallModel", "setVotes", "(II)I"⟩ prog_14_method_39_code 4 (some .int) [.ref a0, .int x0, .int x1] [(a0, .inr (18, [.ref a1, .ref a2, .int 0, .ref a3, .int 0, .ref a4, .int 0, .null, .int 0, .null, .long 0, .int 0, .null])), (a1, .inr (17, [.int 0, .ref a5, .ref a6, .int 0, .ref a7, .ref a8, .ref a9, .null, .null, .int 0, .ref a10, .ref a11, .ref a12, .int 0, .ref a13, .int 1]))] 2 59 0 0 (fun u => some (.int 0)) (fun u => [(a0, .inr (18, [.ref a1, .ref a2, .int 0, .ref a3, .int 0, .ref a4, .int 1, .null, .int 0, .null, .long 0, .int 0, .null])), (a1, .inr (17, [.int 0, .ref a5, .ref a6, .int 0, .ref a7, .ref a8, .ref a9, .null, .null, .int 0, .ref a10, .ref a11, .ref a12, .int 0, .ref a13, .int 1]))]) := by
  refine CT.of (own := "BallothallModel") (by decide +kernel) (Nat.le_of_ble_eq_true rfl) rfl (fun p e s m below meth c A ls hx hb hml hr hts hown hlocks hin hA hG hZ hP hD hS hl => ?_)
  have hl : lv_has ls 4 [(0, .ref a0), (1, .int x0), (2, .int x1)] := hl
  refine lv_aload_n hx hb d_14_39_0 rfl (lv_at hl 0 rfl) ?_
  refine lv_aload_n hx hb d_14_39_1 rfl (lv_at hl 0 rfl) ?_
  refine lv_iload_n hx hb d_14_39_2 rfl (lv_at hl 1 rfl) ?_
  refine kV (As := [.int x0]) (rest := [.ref a0]) (wr := []) (c42_BModel_isList l z a0 a1 a2 a3 a4 a5 a6 a7 a8 a9 a10 a11 a12 a13 x0 h0) hx hb hml hown hts w_1715 w_1712 w_1714 w_s_92f5e0 w_12 md_94944f ⟨Nat.le_of_ble_eq_true rfl, Nat.le_of_ble_eq_true rfl⟩ hG hZ hP hD hS hA 0 rfl rfl rfl [0, 1] [] rfl rfl rfl rfl rfl hl.1 rfl (Nat.le_of_ble_eq_true rfl) d_14_39_3 ⟨Nat.le_of_ble_eq_true rfl, Nat.le_of_ble_eq_true rfl⟩ (fun u0 H locs hP hD hS => ?_)
  have hP : va_P z.1 classes [(a0, .inr (18, [.ref a1, .ref a2, .int 0, .ref a3, .int 0, .ref a4, .int 0, .null, .int 0, .null, .long 0, .int 0, .null])), (a1, .inr (17, [.int 0, .ref a5, .ref a6, .int 0, .ref a7, .ref a8, .ref a9, .null, .null, .int 0, .ref a10, .ref a11, .ref a12, .int 0, .ref a13, .int 1]))] H := hP
  have hD : va_D A [(a0, .inr (18, [.ref a1, .ref a2, .int 0, .ref a3, .int 0, .ref a4, .int 0, .null, .int 0, .null, .long 0, .int 0, .null])), (a1, .inr (17, [.int 0, .ref a5, .ref a6, .int 0, .ref a7, .ref a8, .ref a9, .null, .null, .int 0, .ref a10, .ref a11, .ref a12, .int 0, .ref a13, .int 1]))] := hD
  refine W.eq (g2 := F0 m 6 ls [.int 0, .ref a0]) rfl ?_
  refine lv_iconst (v := 1) hx hb d_14_39_6 (by decide +kernel) ?_
  refine kV (As := [.int 0, .int 1]) (rest := []) (wr := [(a1, .inr (17, [.int 0, .ref a5, .ref a6, .int 0, .ref a7, .ref a8, .ref a9, .null, .null, .int 0, .ref a10, .ref a11, .ref a12, .int 0, .ref a13, .int 1]))]) (c31_BModel_ends l z a0 a1 a2 a3 a4) hx hb hml hown hts w_1696 w_1693 w_1695 w_s_f8f2b7 w_12 md_77b0f8 ⟨Nat.le_of_ble_eq_true rfl, Nat.le_of_ble_eq_true rfl⟩ hG hZ hP hD hS hA 0 rfl rfl rfl [0] [1] rfl rfl rfl rfl rfl hl.1 rfl (Nat.le_of_ble_eq_true rfl) d_14_39_7 ⟨Nat.le_of_ble_eq_true rfl, Nat.le_of_ble_eq_true rfl⟩ (fun u1 H locs hP hD hS => ?_)
  have hP : va_P z.1 classes [(a1, .inr (17, [.int 0, .ref a5, .ref a6, .int 0, .ref a7, .ref a8, .ref a9, .null, .null, .int 0, .ref a10, .ref a11, .ref a12, .int 0, .ref a13, .int 1])), (a0, .inr (18, [.ref a1, .ref a2, .int 0, .ref a3, .int 0, .ref a4, .int 1, .null, .int 0, .null, .long 0, .int 0, .null]))] H := hP
  have hD : va_D A [(a1, .inr (17, [.int 0, .ref a5, .ref a6, .int 0, .ref a7, .ref a8, .ref a9, .null, .null, .int 0, .ref a10, .ref a11, .ref a12, .int 0, .ref a13, .int 1])), (a0, .inr (18, [.ref a1, .ref a2, .int 0, .ref a3, .int 0, .ref a4, .int 1, .null, .int 0, .null, .long 0, .int 0, .null]))] := hD
  refine W.eq (g2 := F0 m 10 ls [.int 1]) rfl ?_
  refine lv_if_ne (tgt := 28) hx hb d_14_39_10 (by decide) (fun _ => ?_) (fun c9 => absurd c9 (by decide +kernel))
  refine lv_iconst (v := 0) hx hb d_14_39_28 (by decide +kernel) ?_
  refine W.widen (k := 0) (n := 0) (Nat.le_of_ble_eq_true rfl) (Nat.le_of_ble_eq_true rfl) ?_
  exact W.iret hx hb hr (fun t ht hW => qk hP hD hS [1, 0] rfl ((fun k => k), (fun _ _ => none)) rfl rfl rfl ht) hS.2.2 d_14_39_29
set_option maxRecDepth 100000 in
set_option maxHeartbeats 4000000 in
theorem c131_B_setVotes (l : Launch) (z : Zz) (hl0 : l.stackTraces = false) (a0 a1 a2 a3 a4 a5 a6 a7 a8 a9 a10 a11 a12 a13 a14 a15 a16 a17 a18 a19 : Nat) (x0 : Int32) (x1 : Int32) (h0 : ¬ x0 < 0) : XT l z ⟨"Ballothall", "setVotes", "(II)I"⟩ prog_1_method_11_code 4 (some .int) [.ref a0, .int x0, .int x1] [(a0, .inr (11, [.ref a1, .ref a2, .ref a3, .ref a4, .ref a5, .ref a6, .ref a7, .ref a8, .ref a9, .ref a10, .int 0, .int 0, .ref a11, .int 0])), (a4, .inr (7, [.int 0, .ref a12, .ref a13, .ref a14, .ref a15, .ref a16, .int 0, .ref a17, .ref a18, .ref a19, .int 0]))] 7 127 1 6 "java/lang/IndexOutOfBoundsException" := by
  refine XT.of (own := "Ballothall") (by decide +kernel) (Nat.le_of_ble_eq_true rfl) rfl (fun p e s m below meth c A ls hx hb hml hr hts hown hlocks hin hA hG hZ hP hD hS hl hnt => ?_)
  have hl : lv_has ls 4 [(0, .ref a0), (1, .int x0), (2, .int x1)] := hl
  refine lv_iload_n hx hb d_1_11_0 rfl (lv_at hl 1 rfl) ?_
  refine lv_aload_n hx hb d_1_11_1 rfl (lv_at hl 0 rfl) ?_
  refine va_get (D := z.1) (ci := 11) (v := .ref a4) (C := "Ballothall") (T := TX11) (N := 14) hx hb hts iX11 hown hG.1 hP 0 rfl rfl 3 (by decide) (hts _ w_409) (fun _ h9 => h9) rfl d_1_11_2 ?_
  refine va_getN (D := z.1) (ci := 7) (v := .int 0) (C := "Ballothall$Lists") (T := TX7) (N := 11) hx hb hts iX7 hown hG.1 hP 1 rfl rfl 0 (by decide) (va_Nw.use rfl (hG.2.1 _ n_250 rfl)) (fun _ h9 => h9) rfl d_1_11_5 ?_
  exact xS (As := [.int x0, .int 0]) (rest := []) (wr := [(a0, .inr (11, [.ref a1, .ref a2, .ref a3, .ref a4, .ref a5, .ref a6, .ref a7, .ref a8, .ref a9, .ref a10, .int 0, .int 0, .ref a11, .int 0])), (a4, .inr (7, [.int 0, .ref a12, .ref a13, .ref a14, .ref a15, .ref a16, .int 0, .ref a17, .ref a18, .ref a19, .int 0]))]) (c34_B_needIndex l z hl0 x0 h0) hx hb hml hown hts w_857 w_855 w_856 w_1 md_6cb26b ⟨Nat.le_of_ble_eq_true rfl, Nat.le_of_ble_eq_true rfl⟩ hG hZ hP hD hS hA [] [0, 1] rfl rfl rfl rfl rfl hl.1 rfl (Nat.le_of_ble_eq_true rfl) d_1_11_8 ⟨Nat.le_of_ble_eq_true rfl, Nat.le_of_ble_eq_true rfl⟩ (fun q9 ce9 H locs hP hD hS h7 h8 h9 => x_out hnt hlocks hS h7 h8 h9 (Nat.le_of_ble_eq_true rfl) (Nat.le_of_ble_eq_true rfl))
set_option maxRecDepth 100000 in
set_option maxHeartbeats 4000000 in
theorem c132_BLaw_setVotes (l : Launch) (z : Zz) (hl0 : l.stackTraces = false) (a0 a1 a2 a3 a4 a5 a6 a7 a8 a9 a10 a11 a12 a13 a14 a15 a16 a17 a18 a19 a20 : Nat) (x0 : Int32) (x1 : Int32) (h0 : ¬ x0 < 0) : HT l z ⟨"BallothallLaw", "setVotes", "(LBallothall;II[J)I"⟩ method_11_code 5 (some .int) [(0, 10, 13, 19), (0, 10, 17, 21)] [.ref a0, .int x0, .int x1, .ref a1] [(a0, .inr (11, [.ref a2, .ref a3, .ref a4, .ref a5, .ref a6, .ref a7, .ref a8, .ref a9, .ref a10, .ref a11, .int 0, .int 0, .ref a12, .int 0])), (a5, .inr (7, [.int 0, .ref a13, .ref a14, .ref a15, .ref a16, .ref a17, .int 0, .ref a18, .ref a19, .ref a20, .int 0]))] 8 158 1 6 (fun u => some (.int 1)) (fun u => []) := by
  refine HT.of (own := "BallothallLaw") (by decide +kernel) (Nat.le_of_ble_eq_true rfl) rfl (fun p e s m below meth c A ls hx hb hml hr hts hown hlocks hin hA hG hZ hP hD hS hl htab => ?_)
  have hl : lv_has ls 5 [(0, .ref a0), (1, .int x0), (2, .int x1), (3, .ref a1)] := hl
  refine lv_aload_n hx hb d_L11_0 rfl (lv_at hl 3 rfl) ?_
  refine lv_iconst (v := 0) hx hb d_L11_1 (by decide +kernel) ?_
  refine lv_aload_n hx hb d_L11_2 rfl (lv_at hl 0 rfl) ?_
  refine lv_iload_n hx hb d_L11_3 rfl (lv_at hl 1 rfl) ?_
  refine lv_iload_n hx hb d_L11_4 rfl (lv_at hl 2 rfl) ?_
  refine xV (As := [.int x0, .int x1]) (rest := [.int 0, .ref a1]) (wr := []) (c131_B_setVotes l z hl0 a0 a2 a3 a4 a5 a6 a7 a8 a9 a10 a11 a12 a13 a14 a15 a16 a17 a18 a19 a20 x0 x1 h0) hx hb hml hown hts w_984 w_981 w_982 w_983 w_1 md_33e935 ⟨Nat.le_of_ble_eq_true rfl, Nat.le_of_ble_eq_true rfl⟩ hG hZ hP hD hS hA 0 rfl rfl rfl [0, 1] [] rfl rfl rfl rfl rfl hl.1 rfl (Nat.le_of_ble_eq_true rfl) d_L11_5 ⟨Nat.le_of_ble_eq_true rfl, Nat.le_of_ble_eq_true rfl⟩ (fun q0 ce9 H locs hP hD hS h7 h8 h9 => ?_)
  have hP : va_P z.1 classes [] H := hP
  have hD : va_D A [] := hD
  refine vx_catch hown [] ⟨0, 10, 13, 19⟩ [⟨0, 10, 17, 21⟩] (htab.trans rfl) (fun _ h9 => absurd h9 List.not_mem_nil) rfl (by decide) (hts _ w_849) (va_Nw.use rfl (hG.2.1 _ n_860 rfl)) h7 h8 h9 ?_
  refine lv_astore (lv' := [(4, .ref q0), (0, .ref a0), (1, .int x0), (2, .int x1), (3, .ref a1)]) hx hb d_L11_13 hl (by decide) rfl (fun ls hl => ?_)
  refine lv_iconst (v := 1) hx hb d_L11_15 (by decide +kernel) ?_
  refine W.widen (k := 1) (n := 6) (Nat.le_of_ble_eq_true rfl) (Nat.le_of_ble_eq_true rfl) ?_
  refine vx_ret ?_
  exact W.iret hx hb hr (fun t ht hW => qk hP hD hS [] rfl ((fun k => k), (fun _ _ => none)) rfl rfl rfl ht) hS.2.2 d_L11_16
set_option maxRecDepth 100000 in
set_option maxHeartbeats 4000000 in
theorem c133_BModel_setVotes (l : Launch) (z : Zz) (a0 a1 a2 a3 a4 a5 a6 a7 a8 a9 a10 a11 a12 a13 : Nat) (x0 : Int32) (x1 : Int32) (h0 : ¬ x0 < 0) (h1 : (-1) < x0) : CT l z ⟨"BallothallModel", "setVotes", "(II)I"⟩ prog_14_method_39_code 4 (some .int) [.ref a0, .int x0, .int x1] [(a0, .inr (18, [.ref a1, .ref a2, .int 0, .ref a3, .int 0, .ref a4, .int 0, .null, .int 0, .null, .long 0, .int 0, .null])), (a1, .inr (17, [.int 0, .ref a5, .ref a6, .int 0, .ref a7, .ref a8, .ref a9, .null, .null, .int 0, .ref a10, .ref a11, .ref a12, .int 0, .ref a13, .int 1]))] 2 59 0 0 (fun u => some (.int 0)) (fun u => [(a0, .inr (18, [.ref a1, .ref a2, .int 0, .ref a3, .int 0, .ref a4, .int 1, .null, .int 0, .null, .long 0, .int 0, .null])), (a1, .inr (17, [.int 0, .ref a5, .ref a6, .int 0, .ref a7, .ref a8, .ref a9, .null, .null, .int 0, .ref a10, .ref a11, .ref a12, .int 0, .ref a13, .int 1]))]) := by
  refine CT.of (own := "BallothallModel") (by decide +kernel) (Nat.le_of_ble_eq_true rfl) rfl (fun p e s m below meth c A ls hx hb hml hr hts hown hlocks hin hA hG hZ hP hD hS hl => ?_)
  have hl : lv_has ls 4 [(0, .ref a0), (1, .int x0), (2, .int x1)] := hl
  refine lv_aload_n hx hb d_14_39_0 rfl (lv_at hl 0 rfl) ?_
  refine lv_aload_n hx hb d_14_39_1 rfl (lv_at hl 0 rfl) ?_
  refine lv_iload_n hx hb d_14_39_2 rfl (lv_at hl 1 rfl) ?_
  refine kV (As := [.int x0]) (rest := [.ref a0]) (wr := []) (c46_BModel_isList l z a0 a1 a2 a3 a4 a5 a6 a7 a8 a9 a10 a11 a12 a13 x0 h0 h1) hx hb hml hown hts w_1715 w_1712 w_1714 w_s_92f5e0 w_12 md_94944f ⟨Nat.le_of_ble_eq_true rfl, Nat.le_of_ble_eq_true rfl⟩ hG hZ hP hD hS hA 0 rfl rfl rfl [0, 1] [] rfl rfl rfl rfl rfl hl.1 rfl (Nat.le_of_ble_eq_true rfl) d_14_39_3 ⟨Nat.le_of_ble_eq_true rfl, Nat.le_of_ble_eq_true rfl⟩ (fun u0 H locs hP hD hS => ?_)
  have hP : va_P z.1 classes [(a0, .inr (18, [.ref a1, .ref a2, .int 0, .ref a3, .int 0, .ref a4, .int 0, .null, .int 0, .null, .long 0, .int 0, .null])), (a1, .inr (17, [.int 0, .ref a5, .ref a6, .int 0, .ref a7, .ref a8, .ref a9, .null, .null, .int 0, .ref a10, .ref a11, .ref a12, .int 0, .ref a13, .int 1]))] H := hP
  have hD : va_D A [(a0, .inr (18, [.ref a1, .ref a2, .int 0, .ref a3, .int 0, .ref a4, .int 0, .null, .int 0, .null, .long 0, .int 0, .null])), (a1, .inr (17, [.int 0, .ref a5, .ref a6, .int 0, .ref a7, .ref a8, .ref a9, .null, .null, .int 0, .ref a10, .ref a11, .ref a12, .int 0, .ref a13, .int 1]))] := hD
  refine W.eq (g2 := F0 m 6 ls [.int 0, .ref a0]) rfl ?_
  refine lv_iconst (v := 1) hx hb d_14_39_6 (by decide +kernel) ?_
  refine kV (As := [.int 0, .int 1]) (rest := []) (wr := [(a1, .inr (17, [.int 0, .ref a5, .ref a6, .int 0, .ref a7, .ref a8, .ref a9, .null, .null, .int 0, .ref a10, .ref a11, .ref a12, .int 0, .ref a13, .int 1]))]) (c31_BModel_ends l z a0 a1 a2 a3 a4) hx hb hml hown hts w_1696 w_1693 w_1695 w_s_f8f2b7 w_12 md_77b0f8 ⟨Nat.le_of_ble_eq_true rfl, Nat.le_of_ble_eq_true rfl⟩ hG hZ hP hD hS hA 0 rfl rfl rfl [0] [1] rfl rfl rfl rfl rfl hl.1 rfl (Nat.le_of_ble_eq_true rfl) d_14_39_7 ⟨Nat.le_of_ble_eq_true rfl, Nat.le_of_ble_eq_true rfl⟩ (fun u1 H locs hP hD hS => ?_)
  have hP : va_P z.1 classes [(a1, .inr (17, [.int 0, .ref a5, .ref a6, .int 0, .ref a7, .ref a8, .ref a9, .null, .null, .int 0, .ref a10, .ref a11, .ref a12, .int 0, .ref a13, .int 1])), (a0, .inr (18, [.ref a1, .ref a2, .int 0, .ref a3, .int 0, .ref a4, .int 1, .null, .int 0, .null, .long 0, .int 0, .null]))] H := hP
  have hD : va_D A [(a1, .inr (17, [.int 0, .ref a5, .ref a6, .int 0, .ref a7, .ref a8, .ref a9, .null, .null, .int 0, .ref a10, .ref a11, .ref a12, .int 0, .ref a13, .int 1])), (a0, .inr (18, [.ref a1, .ref a2, .int 0, .ref a3, .int 0, .ref a4, .int 1, .null, .int 0, .null, .long 0, .int 0, .null]))] := hD
  refine W.eq (g2 := F0 m 10 ls [.int 1]) rfl ?_
  refine lv_if_ne (tgt := 28) hx hb d_14_39_10 (by decide) (fun _ => ?_) (fun c9 => absurd c9 (by decide +kernel))
  refine lv_iconst (v := 0) hx hb d_14_39_28 (by decide +kernel) ?_
  refine W.widen (k := 0) (n := 0) (Nat.le_of_ble_eq_true rfl) (Nat.le_of_ble_eq_true rfl) ?_
  exact W.iret hx hb hr (fun t ht hW => qk hP hD hS [1, 0] rfl ((fun k => k), (fun _ _ => none)) rfl rfl rfl ht) hS.2.2 d_14_39_29
set_option maxRecDepth 100000 in
set_option maxHeartbeats 4000000 in
theorem c134_B_ally (l : Launch) (z : Zz) (hl0 : l.stackTraces = false) (a0 a1 a2 a3 a4 a5 a6 a7 a8 a9 a10 a11 a12 a13 a14 a15 a16 a17 a18 a19 : Nat) (x0 : Int32) (x1 : Int32) (h0 : x0 < 0) : XT l z ⟨"Ballothall", "ally", "(II)I"⟩ prog_1_method_12_code 4 (some .int) [.ref a0, .int x0, .int x1] [(a0, .inr (11, [.ref a1, .ref a2, .ref a3, .ref a4, .ref a5, .ref a6, .ref a7, .ref a8, .ref a9, .ref a10, .int 0, .int 0, .ref a11, .int 0])), (a4, .inr (7, [.int 0, .ref a12, .ref a13, .ref a14, .ref a15, .ref a16, .int 0, .ref a17, .ref a18, .ref a19, .int 0]))] 7 127 1 6 "java/lang/IndexOutOfBoundsException" := by
  refine XT.of (own := "Ballothall") (by decide +kernel) (Nat.le_of_ble_eq_true rfl) rfl (fun p e s m below meth c A ls hx hb hml hr hts hown hlocks hin hA hG hZ hP hD hS hl hnt => ?_)
  have hl : lv_has ls 4 [(0, .ref a0), (1, .int x0), (2, .int x1)] := hl
  refine lv_iload_n hx hb d_1_12_0 rfl (lv_at hl 1 rfl) ?_
  refine lv_aload_n hx hb d_1_12_1 rfl (lv_at hl 0 rfl) ?_
  refine va_get (D := z.1) (ci := 11) (v := .ref a4) (C := "Ballothall") (T := TX11) (N := 14) hx hb hts iX11 hown hG.1 hP 0 rfl rfl 3 (by decide) (hts _ w_409) (fun _ h9 => h9) rfl d_1_12_2 ?_
  refine va_getN (D := z.1) (ci := 7) (v := .int 0) (C := "Ballothall$Lists") (T := TX7) (N := 11) hx hb hts iX7 hown hG.1 hP 1 rfl rfl 0 (by decide) (va_Nw.use rfl (hG.2.1 _ n_250 rfl)) (fun _ h9 => h9) rfl d_1_12_5 ?_
  exact xS (As := [.int x0, .int 0]) (rest := []) (wr := [(a0, .inr (11, [.ref a1, .ref a2, .ref a3, .ref a4, .ref a5, .ref a6, .ref a7, .ref a8, .ref a9, .ref a10, .int 0, .int 0, .ref a11, .int 0])), (a4, .inr (7, [.int 0, .ref a12, .ref a13, .ref a14, .ref a15, .ref a16, .int 0, .ref a17, .ref a18, .ref a19, .int 0]))]) (c26_B_needIndex l z hl0 x0 h0) hx hb hml hown hts w_857 w_855 w_856 w_1 md_6cb26b ⟨Nat.le_of_ble_eq_true rfl, Nat.le_of_ble_eq_true rfl⟩ hG hZ hP hD hS hA [] [0, 1] rfl rfl rfl rfl rfl hl.1 rfl (Nat.le_of_ble_eq_true rfl) d_1_12_8 ⟨Nat.le_of_ble_eq_true rfl, Nat.le_of_ble_eq_true rfl⟩ (fun q9 ce9 H locs hP hD hS h7 h8 h9 => x_out hnt hlocks hS h7 h8 h9 (Nat.le_of_ble_eq_true rfl) (Nat.le_of_ble_eq_true rfl))
set_option maxRecDepth 100000 in
set_option maxHeartbeats 4000000 in
theorem c135_BLaw_ally (l : Launch) (z : Zz) (hl0 : l.stackTraces = false) (a0 a1 a2 a3 a4 a5 a6 a7 a8 a9 a10 a11 a12 a13 a14 a15 a16 a17 a18 a19 a20 : Nat) (x0 : Int32) (x1 : Int32) (h0 : x0 < 0) : HT l z ⟨"BallothallLaw", "ally", "(LBallothall;II[J)I"⟩ method_12_code 5 (some .int) [(0, 10, 13, 19), (0, 10, 17, 21)] [.ref a0, .int x0, .int x1, .ref a1] [(a0, .inr (11, [.ref a2, .ref a3, .ref a4, .ref a5, .ref a6, .ref a7, .ref a8, .ref a9, .ref a10, .ref a11, .int 0, .int 0, .ref a12, .int 0])), (a5, .inr (7, [.int 0, .ref a13, .ref a14, .ref a15, .ref a16, .ref a17, .int 0, .ref a18, .ref a19, .ref a20, .int 0]))] 8 158 1 6 (fun u => some (.int 1)) (fun u => []) := by
  refine HT.of (own := "BallothallLaw") (by decide +kernel) (Nat.le_of_ble_eq_true rfl) rfl (fun p e s m below meth c A ls hx hb hml hr hts hown hlocks hin hA hG hZ hP hD hS hl htab => ?_)
  have hl : lv_has ls 5 [(0, .ref a0), (1, .int x0), (2, .int x1), (3, .ref a1)] := hl
  refine lv_aload_n hx hb d_L12_0 rfl (lv_at hl 3 rfl) ?_
  refine lv_iconst (v := 0) hx hb d_L12_1 (by decide +kernel) ?_
  refine lv_aload_n hx hb d_L12_2 rfl (lv_at hl 0 rfl) ?_
  refine lv_iload_n hx hb d_L12_3 rfl (lv_at hl 1 rfl) ?_
  refine lv_iload_n hx hb d_L12_4 rfl (lv_at hl 2 rfl) ?_
  refine xV (As := [.int x0, .int x1]) (rest := [.int 0, .ref a1]) (wr := []) (c134_B_ally l z hl0 a0 a2 a3 a4 a5 a6 a7 a8 a9 a10 a11 a12 a13 a14 a15 a16 a17 a18 a19 a20 x0 x1 h0) hx hb hml hown hts w_991 w_988 w_989 w_990 w_1 md_1f245a ⟨Nat.le_of_ble_eq_true rfl, Nat.le_of_ble_eq_true rfl⟩ hG hZ hP hD hS hA 0 rfl rfl rfl [0, 1] [] rfl rfl rfl rfl rfl hl.1 rfl (Nat.le_of_ble_eq_true rfl) d_L12_5 ⟨Nat.le_of_ble_eq_true rfl, Nat.le_of_ble_eq_true rfl⟩ (fun q0 ce9 H locs hP hD hS h7 h8 h9 => ?_)
  have hP : va_P z.1 classes [] H := hP
  have hD : va_D A [] := hD
  refine vx_catch hown [] ⟨0, 10, 13, 19⟩ [⟨0, 10, 17, 21⟩] (htab.trans rfl) (fun _ h9 => absurd h9 List.not_mem_nil) rfl (by decide) (hts _ w_849) (va_Nw.use rfl (hG.2.1 _ n_860 rfl)) h7 h8 h9 ?_
  refine lv_astore (lv' := [(4, .ref q0), (0, .ref a0), (1, .int x0), (2, .int x1), (3, .ref a1)]) hx hb d_L12_13 hl (by decide) rfl (fun ls hl => ?_)
  refine lv_iconst (v := 1) hx hb d_L12_15 (by decide +kernel) ?_
  refine W.widen (k := 1) (n := 6) (Nat.le_of_ble_eq_true rfl) (Nat.le_of_ble_eq_true rfl) ?_
  refine vx_ret ?_
  exact W.iret hx hb hr (fun t ht hW => qk hP hD hS [] rfl ((fun k => k), (fun _ _ => none)) rfl rfl rfl ht) hS.2.2 d_L12_16
set_option maxRecDepth 100000 in
set_option maxHeartbeats 4000000 in
theorem c136_BModel_ally (l : Launch) (z : Zz) (a0 a1 a2 a3 a4 a5 a6 a7 a8 a9 a10 a11 a12 a13 : Nat) (x0 : Int32) (x1 : Int32) (h0 : x0 < 0) : CT l z ⟨"BallothallModel", "ally", "(II)I"⟩ prog_14_method_40_code 4 (some .int) [.ref a0, .int x0, .int x1] [(a0, .inr (18, [.ref a1, .ref a2, .int 0, .ref a3, .int 0, .ref a4, .int 0, .null, .int 0, .null, .long 0, .int 0, .null])), (a1, .inr (17, [.int 0, .ref a5, .ref a6, .int 0, .ref a7, .ref a8, .ref a9, .null, .null, .int 0, .ref a10, .ref a11, .ref a12, .int 0, .ref a13, .int 1]))] 2 59 0 0 (fun u => some (.int 0)) (fun u => [(a0, .inr (18, [.ref a1, .ref a2, .int 0, .ref a3, .int 0, .ref a4, .int 1, .null, .int 0, .null, .long 0, .int 0, .null])), (a1, .inr (17, [.int 0, .ref a5, .ref a6, .int 0, .ref a7, .ref a8, .ref a9, .null, .null, .int 0, .ref a10, .ref a11, .ref a12, .int 0, .ref a13, .int 1]))]) := by
  refine CT.of (own := "BallothallModel") (by decide +kernel) (Nat.le_of_ble_eq_true rfl) rfl (fun p e s m below meth c A ls hx hb hml hr hts hown hlocks hin hA hG hZ hP hD hS hl => ?_)
  have hl : lv_has ls 4 [(0, .ref a0), (1, .int x0), (2, .int x1)] := hl
  refine lv_aload_n hx hb d_14_40_0 rfl (lv_at hl 0 rfl) ?_
  refine lv_aload_n hx hb d_14_40_1 rfl (lv_at hl 0 rfl) ?_
  refine lv_iload_n hx hb d_14_40_2 rfl (lv_at hl 1 rfl) ?_
  refine kV (As := [.int x0]) (rest := [.ref a0]) (wr := []) (c42_BModel_isList l z a0 a1 a2 a3 a4 a5 a6 a7 a8 a9 a10 a11 a12 a13 x0 h0) hx hb hml hown hts w_1715 w_1712 w_1714 w_s_92f5e0 w_12 md_94944f ⟨Nat.le_of_ble_eq_true rfl, Nat.le_of_ble_eq_true rfl⟩ hG hZ hP hD hS hA 0 rfl rfl rfl [0, 1] [] rfl rfl rfl rfl rfl hl.1 rfl (Nat.le_of_ble_eq_true rfl) d_14_40_3 ⟨Nat.le_of_ble_eq_true rfl, Nat.le_of_ble_eq_true rfl⟩ (fun u0 H locs hP hD hS => ?_)
  have hP : va_P z.1 classes [(a0, .inr (18, [.ref a1, .ref a2, .int 0, .ref a3, .int 0, .ref a4, .int 0, .null, .int 0, .null, .long 0, .int 0, .null])), (a1, .inr (17, [.int 0, .ref a5, .ref a6, .int 0, .ref a7, .ref a8, .ref a9, .null, .null, .int 0, .ref a10, .ref a11, .ref a12, .int 0, .ref a13, .int 1]))] H := hP
  have hD : va_D A [(a0, .inr (18, [.ref a1, .ref a2, .int 0, .ref a3, .int 0, .ref a4, .int 0, .null, .int 0, .null, .long 0, .int 0, .null])), (a1, .inr (17, [.int 0, .ref a5, .ref a6, .int 0, .ref a7, .ref a8, .ref a9, .null, .null, .int 0, .ref a10, .ref a11, .ref a12, .int 0, .ref a13, .int 1]))] := hD
  refine W.eq (g2 := F0 m 6 ls [.int 0, .ref a0]) rfl ?_
  refine lv_iconst (v := 1) hx hb d_14_40_6 (by decide +kernel) ?_
  refine kV (As := [.int 0, .int 1]) (rest := []) (wr := [(a1, .inr (17, [.int 0, .ref a5, .ref a6, .int 0, .ref a7, .ref a8, .ref a9, .null, .null, .int 0, .ref a10, .ref a11, .ref a12, .int 0, .ref a13, .int 1]))]) (c31_BModel_ends l z a0 a1 a2 a3 a4) hx hb hml hown hts w_1696 w_1693 w_1695 w_s_f8f2b7 w_12 md_77b0f8 ⟨Nat.le_of_ble_eq_true rfl, Nat.le_of_ble_eq_true rfl⟩ hG hZ hP hD hS hA 0 rfl rfl rfl [0] [1] rfl rfl rfl rfl rfl hl.1 rfl (Nat.le_of_ble_eq_true rfl) d_14_40_7 ⟨Nat.le_of_ble_eq_true rfl, Nat.le_of_ble_eq_true rfl⟩ (fun u1 H locs hP hD hS => ?_)
  have hP : va_P z.1 classes [(a1, .inr (17, [.int 0, .ref a5, .ref a6, .int 0, .ref a7, .ref a8, .ref a9, .null, .null, .int 0, .ref a10, .ref a11, .ref a12, .int 0, .ref a13, .int 1])), (a0, .inr (18, [.ref a1, .ref a2, .int 0, .ref a3, .int 0, .ref a4, .int 1, .null, .int 0, .null, .long 0, .int 0, .null]))] H := hP
  have hD : va_D A [(a1, .inr (17, [.int 0, .ref a5, .ref a6, .int 0, .ref a7, .ref a8, .ref a9, .null, .null, .int 0, .ref a10, .ref a11, .ref a12, .int 0, .ref a13, .int 1])), (a0, .inr (18, [.ref a1, .ref a2, .int 0, .ref a3, .int 0, .ref a4, .int 1, .null, .int 0, .null, .long 0, .int 0, .null]))] := hD
  refine W.eq (g2 := F0 m 10 ls [.int 1]) rfl ?_
  refine lv_if_ne (tgt := 27) hx hb d_14_40_10 (by decide) (fun _ => ?_) (fun c9 => absurd c9 (by decide +kernel))
  refine lv_iconst (v := 0) hx hb d_14_40_27 (by decide +kernel) ?_
  refine W.widen (k := 0) (n := 0) (Nat.le_of_ble_eq_true rfl) (Nat.le_of_ble_eq_true rfl) ?_
  exact W.iret hx hb hr (fun t ht hW => qk hP hD hS [1, 0] rfl ((fun k => k), (fun _ _ => none)) rfl rfl rfl ht) hS.2.2 d_14_40_28
set_option maxRecDepth 100000 in
set_option maxHeartbeats 4000000 in
theorem c137_B_ally (l : Launch) (z : Zz) (hl0 : l.stackTraces = false) (a0 a1 a2 a3 a4 a5 a6 a7 a8 a9 a10 a11 a12 a13 a14 a15 a16 a17 a18 a19 : Nat) (x0 : Int32) (x1 : Int32) (h0 : ¬ x0 < 0) : XT l z ⟨"Ballothall", "ally", "(II)I"⟩ prog_1_method_12_code 4 (some .int) [.ref a0, .int x0, .int x1] [(a0, .inr (11, [.ref a1, .ref a2, .ref a3, .ref a4, .ref a5, .ref a6, .ref a7, .ref a8, .ref a9, .ref a10, .int 0, .int 0, .ref a11, .int 0])), (a4, .inr (7, [.int 0, .ref a12, .ref a13, .ref a14, .ref a15, .ref a16, .int 0, .ref a17, .ref a18, .ref a19, .int 0]))] 7 127 1 6 "java/lang/IndexOutOfBoundsException" := by
  refine XT.of (own := "Ballothall") (by decide +kernel) (Nat.le_of_ble_eq_true rfl) rfl (fun p e s m below meth c A ls hx hb hml hr hts hown hlocks hin hA hG hZ hP hD hS hl hnt => ?_)
  have hl : lv_has ls 4 [(0, .ref a0), (1, .int x0), (2, .int x1)] := hl
  refine lv_iload_n hx hb d_1_12_0 rfl (lv_at hl 1 rfl) ?_
  refine lv_aload_n hx hb d_1_12_1 rfl (lv_at hl 0 rfl) ?_
  refine va_get (D := z.1) (ci := 11) (v := .ref a4) (C := "Ballothall") (T := TX11) (N := 14) hx hb hts iX11 hown hG.1 hP 0 rfl rfl 3 (by decide) (hts _ w_409) (fun _ h9 => h9) rfl d_1_12_2 ?_
  refine va_getN (D := z.1) (ci := 7) (v := .int 0) (C := "Ballothall$Lists") (T := TX7) (N := 11) hx hb hts iX7 hown hG.1 hP 1 rfl rfl 0 (by decide) (va_Nw.use rfl (hG.2.1 _ n_250 rfl)) (fun _ h9 => h9) rfl d_1_12_5 ?_
  exact xS (As := [.int x0, .int 0]) (rest := []) (wr := [(a0, .inr (11, [.ref a1, .ref a2, .ref a3, .ref a4, .ref a5, .ref a6, .ref a7, .ref a8, .ref a9, .ref a10, .int 0, .int 0, .ref a11, .int 0])), (a4, .inr (7, [.int 0, .ref a12, .ref a13, .ref a14, .ref a15, .ref a16, .int 0, .ref a17, .ref a18, .ref a19, .int 0]))]) (c34_B_needIndex l z hl0 x0 h0) hx hb hml hown hts w_857 w_855 w_856 w_1 md_6cb26b ⟨Nat.le_of_ble_eq_true rfl, Nat.le_of_ble_eq_true rfl⟩ hG hZ hP hD hS hA [] [0, 1] rfl rfl rfl rfl rfl hl.1 rfl (Nat.le_of_ble_eq_true rfl) d_1_12_8 ⟨Nat.le_of_ble_eq_true rfl, Nat.le_of_ble_eq_true rfl⟩ (fun q9 ce9 H locs hP hD hS h7 h8 h9 => x_out hnt hlocks hS h7 h8 h9 (Nat.le_of_ble_eq_true rfl) (Nat.le_of_ble_eq_true rfl))
set_option maxRecDepth 100000 in
set_option maxHeartbeats 4000000 in
theorem c138_BLaw_ally (l : Launch) (z : Zz) (hl0 : l.stackTraces = false) (a0 a1 a2 a3 a4 a5 a6 a7 a8 a9 a10 a11 a12 a13 a14 a15 a16 a17 a18 a19 a20 : Nat) (x0 : Int32) (x1 : Int32) (h0 : ¬ x0 < 0) : HT l z ⟨"BallothallLaw", "ally", "(LBallothall;II[J)I"⟩ method_12_code 5 (some .int) [(0, 10, 13, 19), (0, 10, 17, 21)] [.ref a0, .int x0, .int x1, .ref a1] [(a0, .inr (11, [.ref a2, .ref a3, .ref a4, .ref a5, .ref a6, .ref a7, .ref a8, .ref a9, .ref a10, .ref a11, .int 0, .int 0, .ref a12, .int 0])), (a5, .inr (7, [.int 0, .ref a13, .ref a14, .ref a15, .ref a16, .ref a17, .int 0, .ref a18, .ref a19, .ref a20, .int 0]))] 8 158 1 6 (fun u => some (.int 1)) (fun u => []) := by
  refine HT.of (own := "BallothallLaw") (by decide +kernel) (Nat.le_of_ble_eq_true rfl) rfl (fun p e s m below meth c A ls hx hb hml hr hts hown hlocks hin hA hG hZ hP hD hS hl htab => ?_)
  have hl : lv_has ls 5 [(0, .ref a0), (1, .int x0), (2, .int x1), (3, .ref a1)] := hl
  refine lv_aload_n hx hb d_L12_0 rfl (lv_at hl 3 rfl) ?_
  refine lv_iconst (v := 0) hx hb d_L12_1 (by decide +kernel) ?_
  refine lv_aload_n hx hb d_L12_2 rfl (lv_at hl 0 rfl) ?_
  refine lv_iload_n hx hb d_L12_3 rfl (lv_at hl 1 rfl) ?_
  refine lv_iload_n hx hb d_L12_4 rfl (lv_at hl 2 rfl) ?_
  refine xV (As := [.int x0, .int x1]) (rest := [.int 0, .ref a1]) (wr := []) (c137_B_ally l z hl0 a0 a2 a3 a4 a5 a6 a7 a8 a9 a10 a11 a12 a13 a14 a15 a16 a17 a18 a19 a20 x0 x1 h0) hx hb hml hown hts w_991 w_988 w_989 w_990 w_1 md_1f245a ⟨Nat.le_of_ble_eq_true rfl, Nat.le_of_ble_eq_true rfl⟩ hG hZ hP hD hS hA 0 rfl rfl rfl [0, 1] [] rfl rfl rfl rfl rfl hl.1 rfl (Nat.le_of_ble_eq_true rfl) d_L12_5 ⟨Nat.le_of_ble_eq_true rfl, Nat.le_of_ble_eq_true rfl⟩ (fun q0 ce9 H locs hP hD hS h7 h8 h9 => ?_)
  have hP : va_P z.1 classes [] H := hP
  have hD : va_D A [] := hD
  refine vx_catch hown [] ⟨0, 10, 13, 19⟩ [⟨0, 10, 17, 21⟩] (htab.trans rfl) (fun _ h9 => absurd h9 List.not_mem_nil) rfl (by decide) (hts _ w_849) (va_Nw.use rfl (hG.2.1 _ n_860 rfl)) h7 h8 h9 ?_
  refine lv_astore (lv' := [(4, .ref q0), (0, .ref a0), (1, .int x0), (2, .int x1), (3, .ref a1)]) hx hb d_L12_13 hl (by decide) rfl (fun ls hl => ?_)
  refine lv_iconst (v := 1) hx hb d_L12_15 (by decide +kernel) ?_
  refine W.widen (k := 1) (n := 6) (Nat.le_of_ble_eq_true rfl) (Nat.le_of_ble_eq_true rfl) ?_
  refine vx_ret ?_
  exact W.iret hx hb hr (fun t ht hW => qk hP hD hS [] rfl ((fun k => k), (fun _ _ => none)) rfl rfl rfl ht) hS.2.2 d_L12_16
set_option maxRecDepth 100000 in
set_option maxHeartbeats 4000000 in
theorem c139_BModel_ally (l : Launch) (z : Zz) (a0 a1 a2 a3 a4 a5 a6 a7 a8 a9 a10 a11 a12 a13 : Nat) (x0 : Int32) (x1 : Int32) (h0 : ¬ x0 < 0) (h1 : (-1) < x0) : CT l z ⟨"BallothallModel", "ally", "(II)I"⟩ prog_14_method_40_code 4 (some .int) [.ref a0, .int x0, .int x1] [(a0, .inr (18, [.ref a1, .ref a2, .int 0, .ref a3, .int 0, .ref a4, .int 0, .null, .int 0, .null, .long 0, .int 0, .null])), (a1, .inr (17, [.int 0, .ref a5, .ref a6, .int 0, .ref a7, .ref a8, .ref a9, .null, .null, .int 0, .ref a10, .ref a11, .ref a12, .int 0, .ref a13, .int 1]))] 2 59 0 0 (fun u => some (.int 0)) (fun u => [(a0, .inr (18, [.ref a1, .ref a2, .int 0, .ref a3, .int 0, .ref a4, .int 1, .null, .int 0, .null, .long 0, .int 0, .null])), (a1, .inr (17, [.int 0, .ref a5, .ref a6, .int 0, .ref a7, .ref a8, .ref a9, .null, .null, .int 0, .ref a10, .ref a11, .ref a12, .int 0, .ref a13, .int 1]))]) := by
  refine CT.of (own := "BallothallModel") (by decide +kernel) (Nat.le_of_ble_eq_true rfl) rfl (fun p e s m below meth c A ls hx hb hml hr hts hown hlocks hin hA hG hZ hP hD hS hl => ?_)
  have hl : lv_has ls 4 [(0, .ref a0), (1, .int x0), (2, .int x1)] := hl
  refine lv_aload_n hx hb d_14_40_0 rfl (lv_at hl 0 rfl) ?_
  refine lv_aload_n hx hb d_14_40_1 rfl (lv_at hl 0 rfl) ?_
  refine lv_iload_n hx hb d_14_40_2 rfl (lv_at hl 1 rfl) ?_
  refine kV (As := [.int x0]) (rest := [.ref a0]) (wr := []) (c46_BModel_isList l z a0 a1 a2 a3 a4 a5 a6 a7 a8 a9 a10 a11 a12 a13 x0 h0 h1) hx hb hml hown hts w_1715 w_1712 w_1714 w_s_92f5e0 w_12 md_94944f ⟨Nat.le_of_ble_eq_true rfl, Nat.le_of_ble_eq_true rfl⟩ hG hZ hP hD hS hA 0 rfl rfl rfl [0, 1] [] rfl rfl rfl rfl rfl hl.1 rfl (Nat.le_of_ble_eq_true rfl) d_14_40_3 ⟨Nat.le_of_ble_eq_true rfl, Nat.le_of_ble_eq_true rfl⟩ (fun u0 H locs hP hD hS => ?_)
  have hP : va_P z.1 classes [(a0, .inr (18, [.ref a1, .ref a2, .int 0, .ref a3, .int 0, .ref a4, .int 0, .null, .int 0, .null, .long 0, .int 0, .null])), (a1, .inr (17, [.int 0, .ref a5, .ref a6, .int 0, .ref a7, .ref a8, .ref a9, .null, .null, .int 0, .ref a10, .ref a11, .ref a12, .int 0, .ref a13, .int 1]))] H := hP
  have hD : va_D A [(a0, .inr (18, [.ref a1, .ref a2, .int 0, .ref a3, .int 0, .ref a4, .int 0, .null, .int 0, .null, .long 0, .int 0, .null])), (a1, .inr (17, [.int 0, .ref a5, .ref a6, .int 0, .ref a7, .ref a8, .ref a9, .null, .null, .int 0, .ref a10, .ref a11, .ref a12, .int 0, .ref a13, .int 1]))] := hD
  refine W.eq (g2 := F0 m 6 ls [.int 0, .ref a0]) rfl ?_
  refine lv_iconst (v := 1) hx hb d_14_40_6 (by decide +kernel) ?_
  refine kV (As := [.int 0, .int 1]) (rest := []) (wr := [(a1, .inr (17, [.int 0, .ref a5, .ref a6, .int 0, .ref a7, .ref a8, .ref a9, .null, .null, .int 0, .ref a10, .ref a11, .ref a12, .int 0, .ref a13, .int 1]))]) (c31_BModel_ends l z a0 a1 a2 a3 a4) hx hb hml hown hts w_1696 w_1693 w_1695 w_s_f8f2b7 w_12 md_77b0f8 ⟨Nat.le_of_ble_eq_true rfl, Nat.le_of_ble_eq_true rfl⟩ hG hZ hP hD hS hA 0 rfl rfl rfl [0] [1] rfl rfl rfl rfl rfl hl.1 rfl (Nat.le_of_ble_eq_true rfl) d_14_40_7 ⟨Nat.le_of_ble_eq_true rfl, Nat.le_of_ble_eq_true rfl⟩ (fun u1 H locs hP hD hS => ?_)
  have hP : va_P z.1 classes [(a1, .inr (17, [.int 0, .ref a5, .ref a6, .int 0, .ref a7, .ref a8, .ref a9, .null, .null, .int 0, .ref a10, .ref a11, .ref a12, .int 0, .ref a13, .int 1])), (a0, .inr (18, [.ref a1, .ref a2, .int 0, .ref a3, .int 0, .ref a4, .int 1, .null, .int 0, .null, .long 0, .int 0, .null]))] H := hP
  have hD : va_D A [(a1, .inr (17, [.int 0, .ref a5, .ref a6, .int 0, .ref a7, .ref a8, .ref a9, .null, .null, .int 0, .ref a10, .ref a11, .ref a12, .int 0, .ref a13, .int 1])), (a0, .inr (18, [.ref a1, .ref a2, .int 0, .ref a3, .int 0, .ref a4, .int 1, .null, .int 0, .null, .long 0, .int 0, .null]))] := hD
  refine W.eq (g2 := F0 m 10 ls [.int 1]) rfl ?_
  refine lv_if_ne (tgt := 27) hx hb d_14_40_10 (by decide) (fun _ => ?_) (fun c9 => absurd c9 (by decide +kernel))
  refine lv_iconst (v := 0) hx hb d_14_40_27 (by decide +kernel) ?_
  refine W.widen (k := 0) (n := 0) (Nat.le_of_ble_eq_true rfl) (Nat.le_of_ble_eq_true rfl) ?_
  exact W.iret hx hb hr (fun t ht hW => qk hP hD hS [1, 0] rfl ((fun k => k), (fun _ _ => none)) rfl rfl rfl ht) hS.2.2 d_14_40_28
set_option maxRecDepth 100000 in
set_option maxHeartbeats 4000000 in
theorem c140_B_needRange (l : Launch) (z : Zz) (hl0 : l.stackTraces = false) (x0 : Int32) (h0 : x0 < 0) : XT l z ⟨"Ballothall", "needRange", "(III)V"⟩ prog_1_method_57_code 3 none [.int x0, .int 0, .int 5] [] 6 98 1 6 "java/lang/IllegalArgumentException" := by
  refine XT.of (own := "Ballothall") (by decide +kernel) (Nat.le_of_ble_eq_true rfl) rfl (fun p e s m below meth c A ls hx hb hml hr hts hown hlocks hin hA hG hZ hP hD hS hl hnt => ?_)
  have hl : lv_has ls 3 [(0, .int x0), (1, .int 0), (2, .int 5)] := hl
  refine lv_iload_n hx hb d_1_57_0 rfl (lv_at hl 0 rfl) ?_
  refine lv_iload_n hx hb d_1_57_1 rfl (lv_at hl 1 rfl) ?_
  refine lv_icmp_lt (tgt := 10) hx hb d_1_57_2 (by decide) (fun _ => ?_) (fun c9 => absurd h0 c9)
  exact x_newW (text := "out of range") hl0 hx hb hml hown hts hlocks hnt hG hZ hS hl.1 (by decide +kernel) w_877 w_21 (by decide) xa_310_a xa_310_b d_1_57_10 d_1_57_13 d_1_57_14 d_1_57_17 d_1_57_20 ⟨Nat.le_of_ble_eq_true rfl, Nat.le_of_ble_eq_true rfl, Nat.le_of_ble_eq_true rfl, Nat.le_of_ble_eq_true rfl⟩ (Nat.le_of_ble_eq_true rfl) (Nat.le_of_ble_eq_true rfl) (Nat.le_of_ble_eq_true rfl)
set_option maxRecDepth 100000 in
set_option maxHeartbeats 4000000 in
theorem c141_B_seats (l : Launch) (z : Zz) (hl0 : l.stackTraces = false) (a0 : Nat) (x0 : Int32) (x1 : Int32) (x2 : Int32) (h0 : x0 < 0) : XT l z ⟨"Ballothall", "seats", "(III)I"⟩ prog_1_method_13_code 5 (some .int) [.ref a0, .int x0, .int x1, .int x2] [] 7 128 1 6 "java/lang/IllegalArgumentException" := by
  refine XT.of (own := "Ballothall") (by decide +kernel) (Nat.le_of_ble_eq_true rfl) rfl (fun p e s m below meth c A ls hx hb hml hr hts hown hlocks hin hA hG hZ hP hD hS hl hnt => ?_)
  have hl : lv_has ls 5 [(0, .ref a0), (1, .int x0), (2, .int x1), (3, .int x2)] := hl
  refine lv_iload_n hx hb d_1_13_0 rfl (lv_at hl 1 rfl) ?_
  refine lv_iconst (v := 0) hx hb d_1_13_1 (by decide +kernel) ?_
  refine lv_iconst (v := 5) hx hb d_1_13_2 (by decide +kernel) ?_
  exact xS (As := [.int x0, .int 0, .int 5]) (rest := []) (wr := []) (c140_B_needRange l z hl0 x0 h0) hx hb hml hown hts w_876 w_874 w_875 w_1 md_519134 ⟨Nat.le_of_ble_eq_true rfl, Nat.le_of_ble_eq_true rfl⟩ hG hZ hP hD hS hA [] [] rfl rfl rfl rfl rfl hl.1 rfl (Nat.le_of_ble_eq_true rfl) d_1_13_3 ⟨Nat.le_of_ble_eq_true rfl, Nat.le_of_ble_eq_true rfl⟩ (fun q9 ce9 H locs hP hD hS h7 h8 h9 => x_out hnt hlocks hS h7 h8 h9 (Nat.le_of_ble_eq_true rfl) (Nat.le_of_ble_eq_true rfl))
set_option maxRecDepth 100000 in
set_option maxHeartbeats 4000000 in
theorem c142_BLaw_seats (l : Launch) (z : Zz) (hl0 : l.stackTraces = false) (a0 a1 a2 a3 a4 a5 a6 a7 a8 a9 a10 a11 a12 : Nat) (x0 : Int32) (x1 : Int32) (x2 : Int32) (h0 : x0 < 0) : HT l z ⟨"BallothallLaw", "seats", "(LBallothall;III[J)I"⟩ method_13_code 6 (some .int) [(0, 12, 15, 21)] [.ref a0, .int x0, .int x1, .int x2, .ref a1] [(a0, .inr (11, [.ref a2, .ref a3, .ref a4, .ref a5, .ref a6, .ref a7, .ref a8, .ref a9, .ref a10, .ref a11, .int 0, .int 0, .ref a12, .int 0]))] 8 160 1 6 (fun u => some (.int 1)) (fun u => [(a0, .inr (11, [.ref a2, .ref a3, .ref a4, .ref a5, .ref a6, .ref a7, .ref a8, .ref a9, .ref a10, .ref a11, .int 0, .int 0, .ref a12, .int 0]))]) := by
  refine HT.of (own := "BallothallLaw") (by decide +kernel) (Nat.le_of_ble_eq_true rfl) rfl (fun p e s m below meth c A ls hx hb hml hr hts hown hlocks hin hA hG hZ hP hD hS hl htab => ?_)
  have hl : lv_has ls 6 [(0, .ref a0), (1, .int x0), (2, .int x1), (3, .int x2), (4, .ref a1)] := hl
  refine lv_aload hx hb d_L13_0 (lv_at hl 4 rfl) ?_
  refine lv_iconst (v := 0) hx hb d_L13_2 (by decide +kernel) ?_
  refine lv_aload_n hx hb d_L13_3 rfl (lv_at hl 0 rfl) ?_
  refine lv_iload_n hx hb d_L13_4 rfl (lv_at hl 1 rfl) ?_
  refine lv_iload_n hx hb d_L13_5 rfl (lv_at hl 2 rfl) ?_
  refine lv_iload_n hx hb d_L13_6 rfl (lv_at hl 3 rfl) ?_
  refine xV (As := [.int x0, .int x1, .int x2]) (rest := [.int 0, .ref a1]) (wr := [(a0, .inr (11, [.ref a2, .ref a3, .ref a4, .ref a5, .ref a6, .ref a7, .ref a8, .ref a9, .ref a10, .ref a11, .int 0, .int 0, .ref a12, .int 0]))]) (c141_B_seats l z hl0 a0 x0 x1 x2 h0) hx hb hml hown hts w_998 w_995 w_996 w_997 w_1 md_fbc403 ⟨Nat.le_of_ble_eq_true rfl, Nat.le_of_ble_eq_true rfl⟩ hG hZ hP hD hS hA 0 rfl rfl rfl [] [0] rfl rfl rfl rfl rfl hl.1 rfl (Nat.le_of_ble_eq_true rfl) d_L13_7 ⟨Nat.le_of_ble_eq_true rfl, Nat.le_of_ble_eq_true rfl⟩ (fun q0 ce9 H locs hP hD hS h7 h8 h9 => ?_)
  have hP : va_P z.1 classes [(a0, .inr (11, [.ref a2, .ref a3, .ref a4, .ref a5, .ref a6, .ref a7, .ref a8, .ref a9, .ref a10, .ref a11, .int 0, .int 0, .ref a12, .int 0]))] H := hP
  have hD : va_D A [(a0, .inr (11, [.ref a2, .ref a3, .ref a4, .ref a5, .ref a6, .ref a7, .ref a8, .ref a9, .ref a10, .ref a11, .int 0, .int 0, .ref a12, .int 0]))] := hD
  refine vx_catch hown [] ⟨0, 12, 15, 21⟩ [] (htab.trans rfl) (fun _ h9 => absurd h9 List.not_mem_nil) rfl (by decide) (hts _ w_850) (va_Nw.use rfl (hG.2.1 _ n_879 rfl)) h7 h8 h9 ?_
  refine lv_astore (lv' := [(5, .ref q0), (0, .ref a0), (1, .int x0), (2, .int x1), (3, .int x2), (4, .ref a1)]) hx hb d_L13_15 hl (by decide) rfl (fun ls hl => ?_)
  refine lv_iconst (v := 1) hx hb d_L13_17 (by decide +kernel) ?_
  refine W.widen (k := 1) (n := 6) (Nat.le_of_ble_eq_true rfl) (Nat.le_of_ble_eq_true rfl) ?_
  refine vx_ret ?_
  exact W.iret hx hb hr (fun t ht hW => qk hP hD hS [0] rfl ((fun k => k), (fun _ _ => none)) rfl rfl rfl ht) hS.2.2 d_L13_18
set_option maxRecDepth 100000 in
set_option maxHeartbeats 4000000 in
theorem c143_BModel_isIn (l : Launch) (z : Zz) (x0 : Int32) (h0 : x0 < 0) : CT l z ⟨"BallothallModel", "isIn", "(III)Z"⟩ prog_14_method_20_code 3 (some .boolean) [.int x0, .int 0, .int 5] [] 0 0 0 0 (fun u => some (.int 0)) (fun u => []) := by
  refine CT.of (own := "BallothallModel") (by decide +kernel) (Nat.le_of_ble_eq_true rfl) rfl (fun p e s m below meth c A ls hx hb hml hr hts hown hlocks hin hA hG hZ hP hD hS hl => ?_)
  have hl : lv_has ls 3 [(0, .int x0), (1, .int 0), (2, .int 5)] := hl
  refine lv_iload_n hx hb d_14_20_0 rfl (lv_at hl 0 rfl) ?_
  refine lv_iload_n hx hb d_14_20_1 rfl (lv_at hl 1 rfl) ?_
  refine lv_icmp_lt (tgt := 14) hx hb d_14_20_2 (by decide) (fun _ => ?_) (fun c9 => absurd h0 c9)
  refine lv_iconst (v := 0) hx hb d_14_20_14 (by decide +kernel) ?_
  refine W.widen (k := 0) (n := 0) (Nat.le_of_ble_eq_true rfl) (Nat.le_of_ble_eq_true rfl) ?_
  exact W.zret hx hb hr rfl (fun t ht hW => qk hP hD hS [] rfl ((fun k => k), (fun _ _ => none)) rfl rfl rfl ht) hS.2.2 d_14_20_15
set_option maxRecDepth 100000 in
set_option maxHeartbeats 4000000 in
theorem c144_BModel_seats (l : Launch) (z : Zz) (a0 a1 a2 a3 a4 : Nat) (x0 : Int32) (x1 : Int32) (x2 : Int32) (h0 : x0 < 0) : CT l z ⟨"BallothallModel", "seats", "(III)I"⟩ prog_14_method_42_code 4 (some .int) [.ref a0, .int x0, .int x1, .int x2] [(a0, .inr (18, [.ref a1, .ref a2, .int 0, .ref a3, .int 0, .ref a4, .int 0, .null, .int 0, .null, .long 0, .int 0, .null]))] 1 30 0 0 (fun u => some (.int 0)) (fun u => [(a0, .inr (18, [.ref a1, .ref a2, .int 0, .ref a3, .int 0, .ref a4, .int 1, .null, .int 0, .null, .long 0, .int 0, .null]))]) := by
  refine CT.of (own := "BallothallModel") (by decide +kernel) (Nat.le_of_ble_eq_true rfl) rfl (fun p e s m below meth c A ls hx hb hml hr hts hown hlocks hin hA hG hZ hP hD hS hl => ?_)
  have hl : lv_has ls 4 [(0, .ref a0), (1, .int x0), (2, .int x1), (3, .int x2)] := hl
  refine lv_aload_n hx hb d_14_42_0 rfl (lv_at hl 0 rfl) ?_
  refine lv_iload_n hx hb d_14_42_1 rfl (lv_at hl 1 rfl) ?_
  refine lv_iconst (v := 0) hx hb d_14_42_2 (by decide +kernel) ?_
  refine lv_iconst (v := 5) hx hb d_14_42_3 (by decide +kernel) ?_
  refine kS (As := [.int x0, .int 0, .int 5]) (rest := [.ref a0]) (wr := [(a0, .inr (18, [.ref a1, .ref a2, .int 0, .ref a3, .int 0, .ref a4, .int 0, .null, .int 0, .null, .long 0, .int 0, .null]))]) (c143_BModel_isIn l z x0 h0) hx hb hml hown hts w_1718 w_1716 w_1717 w_12 md_bca45c ⟨Nat.le_of_ble_eq_true rfl, Nat.le_of_ble_eq_true rfl⟩ hG hZ hP hD hS hA [] [0] rfl rfl rfl rfl rfl hl.1 rfl (Nat.le_of_ble_eq_true rfl) d_14_42_4 ⟨Nat.le_of_ble_eq_true rfl, Nat.le_of_ble_eq_true rfl⟩ (fun u0 H locs hP hD hS => ?_)
  have hP : va_P z.1 classes [(a0, .inr (18, [.ref a1, .ref a2, .int 0, .ref a3, .int 0, .ref a4, .int 0, .null, .int 0, .null, .long 0, .int 0, .null]))] H := hP
  have hD : va_D A [(a0, .inr (18, [.ref a1, .ref a2, .int 0, .ref a3, .int 0, .ref a4, .int 0, .null, .int 0, .null, .long 0, .int 0, .null]))] := hD
  refine W.eq (g2 := F0 m 7 ls [.int 0, .ref a0]) rfl ?_
  refine lv_if_eq (tgt := 34) hx hb d_14_42_7 (by decide) (fun _ => ?_) (fun c9 => absurd (by decide +kernel) c9)
  refine lv_iconst (v := 0) hx hb d_14_42_34 (by decide +kernel) ?_
  refine lv_iconst (v := 1) hx hb d_14_42_35 (by decide +kernel) ?_
  refine kV (As := [.int 0, .int 1]) (rest := []) (wr := []) (c31_BModel_ends l z a0 a1 a2 a3 a4) hx hb hml hown hts w_1696 w_1693 w_1695 w_s_f8f2b7 w_12 md_77b0f8 ⟨Nat.le_of_ble_eq_true rfl, Nat.le_of_ble_eq_true rfl⟩ hG hZ hP hD hS hA 0 rfl rfl rfl [0] [] rfl rfl rfl rfl rfl hl.1 rfl (Nat.le_of_ble_eq_true rfl) d_14_42_36 ⟨Nat.le_of_ble_eq_true rfl, Nat.le_of_ble_eq_true rfl⟩ (fun u1 H locs hP hD hS => ?_)
  have hP : va_P z.1 classes [(a0, .inr (18, [.ref a1, .ref a2, .int 0, .ref a3, .int 0, .ref a4, .int 1, .null, .int 0, .null, .long 0, .int 0, .null]))] H := hP
  have hD : va_D A [(a0, .inr (18, [.ref a1, .ref a2, .int 0, .ref a3, .int 0, .ref a4, .int 1, .null, .int 0, .null, .long 0, .int 0, .null]))] := hD
  refine W.eq (g2 := F0 m 39 ls [.int 1]) rfl ?_
  refine lv_if_eq (tgt := 44) hx hb d_14_42_39 (by decide) (fun c9 => absurd c9 (by decide +kernel)) (fun _ => ?_)
  refine lv_iconst (v := 0) hx hb d_14_42_42 (by decide +kernel) ?_
  refine W.widen (k := 0) (n := 0) (Nat.le_of_ble_eq_true rfl) (Nat.le_of_ble_eq_true rfl) ?_
  exact W.iret hx hb hr (fun t ht hW => qk hP hD hS [0] rfl ((fun k => k), (fun _ _ => none)) rfl rfl rfl ht) hS.2.2 d_14_42_43
set_option maxRecDepth 100000 in
set_option maxHeartbeats 4000000 in
theorem c145_B_needRange (l : Launch) (z : Zz) (hl0 : l.stackTraces = false) (x0 : Int32) (h0 : ¬ x0 < 0) (h1 : 5 < x0) : XT l z ⟨"Ballothall", "needRange", "(III)V"⟩ prog_1_method_57_code 3 none [.int x0, .int 0, .int 5] [] 6 98 1 6 "java/lang/IllegalArgumentException" := by
  refine XT.of (own := "Ballothall") (by decide +kernel) (Nat.le_of_ble_eq_true rfl) rfl (fun p e s m below meth c A ls hx hb hml hr hts hown hlocks hin hA hG hZ hP hD hS hl hnt => ?_)
  have hl : lv_has ls 3 [(0, .int x0), (1, .int 0), (2, .int 5)] := hl
  refine lv_iload_n hx hb d_1_57_0 rfl (lv_at hl 0 rfl) ?_
  refine lv_iload_n hx hb d_1_57_1 rfl (lv_at hl 1 rfl) ?_
  refine lv_icmp_lt (tgt := 10) hx hb d_1_57_2 (by decide) (fun c9 => absurd c9 h0) (fun _ => ?_)
  refine lv_iload_n hx hb d_1_57_5 rfl (lv_at hl 0 rfl) ?_
  refine lv_iload_n hx hb d_1_57_6 rfl (lv_at hl 2 rfl) ?_
  refine lv_icmp_le (tgt := 21) hx hb d_1_57_7 (by decide) (fun c9 => absurd c9 (Int32.not_le.mpr h1)) (fun _ => ?_)
  exact x_newW (text := "out of range") hl0 hx hb hml hown hts hlocks hnt hG hZ hS hl.1 (by decide +kernel) w_877 w_21 (by decide) xa_310_a xa_310_b d_1_57_10 d_1_57_13 d_1_57_14 d_1_57_17 d_1_57_20 ⟨Nat.le_of_ble_eq_true rfl, Nat.le_of_ble_eq_true rfl, Nat.le_of_ble_eq_true rfl, Nat.le_of_ble_eq_true rfl⟩ (Nat.le_of_ble_eq_true rfl) (Nat.le_of_ble_eq_true rfl) (Nat.le_of_ble_eq_true rfl)
set_option maxRecDepth 100000 in
set_option maxHeartbeats 4000000 in
theorem c146_B_seats (l : Launch) (z : Zz) (hl0 : l.stackTraces = false) (a0 : Nat) (x0 : Int32) (x1 : Int32) (x2 : Int32) (h0 : ¬ x0 < 0) (h1 : 5 < x0) : XT l z ⟨"Ballothall", "seats", "(III)I"⟩ prog_1_method_13_code 5 (some .int) [.ref a0, .int x0, .int x1, .int x2] [] 7 128 1 6 "java/lang/IllegalArgumentException" := by
  refine XT.of (own := "Ballothall") (by decide +kernel) (Nat.le_of_ble_eq_true rfl) rfl (fun p e s m below meth c A ls hx hb hml hr hts hown hlocks hin hA hG hZ hP hD hS hl hnt => ?_)
  have hl : lv_has ls 5 [(0, .ref a0), (1, .int x0), (2, .int x1), (3, .int x2)] := hl
  refine lv_iload_n hx hb d_1_13_0 rfl (lv_at hl 1 rfl) ?_
  refine lv_iconst (v := 0) hx hb d_1_13_1 (by decide +kernel) ?_
  refine lv_iconst (v := 5) hx hb d_1_13_2 (by decide +kernel) ?_
  exact xS (As := [.int x0, .int 0, .int 5]) (rest := []) (wr := []) (c145_B_needRange l z hl0 x0 h0 h1) hx hb hml hown hts w_876 w_874 w_875 w_1 md_519134 ⟨Nat.le_of_ble_eq_true rfl, Nat.le_of_ble_eq_true rfl⟩ hG hZ hP hD hS hA [] [] rfl rfl rfl rfl rfl hl.1 rfl (Nat.le_of_ble_eq_true rfl) d_1_13_3 ⟨Nat.le_of_ble_eq_true rfl, Nat.le_of_ble_eq_true rfl⟩ (fun q9 ce9 H locs hP hD hS h7 h8 h9 => x_out hnt hlocks hS h7 h8 h9 (Nat.le_of_ble_eq_true rfl) (Nat.le_of_ble_eq_true rfl))
set_option maxRecDepth 100000 in
set_option maxHeartbeats 4000000 in
theorem c147_BLaw_seats (l : Launch) (z : Zz) (hl0 : l.stackTraces = false) (a0 a1 a2 a3 a4 a5 a6 a7 a8 a9 a10 a11 a12 : Nat) (x0 : Int32) (x1 : Int32) (x2 : Int32) (h0 : ¬ x0 < 0) (h1 : 5 < x0) : HT l z ⟨"BallothallLaw", "seats", "(LBallothall;III[J)I"⟩ method_13_code 6 (some .int) [(0, 12, 15, 21)] [.ref a0, .int x0, .int x1, .int x2, .ref a1] [(a0, .inr (11, [.ref a2, .ref a3, .ref a4, .ref a5, .ref a6, .ref a7, .ref a8, .ref a9, .ref a10, .ref a11, .int 0, .int 0, .ref a12, .int 0]))] 8 160 1 6 (fun u => some (.int 1)) (fun u => [(a0, .inr (11, [.ref a2, .ref a3, .ref a4, .ref a5, .ref a6, .ref a7, .ref a8, .ref a9, .ref a10, .ref a11, .int 0, .int 0, .ref a12, .int 0]))]) := by
  refine HT.of (own := "BallothallLaw") (by decide +kernel) (Nat.le_of_ble_eq_true rfl) rfl (fun p e s m below meth c A ls hx hb hml hr hts hown hlocks hin hA hG hZ hP hD hS hl htab => ?_)
  have hl : lv_has ls 6 [(0, .ref a0), (1, .int x0), (2, .int x1), (3, .int x2), (4, .ref a1)] := hl
  refine lv_aload hx hb d_L13_0 (lv_at hl 4 rfl) ?_
  refine lv_iconst (v := 0) hx hb d_L13_2 (by decide +kernel) ?_
  refine lv_aload_n hx hb d_L13_3 rfl (lv_at hl 0 rfl) ?_
  refine lv_iload_n hx hb d_L13_4 rfl (lv_at hl 1 rfl) ?_
  refine lv_iload_n hx hb d_L13_5 rfl (lv_at hl 2 rfl) ?_
  refine lv_iload_n hx hb d_L13_6 rfl (lv_at hl 3 rfl) ?_
  refine xV (As := [.int x0, .int x1, .int x2]) (rest := [.int 0, .ref a1]) (wr := [(a0, .inr (11, [.ref a2, .ref a3, .ref a4, .ref a5, .ref a6, .ref a7, .ref a8, .ref a9, .ref a10, .ref a11, .int 0, .int 0, .ref a12, .int 0]))]) (c146_B_seats l z hl0 a0 x0 x1 x2 h0 h1) hx hb hml hown hts w_998 w_995 w_996 w_997 w_1 md_fbc403 ⟨Nat.le_of_ble_eq_true rfl, Nat.le_of_ble_eq_true rfl⟩ hG hZ hP hD hS hA 0 rfl rfl rfl [] [0] rfl rfl rfl rfl rfl hl.1 rfl (Nat.le_of_ble_eq_true rfl) d_L13_7 ⟨Nat.le_of_ble_eq_true rfl, Nat.le_of_ble_eq_true rfl⟩ (fun q0 ce9 H locs hP hD hS h7 h8 h9 => ?_)
  have hP : va_P z.1 classes [(a0, .inr (11, [.ref a2, .ref a3, .ref a4, .ref a5, .ref a6, .ref a7, .ref a8, .ref a9, .ref a10, .ref a11, .int 0, .int 0, .ref a12, .int 0]))] H := hP
  have hD : va_D A [(a0, .inr (11, [.ref a2, .ref a3, .ref a4, .ref a5, .ref a6, .ref a7, .ref a8, .ref a9, .ref a10, .ref a11, .int 0, .int 0, .ref a12, .int 0]))] := hD
  refine vx_catch hown [] ⟨0, 12, 15, 21⟩ [] (htab.trans rfl) (fun _ h9 => absurd h9 List.not_mem_nil) rfl (by decide) (hts _ w_850) (va_Nw.use rfl (hG.2.1 _ n_879 rfl)) h7 h8 h9 ?_
  refine lv_astore (lv' := [(5, .ref q0), (0, .ref a0), (1, .int x0), (2, .int x1), (3, .int x2), (4, .ref a1)]) hx hb d_L13_15 hl (by decide) rfl (fun ls hl => ?_)
  refine lv_iconst (v := 1) hx hb d_L13_17 (by decide +kernel) ?_
  refine W.widen (k := 1) (n := 6) (Nat.le_of_ble_eq_true rfl) (Nat.le_of_ble_eq_true rfl) ?_
  refine vx_ret ?_
  exact W.iret hx hb hr (fun t ht hW => qk hP hD hS [0] rfl ((fun k => k), (fun _ _ => none)) rfl rfl rfl ht) hS.2.2 d_L13_18
set_option maxRecDepth 100000 in
set_option maxHeartbeats 4000000 in
theorem c148_BModel_isIn (l : Launch) (z : Zz) (x0 : Int32) (h0 : ¬ x0 < 0) (h1 : 5 < x0) : CT l z ⟨"BallothallModel", "isIn", "(III)Z"⟩ prog_14_method_20_code 3 (some .boolean) [.int x0, .int 0, .int 5] [] 0 0 0 0 (fun u => some (.int 0)) (fun u => []) := by
  refine CT.of (own := "BallothallModel") (by decide +kernel) (Nat.le_of_ble_eq_true rfl) rfl (fun p e s m below meth c A ls hx hb hml hr hts hown hlocks hin hA hG hZ hP hD hS hl => ?_)
  have hl : lv_has ls 3 [(0, .int x0), (1, .int 0), (2, .int 5)] := hl
  refine lv_iload_n hx hb d_14_20_0 rfl (lv_at hl 0 rfl) ?_
  refine lv_iload_n hx hb d_14_20_1 rfl (lv_at hl 1 rfl) ?_
  refine lv_icmp_lt (tgt := 14) hx hb d_14_20_2 (by decide) (fun c9 => absurd c9 h0) (fun _ => ?_)
  refine lv_iload_n hx hb d_14_20_5 rfl (lv_at hl 0 rfl) ?_
  refine lv_iload_n hx hb d_14_20_6 rfl (lv_at hl 2 rfl) ?_
  refine lv_icmp_gt (tgt := 14) hx hb d_14_20_7 (by decide) (fun _ => ?_) (fun c9 => absurd h1 c9)
  refine lv_iconst (v := 0) hx hb d_14_20_14 (by decide +kernel) ?_
  refine W.widen (k := 0) (n := 0) (Nat.le_of_ble_eq_true rfl) (Nat.le_of_ble_eq_true rfl) ?_
  exact W.zret hx hb hr rfl (fun t ht hW => qk hP hD hS [] rfl ((fun k => k), (fun _ _ => none)) rfl rfl rfl ht) hS.2.2 d_14_20_15
set_option maxRecDepth 100000 in
set_option maxHeartbeats 4000000 in
theorem c149_BModel_seats (l : Launch) (z : Zz) (a0 a1 a2 a3 a4 : Nat) (x0 : Int32) (x1 : Int32) (x2 : Int32) (h0 : ¬ x0 < 0) (h1 : 5 < x0) : CT l z ⟨"BallothallModel", "seats", "(III)I"⟩ prog_14_method_42_code 4 (some .int) [.ref a0, .int x0, .int x1, .int x2] [(a0, .inr (18, [.ref a1, .ref a2, .int 0, .ref a3, .int 0, .ref a4, .int 0, .null, .int 0, .null, .long 0, .int 0, .null]))] 1 30 0 0 (fun u => some (.int 0)) (fun u => [(a0, .inr (18, [.ref a1, .ref a2, .int 0, .ref a3, .int 0, .ref a4, .int 1, .null, .int 0, .null, .long 0, .int 0, .null]))]) := by
  refine CT.of (own := "BallothallModel") (by decide +kernel) (Nat.le_of_ble_eq_true rfl) rfl (fun p e s m below meth c A ls hx hb hml hr hts hown hlocks hin hA hG hZ hP hD hS hl => ?_)
  have hl : lv_has ls 4 [(0, .ref a0), (1, .int x0), (2, .int x1), (3, .int x2)] := hl
  refine lv_aload_n hx hb d_14_42_0 rfl (lv_at hl 0 rfl) ?_
  refine lv_iload_n hx hb d_14_42_1 rfl (lv_at hl 1 rfl) ?_
  refine lv_iconst (v := 0) hx hb d_14_42_2 (by decide +kernel) ?_
  refine lv_iconst (v := 5) hx hb d_14_42_3 (by decide +kernel) ?_
  refine kS (As := [.int x0, .int 0, .int 5]) (rest := [.ref a0]) (wr := [(a0, .inr (18, [.ref a1, .ref a2, .int 0, .ref a3, .int 0, .ref a4, .int 0, .null, .int 0, .null, .long 0, .int 0, .null]))]) (c148_BModel_isIn l z x0 h0 h1) hx hb hml hown hts w_1718 w_1716 w_1717 w_12 md_bca45c ⟨Nat.le_of_ble_eq_true rfl, Nat.le_of_ble_eq_true rfl⟩ hG hZ hP hD hS hA [] [0] rfl rfl rfl rfl rfl hl.1 rfl (Nat.le_of_ble_eq_true rfl) d_14_42_4 ⟨Nat.le_of_ble_eq_true rfl, Nat.le_of_ble_eq_true rfl⟩ (fun u0 H locs hP hD hS => ?_)
  have hP : va_P z.1 classes [(a0, .inr (18, [.ref a1, .ref a2, .int 0, .ref a3, .int 0, .ref a4, .int 0, .null, .int 0, .null, .long 0, .int 0, .null]))] H := hP
  have hD : va_D A [(a0, .inr (18, [.ref a1, .ref a2, .int 0, .ref a3, .int 0, .ref a4, .int 0, .null, .int 0, .null, .long 0, .int 0, .null]))] := hD
  refine W.eq (g2 := F0 m 7 ls [.int 0, .ref a0]) rfl ?_
  refine lv_if_eq (tgt := 34) hx hb d_14_42_7 (by decide) (fun _ => ?_) (fun c9 => absurd (by decide +kernel) c9)
  refine lv_iconst (v := 0) hx hb d_14_42_34 (by decide +kernel) ?_
  refine lv_iconst (v := 1) hx hb d_14_42_35 (by decide +kernel) ?_
  refine kV (As := [.int 0, .int 1]) (rest := []) (wr := []) (c31_BModel_ends l z a0 a1 a2 a3 a4) hx hb hml hown hts w_1696 w_1693 w_1695 w_s_f8f2b7 w_12 md_77b0f8 ⟨Nat.le_of_ble_eq_true rfl, Nat.le_of_ble_eq_true rfl⟩ hG hZ hP hD hS hA 0 rfl rfl rfl [0] [] rfl rfl rfl rfl rfl hl.1 rfl (Nat.le_of_ble_eq_true rfl) d_14_42_36 ⟨Nat.le_of_ble_eq_true rfl, Nat.le_of_ble_eq_true rfl⟩ (fun u1 H locs hP hD hS => ?_)
  have hP : va_P z.1 classes [(a0, .inr (18, [.ref a1, .ref a2, .int 0, .ref a3, .int 0, .ref a4, .int 1, .null, .int 0, .null, .long 0, .int 0, .null]))] H := hP
  have hD : va_D A [(a0, .inr (18, [.ref a1, .ref a2, .int 0, .ref a3, .int 0, .ref a4, .int 1, .null, .int 0, .null, .long 0, .int 0, .null]))] := hD
  refine W.eq (g2 := F0 m 39 ls [.int 1]) rfl ?_
  refine lv_if_eq (tgt := 44) hx hb d_14_42_39 (by decide) (fun c9 => absurd c9 (by decide +kernel)) (fun _ => ?_)
  refine lv_iconst (v := 0) hx hb d_14_42_42 (by decide +kernel) ?_
  refine W.widen (k := 0) (n := 0) (Nat.le_of_ble_eq_true rfl) (Nat.le_of_ble_eq_true rfl) ?_
  exact W.iret hx hb hr (fun t ht hW => qk hP hD hS [0] rfl ((fun k => k), (fun _ _ => none)) rfl rfl rfl ht) hS.2.2 d_14_42_43
set_option maxRecDepth 100000 in
set_option maxHeartbeats 4000000 in
theorem c150_B_needRange (l : Launch) (z : Zz) (x0 : Int32) (h0 : ¬ x0 < 0) (h1 : ¬ 5 < x0) : CT l z ⟨"Ballothall", "needRange", "(III)V"⟩ prog_1_method_57_code 3 none [.int x0, .int 0, .int 5] [] 0 0 0 0 (fun u => none) (fun u => []) := by
  refine CT.of (own := "Ballothall") (by decide +kernel) (Nat.le_of_ble_eq_true rfl) rfl (fun p e s m below meth c A ls hx hb hml hr hts hown hlocks hin hA hG hZ hP hD hS hl => ?_)
  have hl : lv_has ls 3 [(0, .int x0), (1, .int 0), (2, .int 5)] := hl
  refine lv_iload_n hx hb d_1_57_0 rfl (lv_at hl 0 rfl) ?_
  refine lv_iload_n hx hb d_1_57_1 rfl (lv_at hl 1 rfl) ?_
  refine lv_icmp_lt (tgt := 10) hx hb d_1_57_2 (by decide) (fun c9 => absurd c9 h0) (fun _ => ?_)
  refine lv_iload_n hx hb d_1_57_5 rfl (lv_at hl 0 rfl) ?_
  refine lv_iload_n hx hb d_1_57_6 rfl (lv_at hl 2 rfl) ?_
  refine lv_icmp_le (tgt := 21) hx hb d_1_57_7 (by decide) (fun _ => ?_) (fun c9 => absurd (Int32.not_lt.mp h1) c9)
  refine W.widen (k := 0) (n := 0) (Nat.le_of_ble_eq_true rfl) (Nat.le_of_ble_eq_true rfl) ?_
  exact W.vret hx hb hr (fun t ht hW => qk hP hD hS [] rfl ((fun k => k), (fun _ _ => none)) rfl rfl rfl ht) hS.2.2 d_1_57_21
set_option maxRecDepth 100000 in
set_option maxHeartbeats 4000000 in
theorem c151_B_needRange (l : Launch) (z : Zz) (hl0 : l.stackTraces = false) (x0 : Int32) (h0 : x0 < 1) : XT l z ⟨"Ballothall", "needRange", "(III)V"⟩ prog_1_method_57_code 3 none [.int x0, .int 1, .int 60] [] 6 98 1 6 "java/lang/IllegalArgumentException" := by
  refine XT.of (own := "Ballothall") (by decide +kernel) (Nat.le_of_ble_eq_true rfl) rfl (fun p e s m below meth c A ls hx hb hml hr hts hown hlocks hin hA hG hZ hP hD hS hl hnt => ?_)
  have hl : lv_has ls 3 [(0, .int x0), (1, .int 1), (2, .int 60)] := hl
  refine lv_iload_n hx hb d_1_57_0 rfl (lv_at hl 0 rfl) ?_
  refine lv_iload_n hx hb d_1_57_1 rfl (lv_at hl 1 rfl) ?_
  refine lv_icmp_lt (tgt := 10) hx hb d_1_57_2 (by decide) (fun _ => ?_) (fun c9 => absurd h0 c9)
  exact x_newW (text := "out of range") hl0 hx hb hml hown hts hlocks hnt hG hZ hS hl.1 (by decide +kernel) w_877 w_21 (by decide) xa_310_a xa_310_b d_1_57_10 d_1_57_13 d_1_57_14 d_1_57_17 d_1_57_20 ⟨Nat.le_of_ble_eq_true rfl, Nat.le_of_ble_eq_true rfl, Nat.le_of_ble_eq_true rfl, Nat.le_of_ble_eq_true rfl⟩ (Nat.le_of_ble_eq_true rfl) (Nat.le_of_ble_eq_true rfl) (Nat.le_of_ble_eq_true rfl)
set_option maxRecDepth 100000 in
set_option maxHeartbeats 4000000 in
theorem c152_B_seats (l : Launch) (z : Zz) (hl0 : l.stackTraces = false) (a0 : Nat) (x0 : Int32) (x1 : Int32) (x2 : Int32) (h0 : ¬ x0 < 0) (h1 : ¬ 5 < x0) (h2 : x1 < 1) : XT l z ⟨"Ballothall", "seats", "(III)I"⟩ prog_1_method_13_code 5 (some .int) [.ref a0, .int x0, .int x1, .int x2] [] 7 128 1 6 "java/lang/IllegalArgumentException" := by
  refine XT.of (own := "Ballothall") (by decide +kernel) (Nat.le_of_ble_eq_true rfl) rfl (fun p e s m below meth c A ls hx hb hml hr hts hown hlocks hin hA hG hZ hP hD hS hl hnt => ?_)
  have hl : lv_has ls 5 [(0, .ref a0), (1, .int x0), (2, .int x1), (3, .int x2)] := hl
  refine lv_iload_n hx hb d_1_13_0 rfl (lv_at hl 1 rfl) ?_
  refine lv_iconst (v := 0) hx hb d_1_13_1 (by decide +kernel) ?_
  refine lv_iconst (v := 5) hx hb d_1_13_2 (by decide +kernel) ?_
  refine kS (As := [.int x0, .int 0, .int 5]) (rest := []) (wr := []) (c150_B_needRange l z x0 h0 h1) hx hb hml hown hts w_876 w_874 w_875 w_1 md_519134 ⟨Nat.le_of_ble_eq_true rfl, Nat.le_of_ble_eq_true rfl⟩ hG hZ hP hD hS hA [] [] rfl rfl rfl rfl rfl hl.1 rfl (Nat.le_of_ble_eq_true rfl) d_1_13_3 ⟨Nat.le_of_ble_eq_true rfl, Nat.le_of_ble_eq_true rfl⟩ (fun u0 H locs hP hD hS => ?_)
  have hP : va_P z.1 classes [] H := hP
  have hD : va_D A [] := hD
  refine W.eq (g2 := F0 m 6 ls []) rfl ?_
  refine lv_iload_n hx hb d_1_13_6 rfl (lv_at hl 2 rfl) ?_
  refine lv_iconst (v := 1) hx hb d_1_13_7 (by decide +kernel) ?_
  refine lv_bipush (v := 60) hx hb d_1_13_8 (by decide +kernel) ?_
  exact xS (As := [.int x1, .int 1, .int 60]) (rest := []) (wr := []) (c151_B_needRange l z hl0 x1 h2) hx hb hml hown hts w_876 w_874 w_875 w_1 md_519134 ⟨Nat.le_of_ble_eq_true rfl, Nat.le_of_ble_eq_true rfl⟩ hG hZ hP hD hS hA [] [] rfl rfl rfl rfl rfl hl.1 rfl (Nat.le_of_ble_eq_true rfl) d_1_13_10 ⟨Nat.le_of_ble_eq_true rfl, Nat.le_of_ble_eq_true rfl⟩ (fun q9 ce9 H locs hP hD hS h7 h8 h9 => x_out hnt hlocks hS h7 h8 h9 (Nat.le_of_ble_eq_true rfl) (Nat.le_of_ble_eq_true rfl))
set_option maxRecDepth 100000 in
set_option maxHeartbeats 4000000 in
theorem c153_BLaw_seats (l : Launch) (z : Zz) (hl0 : l.stackTraces = false) (a0 a1 a2 a3 a4 a5 a6 a7 a8 a9 a10 a11 a12 : Nat) (x0 : Int32) (x1 : Int32) (x2 : Int32) (h0 : ¬ x0 < 0) (h1 : ¬ 5 < x0) (h2 : x1 < 1) : HT l z ⟨"BallothallLaw", "seats", "(LBallothall;III[J)I"⟩ method_13_code 6 (some .int) [(0, 12, 15, 21)] [.ref a0, .int x0, .int x1, .int x2, .ref a1] [(a0, .inr (11, [.ref a2, .ref a3, .ref a4, .ref a5, .ref a6, .ref a7, .ref a8, .ref a9, .ref a10, .ref a11, .int 0, .int 0, .ref a12, .int 0]))] 8 160 1 6 (fun u => some (.int 1)) (fun u => [(a0, .inr (11, [.ref a2, .ref a3, .ref a4, .ref a5, .ref a6, .ref a7, .ref a8, .ref a9, .ref a10, .ref a11, .int 0, .int 0, .ref a12, .int 0]))]) := by
  refine HT.of (own := "BallothallLaw") (by decide +kernel) (Nat.le_of_ble_eq_true rfl) rfl (fun p e s m below meth c A ls hx hb hml hr hts hown hlocks hin hA hG hZ hP hD hS hl htab => ?_)
  have hl : lv_has ls 6 [(0, .ref a0), (1, .int x0), (2, .int x1), (3, .int x2), (4, .ref a1)] := hl
  refine lv_aload hx hb d_L13_0 (lv_at hl 4 rfl) ?_
  refine lv_iconst (v := 0) hx hb d_L13_2 (by decide +kernel) ?_
  refine lv_aload_n hx hb d_L13_3 rfl (lv_at hl 0 rfl) ?_
  refine lv_iload_n hx hb d_L13_4 rfl (lv_at hl 1 rfl) ?_
  refine lv_iload_n hx hb d_L13_5 rfl (lv_at hl 2 rfl) ?_
  refine lv_iload_n hx hb d_L13_6 rfl (lv_at hl 3 rfl) ?_
  refine xV (As := [.int x0, .int x1, .int x2]) (rest := [.int 0, .ref a1]) (wr := [(a0, .inr (11, [.ref a2, .ref a3, .ref a4, .ref a5, .ref a6, .ref a7, .ref a8, .ref a9, .ref a10, .ref a11, .int 0, .int 0, .ref a12, .int 0]))]) (c152_B_seats l z hl0 a0 x0 x1 x2 h0 h1 h2) hx hb hml hown hts w_998 w_995 w_996 w_997 w_1 md_fbc403 ⟨Nat.le_of_ble_eq_true rfl, Nat.le_of_ble_eq_true rfl⟩ hG hZ hP hD hS hA 0 rfl rfl rfl [] [0] rfl rfl rfl rfl rfl hl.1 rfl (Nat.le_of_ble_eq_true rfl) d_L13_7 ⟨Nat.le_of_ble_eq_true rfl, Nat.le_of_ble_eq_true rfl⟩ (fun q0 ce9 H locs hP hD hS h7 h8 h9 => ?_)
  have hP : va_P z.1 classes [(a0, .inr (11, [.ref a2, .ref a3, .ref a4, .ref a5, .ref a6, .ref a7, .ref a8, .ref a9, .ref a10, .ref a11, .int 0, .int 0, .ref a12, .int 0]))] H := hP
  have hD : va_D A [(a0, .inr (11, [.ref a2, .ref a3, .ref a4, .ref a5, .ref a6, .ref a7, .ref a8, .ref a9, .ref a10, .ref a11, .int 0, .int 0, .ref a12, .int 0]))] := hD
  refine vx_catch hown [] ⟨0, 12, 15, 21⟩ [] (htab.trans rfl) (fun _ h9 => absurd h9 List.not_mem_nil) rfl (by decide) (hts _ w_850) (va_Nw.use rfl (hG.2.1 _ n_879 rfl)) h7 h8 h9 ?_
  refine lv_astore (lv' := [(5, .ref q0), (0, .ref a0), (1, .int x0), (2, .int x1), (3, .int x2), (4, .ref a1)]) hx hb d_L13_15 hl (by decide) rfl (fun ls hl => ?_)
  refine lv_iconst (v := 1) hx hb d_L13_17 (by decide +kernel) ?_
  refine W.widen (k := 1) (n := 6) (Nat.le_of_ble_eq_true rfl) (Nat.le_of_ble_eq_true rfl) ?_
  refine vx_ret ?_
  exact W.iret hx hb hr (fun t ht hW => qk hP hD hS [0] rfl ((fun k => k), (fun _ _ => none)) rfl rfl rfl ht) hS.2.2 d_L13_18
set_option maxRecDepth 100000 in
set_option maxHeartbeats 4000000 in
theorem c154_BModel_isIn (l : Launch) (z : Zz) (x0 : Int32) (h0 : ¬ x0 < 0) (h1 : ¬ 5 < x0) : CT l z ⟨"BallothallModel", "isIn", "(III)Z"⟩ prog_14_method_20_code 3 (some .boolean) [.int x0, .int 0, .int 5] [] 0 0 0 0 (fun u => some (.int 1)) (fun u => []) := by
  refine CT.of (own := "BallothallModel") (by decide +kernel) (Nat.le_of_ble_eq_true rfl) rfl (fun p e s m below meth c A ls hx hb hml hr hts hown hlocks hin hA hG hZ hP hD hS hl => ?_)
  have hl : lv_has ls 3 [(0, .int x0), (1, .int 0), (2, .int 5)] := hl
  refine lv_iload_n hx hb d_14_20_0 rfl (lv_at hl 0 rfl) ?_
  refine lv_iload_n hx hb d_14_20_1 rfl (lv_at hl 1 rfl) ?_
  refine lv_icmp_lt (tgt := 14) hx hb d_14_20_2 (by decide) (fun c9 => absurd c9 h0) (fun _ => ?_)
  refine lv_iload_n hx hb d_14_20_5 rfl (lv_at hl 0 rfl) ?_
  refine lv_iload_n hx hb d_14_20_6 rfl (lv_at hl 2 rfl) ?_
  refine lv_icmp_gt (tgt := 14) hx hb d_14_20_7 (by decide) (fun c9 => absurd c9 h1) (fun _ => ?_)
  refine lv_iconst (v := 1) hx hb d_14_20_10 (by decide +kernel) ?_
  refine lv_goto (tgt := 15) hx hb d_14_20_11 (by decide) ?_
  refine W.widen (k := 0) (n := 0) (Nat.le_of_ble_eq_true rfl) (Nat.le_of_ble_eq_true rfl) ?_
  exact W.zret hx hb hr rfl (fun t ht hW => qk hP hD hS [] rfl ((fun k => k), (fun _ _ => none)) rfl rfl rfl ht) hS.2.2 d_14_20_15
set_option maxRecDepth 100000 in
set_option maxHeartbeats 4000000 in
theorem c155_BModel_isIn (l : Launch) (z : Zz) (x0 : Int32) (h0 : x0 < 1) : CT l z ⟨"BallothallModel", "isIn", "(III)Z"⟩ prog_14_method_20_code 3 (some .boolean) [.int x0, .int 1, .int 60] [] 0 0 0 0 (fun u => some (.int 0)) (fun u => []) := by
  refine CT.of (own := "BallothallModel") (by decide +kernel) (Nat.le_of_ble_eq_true rfl) rfl (fun p e s m below meth c A ls hx hb hml hr hts hown hlocks hin hA hG hZ hP hD hS hl => ?_)
  have hl : lv_has ls 3 [(0, .int x0), (1, .int 1), (2, .int 60)] := hl
  refine lv_iload_n hx hb d_14_20_0 rfl (lv_at hl 0 rfl) ?_
  refine lv_iload_n hx hb d_14_20_1 rfl (lv_at hl 1 rfl) ?_
  refine lv_icmp_lt (tgt := 14) hx hb d_14_20_2 (by decide) (fun _ => ?_) (fun c9 => absurd h0 c9)
  refine lv_iconst (v := 0) hx hb d_14_20_14 (by decide +kernel) ?_
  refine W.widen (k := 0) (n := 0) (Nat.le_of_ble_eq_true rfl) (Nat.le_of_ble_eq_true rfl) ?_
  exact W.zret hx hb hr rfl (fun t ht hW => qk hP hD hS [] rfl ((fun k => k), (fun _ _ => none)) rfl rfl rfl ht) hS.2.2 d_14_20_15
set_option maxRecDepth 100000 in
set_option maxHeartbeats 4000000 in
theorem c156_BModel_seats (l : Launch) (z : Zz) (a0 a1 a2 a3 a4 : Nat) (x0 : Int32) (x1 : Int32) (x2 : Int32) (h0 : ¬ x0 < 0) (h1 : ¬ 5 < x0) (h2 : x1 < 1) : CT l z ⟨"BallothallModel", "seats", "(III)I"⟩ prog_14_method_42_code 4 (some .int) [.ref a0, .int x0, .int x1, .int x2] [(a0, .inr (18, [.ref a1, .ref a2, .int 0, .ref a3, .int 0, .ref a4, .int 0, .null, .int 0, .null, .long 0, .int 0, .null]))] 1 30 0 0 (fun u => some (.int 0)) (fun u => [(a0, .inr (18, [.ref a1, .ref a2, .int 0, .ref a3, .int 0, .ref a4, .int 1, .null, .int 0, .null, .long 0, .int 0, .null]))]) := by
  refine CT.of (own := "BallothallModel") (by decide +kernel) (Nat.le_of_ble_eq_true rfl) rfl (fun p e s m below meth c A ls hx hb hml hr hts hown hlocks hin hA hG hZ hP hD hS hl => ?_)
  have hl : lv_has ls 4 [(0, .ref a0), (1, .int x0), (2, .int x1), (3, .int x2)] := hl
  refine lv_aload_n hx hb d_14_42_0 rfl (lv_at hl 0 rfl) ?_
  refine lv_iload_n hx hb d_14_42_1 rfl (lv_at hl 1 rfl) ?_
  refine lv_iconst (v := 0) hx hb d_14_42_2 (by decide +kernel) ?_
  refine lv_iconst (v := 5) hx hb d_14_42_3 (by decide +kernel) ?_
  refine kS (As := [.int x0, .int 0, .int 5]) (rest := [.ref a0]) (wr := [(a0, .inr (18, [.ref a1, .ref a2, .int 0, .ref a3, .int 0, .ref a4, .int 0, .null, .int 0, .null, .long 0, .int 0, .null]))]) (c154_BModel_isIn l z x0 h0 h1) hx hb hml hown hts w_1718 w_1716 w_1717 w_12 md_bca45c ⟨Nat.le_of_ble_eq_true rfl, Nat.le_of_ble_eq_true rfl⟩ hG hZ hP hD hS hA [] [0] rfl rfl rfl rfl rfl hl.1 rfl (Nat.le_of_ble_eq_true rfl) d_14_42_4 ⟨Nat.le_of_ble_eq_true rfl, Nat.le_of_ble_eq_true rfl⟩ (fun u0 H locs hP hD hS => ?_)
  have hP : va_P z.1 classes [(a0, .inr (18, [.ref a1, .ref a2, .int 0, .ref a3, .int 0, .ref a4, .int 0, .null, .int 0, .null, .long 0, .int 0, .null]))] H := hP
  have hD : va_D A [(a0, .inr (18, [.ref a1, .ref a2, .int 0, .ref a3, .int 0, .ref a4, .int 0, .null, .int 0, .null, .long 0, .int 0, .null]))] := hD
  refine W.eq (g2 := F0 m 7 ls [.int 1, .ref a0]) rfl ?_
  refine lv_if_eq (tgt := 34) hx hb d_14_42_7 (by decide) (fun c9 => absurd c9 (by decide +kernel)) (fun _ => ?_)
  refine lv_iload_n hx hb d_14_42_10 rfl (lv_at hl 2 rfl) ?_
  refine lv_iconst (v := 1) hx hb d_14_42_11 (by decide +kernel) ?_
  refine lv_bipush (v := 60) hx hb d_14_42_12 (by decide +kernel) ?_
  refine kS (As := [.int x1, .int 1, .int 60]) (rest := [.ref a0]) (wr := [(a0, .inr (18, [.ref a1, .ref a2, .int 0, .ref a3, .int 0, .ref a4, .int 0, .null, .int 0, .null, .long 0, .int 0, .null]))]) (c155_BModel_isIn l z x1 h2) hx hb hml hown hts w_1718 w_1716 w_1717 w_12 md_bca45c ⟨Nat.le_of_ble_eq_true rfl, Nat.le_of_ble_eq_true rfl⟩ hG hZ hP hD hS hA [] [0] rfl rfl rfl rfl rfl hl.1 rfl (Nat.le_of_ble_eq_true rfl) d_14_42_14 ⟨Nat.le_of_ble_eq_true rfl, Nat.le_of_ble_eq_true rfl⟩ (fun u1 H locs hP hD hS => ?_)
  have hP : va_P z.1 classes [(a0, .inr (18, [.ref a1, .ref a2, .int 0, .ref a3, .int 0, .ref a4, .int 0, .null, .int 0, .null, .long 0, .int 0, .null]))] H := hP
  have hD : va_D A [(a0, .inr (18, [.ref a1, .ref a2, .int 0, .ref a3, .int 0, .ref a4, .int 0, .null, .int 0, .null, .long 0, .int 0, .null]))] := hD
  refine W.eq (g2 := F0 m 17 ls [.int 0, .ref a0]) rfl ?_
  refine lv_if_eq (tgt := 34) hx hb d_14_42_17 (by decide) (fun _ => ?_) (fun c9 => absurd (by decide +kernel) c9)
  refine lv_iconst (v := 0) hx hb d_14_42_34 (by decide +kernel) ?_
  refine lv_iconst (v := 1) hx hb d_14_42_35 (by decide +kernel) ?_
  refine kV (As := [.int 0, .int 1]) (rest := []) (wr := []) (c31_BModel_ends l z a0 a1 a2 a3 a4) hx hb hml hown hts w_1696 w_1693 w_1695 w_s_f8f2b7 w_12 md_77b0f8 ⟨Nat.le_of_ble_eq_true rfl, Nat.le_of_ble_eq_true rfl⟩ hG hZ hP hD hS hA 0 rfl rfl rfl [0] [] rfl rfl rfl rfl rfl hl.1 rfl (Nat.le_of_ble_eq_true rfl) d_14_42_36 ⟨Nat.le_of_ble_eq_true rfl, Nat.le_of_ble_eq_true rfl⟩ (fun u2 H locs hP hD hS => ?_)
  have hP : va_P z.1 classes [(a0, .inr (18, [.ref a1, .ref a2, .int 0, .ref a3, .int 0, .ref a4, .int 1, .null, .int 0, .null, .long 0, .int 0, .null]))] H := hP
  have hD : va_D A [(a0, .inr (18, [.ref a1, .ref a2, .int 0, .ref a3, .int 0, .ref a4, .int 1, .null, .int 0, .null, .long 0, .int 0, .null]))] := hD
  refine W.eq (g2 := F0 m 39 ls [.int 1]) rfl ?_
  refine lv_if_eq (tgt := 44) hx hb d_14_42_39 (by decide) (fun c9 => absurd c9 (by decide +kernel)) (fun _ => ?_)
  refine lv_iconst (v := 0) hx hb d_14_42_42 (by decide +kernel) ?_
  refine W.widen (k := 0) (n := 0) (Nat.le_of_ble_eq_true rfl) (Nat.le_of_ble_eq_true rfl) ?_
  exact W.iret hx hb hr (fun t ht hW => qk hP hD hS [0] rfl ((fun k => k), (fun _ _ => none)) rfl rfl rfl ht) hS.2.2 d_14_42_43
set_option maxRecDepth 100000 in
set_option maxHeartbeats 4000000 in
theorem c157_B_needRange (l : Launch) (z : Zz) (hl0 : l.stackTraces = false) (x0 : Int32) (h0 : ¬ x0 < 1) (h1 : 60 < x0) : XT l z ⟨"Ballothall", "needRange", "(III)V"⟩ prog_1_method_57_code 3 none [.int x0, .int 1, .int 60] [] 6 98 1 6 "java/lang/IllegalArgumentException" := by
  refine XT.of (own := "Ballothall") (by decide +kernel) (Nat.le_of_ble_eq_true rfl) rfl (fun p e s m below meth c A ls hx hb hml hr hts hown hlocks hin hA hG hZ hP hD hS hl hnt => ?_)
  have hl : lv_has ls 3 [(0, .int x0), (1, .int 1), (2, .int 60)] := hl
  refine lv_iload_n hx hb d_1_57_0 rfl (lv_at hl 0 rfl) ?_
  refine lv_iload_n hx hb d_1_57_1 rfl (lv_at hl 1 rfl) ?_
  refine lv_icmp_lt (tgt := 10) hx hb d_1_57_2 (by decide) (fun c9 => absurd c9 h0) (fun _ => ?_)
  refine lv_iload_n hx hb d_1_57_5 rfl (lv_at hl 0 rfl) ?_
  refine lv_iload_n hx hb d_1_57_6 rfl (lv_at hl 2 rfl) ?_
  refine lv_icmp_le (tgt := 21) hx hb d_1_57_7 (by decide) (fun c9 => absurd c9 (Int32.not_le.mpr h1)) (fun _ => ?_)
  exact x_newW (text := "out of range") hl0 hx hb hml hown hts hlocks hnt hG hZ hS hl.1 (by decide +kernel) w_877 w_21 (by decide) xa_310_a xa_310_b d_1_57_10 d_1_57_13 d_1_57_14 d_1_57_17 d_1_57_20 ⟨Nat.le_of_ble_eq_true rfl, Nat.le_of_ble_eq_true rfl, Nat.le_of_ble_eq_true rfl, Nat.le_of_ble_eq_true rfl⟩ (Nat.le_of_ble_eq_true rfl) (Nat.le_of_ble_eq_true rfl) (Nat.le_of_ble_eq_true rfl)
set_option maxRecDepth 100000 in
set_option maxHeartbeats 4000000 in
theorem c158_B_seats (l : Launch) (z : Zz) (hl0 : l.stackTraces = false) (a0 : Nat) (x0 : Int32) (x1 : Int32) (x2 : Int32) (h0 : ¬ x0 < 0) (h1 : ¬ 5 < x0) (h2 : ¬ x1 < 1) (h3 : 60 < x1) : XT l z ⟨"Ballothall", "seats", "(III)I"⟩ prog_1_method_13_code 5 (some .int) [.ref a0, .int x0, .int x1, .int x2] [] 7 128 1 6 "java/lang/IllegalArgumentException" := by
  refine XT.of (own := "Ballothall") (by decide +kernel) (Nat.le_of_ble_eq_true rfl) rfl (fun p e s m below meth c A ls hx hb hml hr hts hown hlocks hin hA hG hZ hP hD hS hl hnt => ?_)
  have hl : lv_has ls 5 [(0, .ref a0), (1, .int x0), (2, .int x1), (3, .int x2)] := hl
  refine lv_iload_n hx hb d_1_13_0 rfl (lv_at hl 1 rfl) ?_
  refine lv_iconst (v := 0) hx hb d_1_13_1 (by decide +kernel) ?_
  refine lv_iconst (v := 5) hx hb d_1_13_2 (by decide +kernel) ?_
  refine kS (As := [.int x0, .int 0, .int 5]) (rest := []) (wr := []) (c150_B_needRange l z x0 h0 h1) hx hb hml hown hts w_876 w_874 w_875 w_1 md_519134 ⟨Nat.le_of_ble_eq_true rfl, Nat.le_of_ble_eq_true rfl⟩ hG hZ hP hD hS hA [] [] rfl rfl rfl rfl rfl hl.1 rfl (Nat.le_of_ble_eq_true rfl) d_1_13_3 ⟨Nat.le_of_ble_eq_true rfl, Nat.le_of_ble_eq_true rfl⟩ (fun u0 H locs hP hD hS => ?_)
  have hP : va_P z.1 classes [] H := hP
  have hD : va_D A [] := hD
  refine W.eq (g2 := F0 m 6 ls []) rfl ?_
  refine lv_iload_n hx hb d_1_13_6 rfl (lv_at hl 2 rfl) ?_
  refine lv_iconst (v := 1) hx hb d_1_13_7 (by decide +kernel) ?_
  refine lv_bipush (v := 60) hx hb d_1_13_8 (by decide +kernel) ?_
  exact xS (As := [.int x1, .int 1, .int 60]) (rest := []) (wr := []) (c157_B_needRange l z hl0 x1 h2 h3) hx hb hml hown hts w_876 w_874 w_875 w_1 md_519134 ⟨Nat.le_of_ble_eq_true rfl, Nat.le_of_ble_eq_true rfl⟩ hG hZ hP hD hS hA [] [] rfl rfl rfl rfl rfl hl.1 rfl (Nat.le_of_ble_eq_true rfl) d_1_13_10 ⟨Nat.le_of_ble_eq_true rfl, Nat.le_of_ble_eq_true rfl⟩ (fun q9 ce9 H locs hP hD hS h7 h8 h9 => x_out hnt hlocks hS h7 h8 h9 (Nat.le_of_ble_eq_true rfl) (Nat.le_of_ble_eq_true rfl))
set_option maxRecDepth 100000 in
set_option maxHeartbeats 4000000 in
theorem c159_BLaw_seats (l : Launch) (z : Zz) (hl0 : l.stackTraces = false) (a0 a1 a2 a3 a4 a5 a6 a7 a8 a9 a10 a11 a12 : Nat) (x0 : Int32) (x1 : Int32) (x2 : Int32) (h0 : ¬ x0 < 0) (h1 : ¬ 5 < x0) (h2 : ¬ x1 < 1) (h3 : 60 < x1) : HT l z ⟨"BallothallLaw", "seats", "(LBallothall;III[J)I"⟩ method_13_code 6 (some .int) [(0, 12, 15, 21)] [.ref a0, .int x0, .int x1, .int x2, .ref a1] [(a0, .inr (11, [.ref a2, .ref a3, .ref a4, .ref a5, .ref a6, .ref a7, .ref a8, .ref a9, .ref a10, .ref a11, .int 0, .int 0, .ref a12, .int 0]))] 8 160 1 6 (fun u => some (.int 1)) (fun u => [(a0, .inr (11, [.ref a2, .ref a3, .ref a4, .ref a5, .ref a6, .ref a7, .ref a8, .ref a9, .ref a10, .ref a11, .int 0, .int 0, .ref a12, .int 0]))]) := by
  refine HT.of (own := "BallothallLaw") (by decide +kernel) (Nat.le_of_ble_eq_true rfl) rfl (fun p e s m below meth c A ls hx hb hml hr hts hown hlocks hin hA hG hZ hP hD hS hl htab => ?_)
  have hl : lv_has ls 6 [(0, .ref a0), (1, .int x0), (2, .int x1), (3, .int x2), (4, .ref a1)] := hl
  refine lv_aload hx hb d_L13_0 (lv_at hl 4 rfl) ?_
  refine lv_iconst (v := 0) hx hb d_L13_2 (by decide +kernel) ?_
  refine lv_aload_n hx hb d_L13_3 rfl (lv_at hl 0 rfl) ?_
  refine lv_iload_n hx hb d_L13_4 rfl (lv_at hl 1 rfl) ?_
  refine lv_iload_n hx hb d_L13_5 rfl (lv_at hl 2 rfl) ?_
  refine lv_iload_n hx hb d_L13_6 rfl (lv_at hl 3 rfl) ?_
  refine xV (As := [.int x0, .int x1, .int x2]) (rest := [.int 0, .ref a1]) (wr := [(a0, .inr (11, [.ref a2, .ref a3, .ref a4, .ref a5, .ref a6, .ref a7, .ref a8, .ref a9, .ref a10, .ref a11, .int 0, .int 0, .ref a12, .int 0]))]) (c158_B_seats l z hl0 a0 x0 x1 x2 h0 h1 h2 h3) hx hb hml hown hts w_998 w_995 w_996 w_997 w_1 md_fbc403 ⟨Nat.le_of_ble_eq_true rfl, Nat.le_of_ble_eq_true rfl⟩ hG hZ hP hD hS hA 0 rfl rfl rfl [] [0] rfl rfl rfl rfl rfl hl.1 rfl (Nat.le_of_ble_eq_true rfl) d_L13_7 ⟨Nat.le_of_ble_eq_true rfl, Nat.le_of_ble_eq_true rfl⟩ (fun q0 ce9 H locs hP hD hS h7 h8 h9 => ?_)
  have hP : va_P z.1 classes [(a0, .inr (11, [.ref a2, .ref a3, .ref a4, .ref a5, .ref a6, .ref a7, .ref a8, .ref a9, .ref a10, .ref a11, .int 0, .int 0, .ref a12, .int 0]))] H := hP
  have hD : va_D A [(a0, .inr (11, [.ref a2, .ref a3, .ref a4, .ref a5, .ref a6, .ref a7, .ref a8, .ref a9, .ref a10, .ref a11, .int 0, .int 0, .ref a12, .int 0]))] := hD
  refine vx_catch hown [] ⟨0, 12, 15, 21⟩ [] (htab.trans rfl) (fun _ h9 => absurd h9 List.not_mem_nil) rfl (by decide) (hts _ w_850) (va_Nw.use rfl (hG.2.1 _ n_879 rfl)) h7 h8 h9 ?_
  refine lv_astore (lv' := [(5, .ref q0), (0, .ref a0), (1, .int x0), (2, .int x1), (3, .int x2), (4, .ref a1)]) hx hb d_L13_15 hl (by decide) rfl (fun ls hl => ?_)
  refine lv_iconst (v := 1) hx hb d_L13_17 (by decide +kernel) ?_
  refine W.widen (k := 1) (n := 6) (Nat.le_of_ble_eq_true rfl) (Nat.le_of_ble_eq_true rfl) ?_
  refine vx_ret ?_
  exact W.iret hx hb hr (fun t ht hW => qk hP hD hS [0] rfl ((fun k => k), (fun _ _ => none)) rfl rfl rfl ht) hS.2.2 d_L13_18
set_option maxRecDepth 100000 in
set_option maxHeartbeats 4000000 in
theorem c160_BModel_isIn (l : Launch) (z : Zz) (x0 : Int32) (h0 : ¬ x0 < 1) (h1 : 60 < x0) : CT l z ⟨"BallothallModel", "isIn", "(III)Z"⟩ prog_14_method_20_code 3 (some .boolean) [.int x0, .int 1, .int 60] [] 0 0 0 0 (fun u => some (.int 0)) (fun u => []) := by
  refine CT.of (own := "BallothallModel") (by decide +kernel) (Nat.le_of_ble_eq_true rfl) rfl (fun p e s m below meth c A ls hx hb hml hr hts hown hlocks hin hA hG hZ hP hD hS hl => ?_)
  have hl : lv_has ls 3 [(0, .int x0), (1, .int 1), (2, .int 60)] := hl
  refine lv_iload_n hx hb d_14_20_0 rfl (lv_at hl 0 rfl) ?_
  refine lv_iload_n hx hb d_14_20_1 rfl (lv_at hl 1 rfl) ?_
  refine lv_icmp_lt (tgt := 14) hx hb d_14_20_2 (by decide) (fun c9 => absurd c9 h0) (fun _ => ?_)
  refine lv_iload_n hx hb d_14_20_5 rfl (lv_at hl 0 rfl) ?_
  refine lv_iload_n hx hb d_14_20_6 rfl (lv_at hl 2 rfl) ?_
  refine lv_icmp_gt (tgt := 14) hx hb d_14_20_7 (by decide) (fun _ => ?_) (fun c9 => absurd h1 c9)
  refine lv_iconst (v := 0) hx hb d_14_20_14 (by decide +kernel) ?_
  refine W.widen (k := 0) (n := 0) (Nat.le_of_ble_eq_true rfl) (Nat.le_of_ble_eq_true rfl) ?_
  exact W.zret hx hb hr rfl (fun t ht hW => qk hP hD hS [] rfl ((fun k => k), (fun _ _ => none)) rfl rfl rfl ht) hS.2.2 d_14_20_15
set_option maxRecDepth 100000 in
set_option maxHeartbeats 4000000 in
theorem c161_BModel_seats (l : Launch) (z : Zz) (a0 a1 a2 a3 a4 : Nat) (x0 : Int32) (x1 : Int32) (x2 : Int32) (h0 : ¬ x0 < 0) (h1 : ¬ 5 < x0) (h2 : ¬ x1 < 1) (h3 : 60 < x1) : CT l z ⟨"BallothallModel", "seats", "(III)I"⟩ prog_14_method_42_code 4 (some .int) [.ref a0, .int x0, .int x1, .int x2] [(a0, .inr (18, [.ref a1, .ref a2, .int 0, .ref a3, .int 0, .ref a4, .int 0, .null, .int 0, .null, .long 0, .int 0, .null]))] 1 30 0 0 (fun u => some (.int 0)) (fun u => [(a0, .inr (18, [.ref a1, .ref a2, .int 0, .ref a3, .int 0, .ref a4, .int 1, .null, .int 0, .null, .long 0, .int 0, .null]))]) := by
  refine CT.of (own := "BallothallModel") (by decide +kernel) (Nat.le_of_ble_eq_true rfl) rfl (fun p e s m below meth c A ls hx hb hml hr hts hown hlocks hin hA hG hZ hP hD hS hl => ?_)
  have hl : lv_has ls 4 [(0, .ref a0), (1, .int x0), (2, .int x1), (3, .int x2)] := hl
  refine lv_aload_n hx hb d_14_42_0 rfl (lv_at hl 0 rfl) ?_
  refine lv_iload_n hx hb d_14_42_1 rfl (lv_at hl 1 rfl) ?_
  refine lv_iconst (v := 0) hx hb d_14_42_2 (by decide +kernel) ?_
  refine lv_iconst (v := 5) hx hb d_14_42_3 (by decide +kernel) ?_
  refine kS (As := [.int x0, .int 0, .int 5]) (rest := [.ref a0]) (wr := [(a0, .inr (18, [.ref a1, .ref a2, .int 0, .ref a3, .int 0, .ref a4, .int 0, .null, .int 0, .null, .long 0, .int 0, .null]))]) (c154_BModel_isIn l z x0 h0 h1) hx hb hml hown hts w_1718 w_1716 w_1717 w_12 md_bca45c ⟨Nat.le_of_ble_eq_true rfl, Nat.le_of_ble_eq_true rfl⟩ hG hZ hP hD hS hA [] [0] rfl rfl rfl rfl rfl hl.1 rfl (Nat.le_of_ble_eq_true rfl) d_14_42_4 ⟨Nat.le_of_ble_eq_true rfl, Nat.le_of_ble_eq_true rfl⟩ (fun u0 H locs hP hD hS => ?_)
  have hP : va_P z.1 classes [(a0, .inr (18, [.ref a1, .ref a2, .int 0, .ref a3, .int 0, .ref a4, .int 0, .null, .int 0, .null, .long 0, .int 0, .null]))] H := hP
  have hD : va_D A [(a0, .inr (18, [.ref a1, .ref a2, .int 0, .ref a3, .int 0, .ref a4, .int 0, .null, .int 0, .null, .long 0, .int 0, .null]))] := hD
  refine W.eq (g2 := F0 m 7 ls [.int 1, .ref a0]) rfl ?_
  refine lv_if_eq (tgt := 34) hx hb d_14_42_7 (by decide) (fun c9 => absurd c9 (by decide +kernel)) (fun _ => ?_)
  refine lv_iload_n hx hb d_14_42_10 rfl (lv_at hl 2 rfl) ?_
  refine lv_iconst (v := 1) hx hb d_14_42_11 (by decide +kernel) ?_
  refine lv_bipush (v := 60) hx hb d_14_42_12 (by decide +kernel) ?_
  refine kS (As := [.int x1, .int 1, .int 60]) (rest := [.ref a0]) (wr := [(a0, .inr (18, [.ref a1, .ref a2, .int 0, .ref a3, .int 0, .ref a4, .int 0, .null, .int 0, .null, .long 0, .int 0, .null]))]) (c160_BModel_isIn l z x1 h2 h3) hx hb hml hown hts w_1718 w_1716 w_1717 w_12 md_bca45c ⟨Nat.le_of_ble_eq_true rfl, Nat.le_of_ble_eq_true rfl⟩ hG hZ hP hD hS hA [] [0] rfl rfl rfl rfl rfl hl.1 rfl (Nat.le_of_ble_eq_true rfl) d_14_42_14 ⟨Nat.le_of_ble_eq_true rfl, Nat.le_of_ble_eq_true rfl⟩ (fun u1 H locs hP hD hS => ?_)
  have hP : va_P z.1 classes [(a0, .inr (18, [.ref a1, .ref a2, .int 0, .ref a3, .int 0, .ref a4, .int 0, .null, .int 0, .null, .long 0, .int 0, .null]))] H := hP
  have hD : va_D A [(a0, .inr (18, [.ref a1, .ref a2, .int 0, .ref a3, .int 0, .ref a4, .int 0, .null, .int 0, .null, .long 0, .int 0, .null]))] := hD
  refine W.eq (g2 := F0 m 17 ls [.int 0, .ref a0]) rfl ?_
  refine lv_if_eq (tgt := 34) hx hb d_14_42_17 (by decide) (fun _ => ?_) (fun c9 => absurd (by decide +kernel) c9)
  refine lv_iconst (v := 0) hx hb d_14_42_34 (by decide +kernel) ?_
  refine lv_iconst (v := 1) hx hb d_14_42_35 (by decide +kernel) ?_
  refine kV (As := [.int 0, .int 1]) (rest := []) (wr := []) (c31_BModel_ends l z a0 a1 a2 a3 a4) hx hb hml hown hts w_1696 w_1693 w_1695 w_s_f8f2b7 w_12 md_77b0f8 ⟨Nat.le_of_ble_eq_true rfl, Nat.le_of_ble_eq_true rfl⟩ hG hZ hP hD hS hA 0 rfl rfl rfl [0] [] rfl rfl rfl rfl rfl hl.1 rfl (Nat.le_of_ble_eq_true rfl) d_14_42_36 ⟨Nat.le_of_ble_eq_true rfl, Nat.le_of_ble_eq_true rfl⟩ (fun u2 H locs hP hD hS => ?_)
  have hP : va_P z.1 classes [(a0, .inr (18, [.ref a1, .ref a2, .int 0, .ref a3, .int 0, .ref a4, .int 1, .null, .int 0, .null, .long 0, .int 0, .null]))] H := hP
  have hD : va_D A [(a0, .inr (18, [.ref a1, .ref a2, .int 0, .ref a3, .int 0, .ref a4, .int 1, .null, .int 0, .null, .long 0, .int 0, .null]))] := hD
  refine W.eq (g2 := F0 m 39 ls [.int 1]) rfl ?_
  refine lv_if_eq (tgt := 44) hx hb d_14_42_39 (by decide) (fun c9 => absurd c9 (by decide +kernel)) (fun _ => ?_)
  refine lv_iconst (v := 0) hx hb d_14_42_42 (by decide +kernel) ?_
  refine W.widen (k := 0) (n := 0) (Nat.le_of_ble_eq_true rfl) (Nat.le_of_ble_eq_true rfl) ?_
  exact W.iret hx hb hr (fun t ht hW => qk hP hD hS [0] rfl ((fun k => k), (fun _ _ => none)) rfl rfl rfl ht) hS.2.2 d_14_42_43
set_option maxRecDepth 100000 in
set_option maxHeartbeats 4000000 in
theorem c162_B_needRange (l : Launch) (z : Zz) (x0 : Int32) (h0 : ¬ x0 < 1) (h1 : ¬ 60 < x0) : CT l z ⟨"Ballothall", "needRange", "(III)V"⟩ prog_1_method_57_code 3 none [.int x0, .int 1, .int 60] [] 0 0 0 0 (fun u => none) (fun u => []) := by
  refine CT.of (own := "Ballothall") (by decide +kernel) (Nat.le_of_ble_eq_true rfl) rfl (fun p e s m below meth c A ls hx hb hml hr hts hown hlocks hin hA hG hZ hP hD hS hl => ?_)
  have hl : lv_has ls 3 [(0, .int x0), (1, .int 1), (2, .int 60)] := hl
  refine lv_iload_n hx hb d_1_57_0 rfl (lv_at hl 0 rfl) ?_
  refine lv_iload_n hx hb d_1_57_1 rfl (lv_at hl 1 rfl) ?_
  refine lv_icmp_lt (tgt := 10) hx hb d_1_57_2 (by decide) (fun c9 => absurd c9 h0) (fun _ => ?_)
  refine lv_iload_n hx hb d_1_57_5 rfl (lv_at hl 0 rfl) ?_
  refine lv_iload_n hx hb d_1_57_6 rfl (lv_at hl 2 rfl) ?_
  refine lv_icmp_le (tgt := 21) hx hb d_1_57_7 (by decide) (fun _ => ?_) (fun c9 => absurd (Int32.not_lt.mp h1) c9)
  refine W.widen (k := 0) (n := 0) (Nat.le_of_ble_eq_true rfl) (Nat.le_of_ble_eq_true rfl) ?_
  exact W.vret hx hb hr (fun t ht hW => qk hP hD hS [] rfl ((fun k => k), (fun _ _ => none)) rfl rfl rfl ht) hS.2.2 d_1_57_21
set_option maxRecDepth 100000 in
set_option maxHeartbeats 4000000 in
theorem c163_B_needRange (l : Launch) (z : Zz) (hl0 : l.stackTraces = false) (x0 : Int32) (h0 : x0 < 0) : XT l z ⟨"Ballothall", "needRange", "(III)V"⟩ prog_1_method_57_code 3 none [.int x0, .int 0, .int 20] [] 6 98 1 6 "java/lang/IllegalArgumentException" := by
  refine XT.of (own := "Ballothall") (by decide +kernel) (Nat.le_of_ble_eq_true rfl) rfl (fun p e s m below meth c A ls hx hb hml hr hts hown hlocks hin hA hG hZ hP hD hS hl hnt => ?_)
  have hl : lv_has ls 3 [(0, .int x0), (1, .int 0), (2, .int 20)] := hl
  refine lv_iload_n hx hb d_1_57_0 rfl (lv_at hl 0 rfl) ?_
  refine lv_iload_n hx hb d_1_57_1 rfl (lv_at hl 1 rfl) ?_
  refine lv_icmp_lt (tgt := 10) hx hb d_1_57_2 (by decide) (fun _ => ?_) (fun c9 => absurd h0 c9)
  exact x_newW (text := "out of range") hl0 hx hb hml hown hts hlocks hnt hG hZ hS hl.1 (by decide +kernel) w_877 w_21 (by decide) xa_310_a xa_310_b d_1_57_10 d_1_57_13 d_1_57_14 d_1_57_17 d_1_57_20 ⟨Nat.le_of_ble_eq_true rfl, Nat.le_of_ble_eq_true rfl, Nat.le_of_ble_eq_true rfl, Nat.le_of_ble_eq_true rfl⟩ (Nat.le_of_ble_eq_true rfl) (Nat.le_of_ble_eq_true rfl) (Nat.le_of_ble_eq_true rfl)
set_option maxRecDepth 100000 in
set_option maxHeartbeats 4000000 in
theorem c164_B_seats (l : Launch) (z : Zz) (hl0 : l.stackTraces = false) (a0 : Nat) (x0 : Int32) (x1 : Int32) (x2 : Int32) (h0 : ¬ x0 < 0) (h1 : ¬ 5 < x0) (h2 : ¬ x1 < 1) (h3 : ¬ 60 < x1) (h4 : x2 < 0) : XT l z ⟨"Ballothall", "seats", "(III)I"⟩ prog_1_method_13_code 5 (some .int) [.ref a0, .int x0, .int x1, .int x2] [] 7 128 1 6 "java/lang/IllegalArgumentException" := by
  refine XT.of (own := "Ballothall") (by decide +kernel) (Nat.le_of_ble_eq_true rfl) rfl (fun p e s m below meth c A ls hx hb hml hr hts hown hlocks hin hA hG hZ hP hD hS hl hnt => ?_)
  have hl : lv_has ls 5 [(0, .ref a0), (1, .int x0), (2, .int x1), (3, .int x2)] := hl
  refine lv_iload_n hx hb d_1_13_0 rfl (lv_at hl 1 rfl) ?_
  refine lv_iconst (v := 0) hx hb d_1_13_1 (by decide +kernel) ?_
  refine lv_iconst (v := 5) hx hb d_1_13_2 (by decide +kernel) ?_
  refine kS (As := [.int x0, .int 0, .int 5]) (rest := []) (wr := []) (c150_B_needRange l z x0 h0 h1) hx hb hml hown hts w_876 w_874 w_875 w_1 md_519134 ⟨Nat.le_of_ble_eq_true rfl, Nat.le_of_ble_eq_true rfl⟩ hG hZ hP hD hS hA [] [] rfl rfl rfl rfl rfl hl.1 rfl (Nat.le_of_ble_eq_true rfl) d_1_13_3 ⟨Nat.le_of_ble_eq_true rfl, Nat.le_of_ble_eq_true rfl⟩ (fun u0 H locs hP hD hS => ?_)
  have hP : va_P z.1 classes [] H := hP
  have hD : va_D A [] := hD
  refine W.eq (g2 := F0 m 6 ls []) rfl ?_
  refine lv_iload_n hx hb d_1_13_6 rfl (lv_at hl 2 rfl) ?_
  refine lv_iconst (v := 1) hx hb d_1_13_7 (by decide +kernel) ?_
  refine lv_bipush (v := 60) hx hb d_1_13_8 (by decide +kernel) ?_
  refine kS (As := [.int x1, .int 1, .int 60]) (rest := []) (wr := []) (c162_B_needRange l z x1 h2 h3) hx hb hml hown hts w_876 w_874 w_875 w_1 md_519134 ⟨Nat.le_of_ble_eq_true rfl, Nat.le_of_ble_eq_true rfl⟩ hG hZ hP hD hS hA [] [] rfl rfl rfl rfl rfl hl.1 rfl (Nat.le_of_ble_eq_true rfl) d_1_13_10 ⟨Nat.le_of_ble_eq_true rfl, Nat.le_of_ble_eq_true rfl⟩ (fun u1 H locs hP hD hS => ?_)
  have hP : va_P z.1 classes [] H := hP
  have hD : va_D A [] := hD
  refine W.eq (g2 := F0 m 13 ls []) rfl ?_
  refine lv_iload_n hx hb d_1_13_13 rfl (lv_at hl 3 rfl) ?_
  refine lv_iconst (v := 0) hx hb d_1_13_14 (by decide +kernel) ?_
  refine lv_bipush (v := 20) hx hb d_1_13_15 (by decide +kernel) ?_
  exact xS (As := [.int x2, .int 0, .int 20]) (rest := []) (wr := []) (c163_B_needRange l z hl0 x2 h4) hx hb hml hown hts w_876 w_874 w_875 w_1 md_519134 ⟨Nat.le_of_ble_eq_true rfl, Nat.le_of_ble_eq_true rfl⟩ hG hZ hP hD hS hA [] [] rfl rfl rfl rfl rfl hl.1 rfl (Nat.le_of_ble_eq_true rfl) d_1_13_17 ⟨Nat.le_of_ble_eq_true rfl, Nat.le_of_ble_eq_true rfl⟩ (fun q9 ce9 H locs hP hD hS h7 h8 h9 => x_out hnt hlocks hS h7 h8 h9 (Nat.le_of_ble_eq_true rfl) (Nat.le_of_ble_eq_true rfl))
set_option maxRecDepth 100000 in
set_option maxHeartbeats 4000000 in
theorem c165_BLaw_seats (l : Launch) (z : Zz) (hl0 : l.stackTraces = false) (a0 a1 a2 a3 a4 a5 a6 a7 a8 a9 a10 a11 a12 : Nat) (x0 : Int32) (x1 : Int32) (x2 : Int32) (h0 : ¬ x0 < 0) (h1 : ¬ 5 < x0) (h2 : ¬ x1 < 1) (h3 : ¬ 60 < x1) (h4 : x2 < 0) : HT l z ⟨"BallothallLaw", "seats", "(LBallothall;III[J)I"⟩ method_13_code 6 (some .int) [(0, 12, 15, 21)] [.ref a0, .int x0, .int x1, .int x2, .ref a1] [(a0, .inr (11, [.ref a2, .ref a3, .ref a4, .ref a5, .ref a6, .ref a7, .ref a8, .ref a9, .ref a10, .ref a11, .int 0, .int 0, .ref a12, .int 0]))] 8 160 1 6 (fun u => some (.int 1)) (fun u => [(a0, .inr (11, [.ref a2, .ref a3, .ref a4, .ref a5, .ref a6, .ref a7, .ref a8, .ref a9, .ref a10, .ref a11, .int 0, .int 0, .ref a12, .int 0]))]) := by
  refine HT.of (own := "BallothallLaw") (by decide +kernel) (Nat.le_of_ble_eq_true rfl) rfl (fun p e s m below meth c A ls hx hb hml hr hts hown hlocks hin hA hG hZ hP hD hS hl htab => ?_)
  have hl : lv_has ls 6 [(0, .ref a0), (1, .int x0), (2, .int x1), (3, .int x2), (4, .ref a1)] := hl
  refine lv_aload hx hb d_L13_0 (lv_at hl 4 rfl) ?_
  refine lv_iconst (v := 0) hx hb d_L13_2 (by decide +kernel) ?_
  refine lv_aload_n hx hb d_L13_3 rfl (lv_at hl 0 rfl) ?_
  refine lv_iload_n hx hb d_L13_4 rfl (lv_at hl 1 rfl) ?_
  refine lv_iload_n hx hb d_L13_5 rfl (lv_at hl 2 rfl) ?_
  refine lv_iload_n hx hb d_L13_6 rfl (lv_at hl 3 rfl) ?_
  refine xV (As := [.int x0, .int x1, .int x2]) (rest := [.int 0, .ref a1]) (wr := [(a0, .inr (11, [.ref a2, .ref a3, .ref a4, .ref a5, .ref a6, .ref a7, .ref a8, .ref a9, .ref a10, .ref a11, .int 0, .int 0, .ref a12, .int 0]))]) (c164_B_seats l z hl0 a0 x0 x1 x2 h0 h1 h2 h3 h4) hx hb hml hown hts w_998 w_995 w_996 w_997 w_1 md_fbc403 ⟨Nat.le_of_ble_eq_true rfl, Nat.le_of_ble_eq_true rfl⟩ hG hZ hP hD hS hA 0 rfl rfl rfl [] [0] rfl rfl rfl rfl rfl hl.1 rfl (Nat.le_of_ble_eq_true rfl) d_L13_7 ⟨Nat.le_of_ble_eq_true rfl, Nat.le_of_ble_eq_true rfl⟩ (fun q0 ce9 H locs hP hD hS h7 h8 h9 => ?_)
  have hP : va_P z.1 classes [(a0, .inr (11, [.ref a2, .ref a3, .ref a4, .ref a5, .ref a6, .ref a7, .ref a8, .ref a9, .ref a10, .ref a11, .int 0, .int 0, .ref a12, .int 0]))] H := hP
  have hD : va_D A [(a0, .inr (11, [.ref a2, .ref a3, .ref a4, .ref a5, .ref a6, .ref a7, .ref a8, .ref a9, .ref a10, .ref a11, .int 0, .int 0, .ref a12, .int 0]))] := hD
  refine vx_catch hown [] ⟨0, 12, 15, 21⟩ [] (htab.trans rfl) (fun _ h9 => absurd h9 List.not_mem_nil) rfl (by decide) (hts _ w_850) (va_Nw.use rfl (hG.2.1 _ n_879 rfl)) h7 h8 h9 ?_
  refine lv_astore (lv' := [(5, .ref q0), (0, .ref a0), (1, .int x0), (2, .int x1), (3, .int x2), (4, .ref a1)]) hx hb d_L13_15 hl (by decide) rfl (fun ls hl => ?_)
  refine lv_iconst (v := 1) hx hb d_L13_17 (by decide +kernel) ?_
  refine W.widen (k := 1) (n := 6) (Nat.le_of_ble_eq_true rfl) (Nat.le_of_ble_eq_true rfl) ?_
  refine vx_ret ?_
  exact W.iret hx hb hr (fun t ht hW => qk hP hD hS [0] rfl ((fun k => k), (fun _ _ => none)) rfl rfl rfl ht) hS.2.2 d_L13_18
set_option maxRecDepth 100000 in
set_option maxHeartbeats 4000000 in
theorem c166_BModel_isIn (l : Launch) (z : Zz) (x0 : Int32) (h0 : ¬ x0 < 1) (h1 : ¬ 60 < x0) : CT l z ⟨"BallothallModel", "isIn", "(III)Z"⟩ prog_14_method_20_code 3 (some .boolean) [.int x0, .int 1, .int 60] [] 0 0 0 0 (fun u => some (.int 1)) (fun u => []) := by
  refine CT.of (own := "BallothallModel") (by decide +kernel) (Nat.le_of_ble_eq_true rfl) rfl (fun p e s m below meth c A ls hx hb hml hr hts hown hlocks hin hA hG hZ hP hD hS hl => ?_)
  have hl : lv_has ls 3 [(0, .int x0), (1, .int 1), (2, .int 60)] := hl
  refine lv_iload_n hx hb d_14_20_0 rfl (lv_at hl 0 rfl) ?_
  refine lv_iload_n hx hb d_14_20_1 rfl (lv_at hl 1 rfl) ?_
  refine lv_icmp_lt (tgt := 14) hx hb d_14_20_2 (by decide) (fun c9 => absurd c9 h0) (fun _ => ?_)
  refine lv_iload_n hx hb d_14_20_5 rfl (lv_at hl 0 rfl) ?_
  refine lv_iload_n hx hb d_14_20_6 rfl (lv_at hl 2 rfl) ?_
  refine lv_icmp_gt (tgt := 14) hx hb d_14_20_7 (by decide) (fun c9 => absurd c9 h1) (fun _ => ?_)
  refine lv_iconst (v := 1) hx hb d_14_20_10 (by decide +kernel) ?_
  refine lv_goto (tgt := 15) hx hb d_14_20_11 (by decide) ?_
  refine W.widen (k := 0) (n := 0) (Nat.le_of_ble_eq_true rfl) (Nat.le_of_ble_eq_true rfl) ?_
  exact W.zret hx hb hr rfl (fun t ht hW => qk hP hD hS [] rfl ((fun k => k), (fun _ _ => none)) rfl rfl rfl ht) hS.2.2 d_14_20_15
set_option maxRecDepth 100000 in
set_option maxHeartbeats 4000000 in
theorem c167_BModel_isIn (l : Launch) (z : Zz) (x0 : Int32) (h0 : x0 < 0) : CT l z ⟨"BallothallModel", "isIn", "(III)Z"⟩ prog_14_method_20_code 3 (some .boolean) [.int x0, .int 0, .int 20] [] 0 0 0 0 (fun u => some (.int 0)) (fun u => []) := by
  refine CT.of (own := "BallothallModel") (by decide +kernel) (Nat.le_of_ble_eq_true rfl) rfl (fun p e s m below meth c A ls hx hb hml hr hts hown hlocks hin hA hG hZ hP hD hS hl => ?_)
  have hl : lv_has ls 3 [(0, .int x0), (1, .int 0), (2, .int 20)] := hl
  refine lv_iload_n hx hb d_14_20_0 rfl (lv_at hl 0 rfl) ?_
  refine lv_iload_n hx hb d_14_20_1 rfl (lv_at hl 1 rfl) ?_
  refine lv_icmp_lt (tgt := 14) hx hb d_14_20_2 (by decide) (fun _ => ?_) (fun c9 => absurd h0 c9)
  refine lv_iconst (v := 0) hx hb d_14_20_14 (by decide +kernel) ?_
  refine W.widen (k := 0) (n := 0) (Nat.le_of_ble_eq_true rfl) (Nat.le_of_ble_eq_true rfl) ?_
  exact W.zret hx hb hr rfl (fun t ht hW => qk hP hD hS [] rfl ((fun k => k), (fun _ _ => none)) rfl rfl rfl ht) hS.2.2 d_14_20_15
set_option maxRecDepth 100000 in
set_option maxHeartbeats 4000000 in
theorem c168_BModel_seats (l : Launch) (z : Zz) (a0 a1 a2 a3 a4 : Nat) (x0 : Int32) (x1 : Int32) (x2 : Int32) (h0 : ¬ x0 < 0) (h1 : ¬ 5 < x0) (h2 : ¬ x1 < 1) (h3 : ¬ 60 < x1) (h4 : x2 < 0) : CT l z ⟨"BallothallModel", "seats", "(III)I"⟩ prog_14_method_42_code 4 (some .int) [.ref a0, .int x0, .int x1, .int x2] [(a0, .inr (18, [.ref a1, .ref a2, .int 0, .ref a3, .int 0, .ref a4, .int 0, .null, .int 0, .null, .long 0, .int 0, .null]))] 1 30 0 0 (fun u => some (.int 0)) (fun u => [(a0, .inr (18, [.ref a1, .ref a2, .int 0, .ref a3, .int 0, .ref a4, .int 1, .null, .int 0, .null, .long 0, .int 0, .null]))]) := by
  refine CT.of (own := "BallothallModel") (by decide +kernel) (Nat.le_of_ble_eq_true rfl) rfl (fun p e s m below meth c A ls hx hb hml hr hts hown hlocks hin hA hG hZ hP hD hS hl => ?_)
  have hl : lv_has ls 4 [(0, .ref a0), (1, .int x0), (2, .int x1), (3, .int x2)] := hl
  refine lv_aload_n hx hb d_14_42_0 rfl (lv_at hl 0 rfl) ?_
  refine lv_iload_n hx hb d_14_42_1 rfl (lv_at hl 1 rfl) ?_
  refine lv_iconst (v := 0) hx hb d_14_42_2 (by decide +kernel) ?_
  refine lv_iconst (v := 5) hx hb d_14_42_3 (by decide +kernel) ?_
  refine kS (As := [.int x0, .int 0, .int 5]) (rest := [.ref a0]) (wr := [(a0, .inr (18, [.ref a1, .ref a2, .int 0, .ref a3, .int 0, .ref a4, .int 0, .null, .int 0, .null, .long 0, .int 0, .null]))]) (c154_BModel_isIn l z x0 h0 h1) hx hb hml hown hts w_1718 w_1716 w_1717 w_12 md_bca45c ⟨Nat.le_of_ble_eq_true rfl, Nat.le_of_ble_eq_true rfl⟩ hG hZ hP hD hS hA [] [0] rfl rfl rfl rfl rfl hl.1 rfl (Nat.le_of_ble_eq_true rfl) d_14_42_4 ⟨Nat.le_of_ble_eq_true rfl, Nat.le_of_ble_eq_true rfl⟩ (fun u0 H locs hP hD hS => ?_)
  have hP : va_P z.1 classes [(a0, .inr (18, [.ref a1, .ref a2, .int 0, .ref a3, .int 0, .ref a4, .int 0, .null, .int 0, .null, .long 0, .int 0, .null]))] H := hP
  have hD : va_D A [(a0, .inr (18, [.ref a1, .ref a2, .int 0, .ref a3, .int 0, .ref a4, .int 0, .null, .int 0, .null, .long 0, .int 0, .null]))] := hD
  refine W.eq (g2 := F0 m 7 ls [.int 1, .ref a0]) rfl ?_
  refine lv_if_eq (tgt := 34) hx hb d_14_42_7 (by decide) (fun c9 => absurd c9 (by decide +kernel)) (fun _ => ?_)
  refine lv_iload_n hx hb d_14_42_10 rfl (lv_at hl 2 rfl) ?_
  refine lv_iconst (v := 1) hx hb d_14_42_11 (by decide +kernel) ?_
  refine lv_bipush (v := 60) hx hb d_14_42_12 (by decide +kernel) ?_
  refine kS (As := [.int x1, .int 1, .int 60]) (rest := [.ref a0]) (wr := [(a0, .inr (18, [.ref a1, .ref a2, .int 0, .ref a3, .int 0, .ref a4, .int 0, .null, .int 0, .null, .long 0, .int 0, .null]))]) (c166_BModel_isIn l z x1 h2 h3) hx hb hml hown hts w_1718 w_1716 w_1717 w_12 md_bca45c ⟨Nat.le_of_ble_eq_true rfl, Nat.le_of_ble_eq_true rfl⟩ hG hZ hP hD hS hA [] [0] rfl rfl rfl rfl rfl hl.1 rfl (Nat.le_of_ble_eq_true rfl) d_14_42_14 ⟨Nat.le_of_ble_eq_true rfl, Nat.le_of_ble_eq_true rfl⟩ (fun u1 H locs hP hD hS => ?_)
  have hP : va_P z.1 classes [(a0, .inr (18, [.ref a1, .ref a2, .int 0, .ref a3, .int 0, .ref a4, .int 0, .null, .int 0, .null, .long 0, .int 0, .null]))] H := hP
  have hD : va_D A [(a0, .inr (18, [.ref a1, .ref a2, .int 0, .ref a3, .int 0, .ref a4, .int 0, .null, .int 0, .null, .long 0, .int 0, .null]))] := hD
  refine W.eq (g2 := F0 m 17 ls [.int 1, .ref a0]) rfl ?_
  refine lv_if_eq (tgt := 34) hx hb d_14_42_17 (by decide) (fun c9 => absurd c9 (by decide +kernel)) (fun _ => ?_)
  refine lv_iload_n hx hb d_14_42_20 rfl (lv_at hl 3 rfl) ?_
  refine lv_iconst (v := 0) hx hb d_14_42_21 (by decide +kernel) ?_
  refine lv_bipush (v := 20) hx hb d_14_42_22 (by decide +kernel) ?_
  refine kS (As := [.int x2, .int 0, .int 20]) (rest := [.ref a0]) (wr := [(a0, .inr (18, [.ref a1, .ref a2, .int 0, .ref a3, .int 0, .ref a4, .int 0, .null, .int 0, .null, .long 0, .int 0, .null]))]) (c167_BModel_isIn l z x2 h4) hx hb hml hown hts w_1718 w_1716 w_1717 w_12 md_bca45c ⟨Nat.le_of_ble_eq_true rfl, Nat.le_of_ble_eq_true rfl⟩ hG hZ hP hD hS hA [] [0] rfl rfl rfl rfl rfl hl.1 rfl (Nat.le_of_ble_eq_true rfl) d_14_42_24 ⟨Nat.le_of_ble_eq_true rfl, Nat.le_of_ble_eq_true rfl⟩ (fun u2 H locs hP hD hS => ?_)
  have hP : va_P z.1 classes [(a0, .inr (18, [.ref a1, .ref a2, .int 0, .ref a3, .int 0, .ref a4, .int 0, .null, .int 0, .null, .long 0, .int 0, .null]))] H := hP
  have hD : va_D A [(a0, .inr (18, [.ref a1, .ref a2, .int 0, .ref a3, .int 0, .ref a4, .int 0, .null, .int 0, .null, .long 0, .int 0, .null]))] := hD
  refine W.eq (g2 := F0 m 27 ls [.int 0, .ref a0]) rfl ?_
  refine lv_if_eq (tgt := 34) hx hb d_14_42_27 (by decide) (fun _ => ?_) (fun c9 => absurd (by decide +kernel) c9)
  refine lv_iconst (v := 0) hx hb d_14_42_34 (by decide +kernel) ?_
  refine lv_iconst (v := 1) hx hb d_14_42_35 (by decide +kernel) ?_
  refine kV (As := [.int 0, .int 1]) (rest := []) (wr := []) (c31_BModel_ends l z a0 a1 a2 a3 a4) hx hb hml hown hts w_1696 w_1693 w_1695 w_s_f8f2b7 w_12 md_77b0f8 ⟨Nat.le_of_ble_eq_true rfl, Nat.le_of_ble_eq_true rfl⟩ hG hZ hP hD hS hA 0 rfl rfl rfl [0] [] rfl rfl rfl rfl rfl hl.1 rfl (Nat.le_of_ble_eq_true rfl) d_14_42_36 ⟨Nat.le_of_ble_eq_true rfl, Nat.le_of_ble_eq_true rfl⟩ (fun u3 H locs hP hD hS => ?_)
  have hP : va_P z.1 classes [(a0, .inr (18, [.ref a1, .ref a2, .int 0, .ref a3, .int 0, .ref a4, .int 1, .null, .int 0, .null, .long 0, .int 0, .null]))] H := hP
  have hD : va_D A [(a0, .inr (18, [.ref a1, .ref a2, .int 0, .ref a3, .int 0, .ref a4, .int 1, .null, .int 0, .null, .long 0, .int 0, .null]))] := hD
  refine W.eq (g2 := F0 m 39 ls [.int 1]) rfl ?_
  refine lv_if_eq (tgt := 44) hx hb d_14_42_39 (by decide) (fun c9 => absurd c9 (by decide +kernel)) (fun _ => ?_)
  refine lv_iconst (v := 0) hx hb d_14_42_42 (by decide +kernel) ?_
  refine W.widen (k := 0) (n := 0) (Nat.le_of_ble_eq_true rfl) (Nat.le_of_ble_eq_true rfl) ?_
  exact W.iret hx hb hr (fun t ht hW => qk hP hD hS [0] rfl ((fun k => k), (fun _ _ => none)) rfl rfl rfl ht) hS.2.2 d_14_42_43
set_option maxRecDepth 100000 in
set_option maxHeartbeats 4000000 in
theorem c169_B_needRange (l : Launch) (z : Zz) (hl0 : l.stackTraces = false) (x0 : Int32) (h0 : ¬ x0 < 0) (h1 : 20 < x0) : XT l z ⟨"Ballothall", "needRange", "(III)V"⟩ prog_1_method_57_code 3 none [.int x0, .int 0, .int 20] [] 6 98 1 6 "java/lang/IllegalArgumentException" := by
  refine XT.of (own := "Ballothall") (by decide +kernel) (Nat.le_of_ble_eq_true rfl) rfl (fun p e s m below meth c A ls hx hb hml hr hts hown hlocks hin hA hG hZ hP hD hS hl hnt => ?_)
  have hl : lv_has ls 3 [(0, .int x0), (1, .int 0), (2, .int 20)] := hl
  refine lv_iload_n hx hb d_1_57_0 rfl (lv_at hl 0 rfl) ?_
  refine lv_iload_n hx hb d_1_57_1 rfl (lv_at hl 1 rfl) ?_
  refine lv_icmp_lt (tgt := 10) hx hb d_1_57_2 (by decide) (fun c9 => absurd c9 h0) (fun _ => ?_)
  refine lv_iload_n hx hb d_1_57_5 rfl (lv_at hl 0 rfl) ?_
  refine lv_iload_n hx hb d_1_57_6 rfl (lv_at hl 2 rfl) ?_
  refine lv_icmp_le (tgt := 21) hx hb d_1_57_7 (by decide) (fun c9 => absurd c9 (Int32.not_le.mpr h1)) (fun _ => ?_)
  exact x_newW (text := "out of range") hl0 hx hb hml hown hts hlocks hnt hG hZ hS hl.1 (by decide +kernel) w_877 w_21 (by decide) xa_310_a xa_310_b d_1_57_10 d_1_57_13 d_1_57_14 d_1_57_17 d_1_57_20 ⟨Nat.le_of_ble_eq_true rfl, Nat.le_of_ble_eq_true rfl, Nat.le_of_ble_eq_true rfl, Nat.le_of_ble_eq_true rfl⟩ (Nat.le_of_ble_eq_true rfl) (Nat.le_of_ble_eq_true rfl) (Nat.le_of_ble_eq_true rfl)
set_option maxRecDepth 100000 in
set_option maxHeartbeats 4000000 in
theorem c170_B_seats (l : Launch) (z : Zz) (hl0 : l.stackTraces = false) (a0 : Nat) (x0 : Int32) (x1 : Int32) (x2 : Int32) (h0 : ¬ x0 < 0) (h1 : ¬ 5 < x0) (h2 : ¬ x1 < 1) (h3 : ¬ 60 < x1) (h4 : ¬ x2 < 0) (h5 : 20 < x2) : XT l z ⟨"Ballothall", "seats", "(III)I"⟩ prog_1_method_13_code 5 (some .int) [.ref a0, .int x0, .int x1, .int x2] [] 7 128 1 6 "java/lang/IllegalArgumentException" := by
  refine XT.of (own := "Ballothall") (by decide +kernel) (Nat.le_of_ble_eq_true rfl) rfl (fun p e s m below meth c A ls hx hb hml hr hts hown hlocks hin hA hG hZ hP hD hS hl hnt => ?_)
  have hl : lv_has ls 5 [(0, .ref a0), (1, .int x0), (2, .int x1), (3, .int x2)] := hl
  refine lv_iload_n hx hb d_1_13_0 rfl (lv_at hl 1 rfl) ?_
  refine lv_iconst (v := 0) hx hb d_1_13_1 (by decide +kernel) ?_
  refine lv_iconst (v := 5) hx hb d_1_13_2 (by decide +kernel) ?_
  refine kS (As := [.int x0, .int 0, .int 5]) (rest := []) (wr := []) (c150_B_needRange l z x0 h0 h1) hx hb hml hown hts w_876 w_874 w_875 w_1 md_519134 ⟨Nat.le_of_ble_eq_true rfl, Nat.le_of_ble_eq_true rfl⟩ hG hZ hP hD hS hA [] [] rfl rfl rfl rfl rfl hl.1 rfl (Nat.le_of_ble_eq_true rfl) d_1_13_3 ⟨Nat.le_of_ble_eq_true rfl, Nat.le_of_ble_eq_true rfl⟩ (fun u0 H locs hP hD hS => ?_)
  have hP : va_P z.1 classes [] H := hP
  have hD : va_D A [] := hD
  refine W.eq (g2 := F0 m 6 ls []) rfl ?_
  refine lv_iload_n hx hb d_1_13_6 rfl (lv_at hl 2 rfl) ?_
  refine lv_iconst (v := 1) hx hb d_1_13_7 (by decide +kernel) ?_
  refine lv_bipush (v := 60) hx hb d_1_13_8 (by decide +kernel) ?_
  refine kS (As := [.int x1, .int 1, .int 60]) (rest := []) (wr := []) (c162_B_needRange l z x1 h2 h3) hx hb hml hown hts w_876 w_874 w_875 w_1 md_519134 ⟨Nat.le_of_ble_eq_true rfl, Nat.le_of_ble_eq_true rfl⟩ hG hZ hP hD hS hA [] [] rfl rfl rfl rfl rfl hl.1 rfl (Nat.le_of_ble_eq_true rfl) d_1_13_10 ⟨Nat.le_of_ble_eq_true rfl, Nat.le_of_ble_eq_true rfl⟩ (fun u1 H locs hP hD hS => ?_)
  have hP : va_P z.1 classes [] H := hP
  have hD : va_D A [] := hD
  refine W.eq (g2 := F0 m 13 ls []) rfl ?_
  refine lv_iload_n hx hb d_1_13_13 rfl (lv_at hl 3 rfl) ?_
  refine lv_iconst (v := 0) hx hb d_1_13_14 (by decide +kernel) ?_
  refine lv_bipush (v := 20) hx hb d_1_13_15 (by decide +kernel) ?_
  exact xS (As := [.int x2, .int 0, .int 20]) (rest := []) (wr := []) (c169_B_needRange l z hl0 x2 h4 h5) hx hb hml hown hts w_876 w_874 w_875 w_1 md_519134 ⟨Nat.le_of_ble_eq_true rfl, Nat.le_of_ble_eq_true rfl⟩ hG hZ hP hD hS hA [] [] rfl rfl rfl rfl rfl hl.1 rfl (Nat.le_of_ble_eq_true rfl) d_1_13_17 ⟨Nat.le_of_ble_eq_true rfl, Nat.le_of_ble_eq_true rfl⟩ (fun q9 ce9 H locs hP hD hS h7 h8 h9 => x_out hnt hlocks hS h7 h8 h9 (Nat.le_of_ble_eq_true rfl) (Nat.le_of_ble_eq_true rfl))
set_option maxRecDepth 100000 in
set_option maxHeartbeats 4000000 in
theorem c171_BLaw_seats (l : Launch) (z : Zz) (hl0 : l.stackTraces = false) (a0 a1 a2 a3 a4 a5 a6 a7 a8 a9 a10 a11 a12 : Nat) (x0 : Int32) (x1 : Int32) (x2 : Int32) (h0 : ¬ x0 < 0) (h1 : ¬ 5 < x0) (h2 : ¬ x1 < 1) (h3 : ¬ 60 < x1) (h4 : ¬ x2 < 0) (h5 : 20 < x2) : HT l z ⟨"BallothallLaw", "seats", "(LBallothall;III[J)I"⟩ method_13_code 6 (some .int) [(0, 12, 15, 21)] [.ref a0, .int x0, .int x1, .int x2, .ref a1] [(a0, .inr (11, [.ref a2, .ref a3, .ref a4, .ref a5, .ref a6, .ref a7, .ref a8, .ref a9, .ref a10, .ref a11, .int 0, .int 0, .ref a12, .int 0]))] 8 160 1 6 (fun u => some (.int 1)) (fun u => [(a0, .inr (11, [.ref a2, .ref a3, .ref a4, .ref a5, .ref a6, .ref a7, .ref a8, .ref a9, .ref a10, .ref a11, .int 0, .int 0, .ref a12, .int 0]))]) := by
  refine HT.of (own := "BallothallLaw") (by decide +kernel) (Nat.le_of_ble_eq_true rfl) rfl (fun p e s m below meth c A ls hx hb hml hr hts hown hlocks hin hA hG hZ hP hD hS hl htab => ?_)
  have hl : lv_has ls 6 [(0, .ref a0), (1, .int x0), (2, .int x1), (3, .int x2), (4, .ref a1)] := hl
  refine lv_aload hx hb d_L13_0 (lv_at hl 4 rfl) ?_
  refine lv_iconst (v := 0) hx hb d_L13_2 (by decide +kernel) ?_
  refine lv_aload_n hx hb d_L13_3 rfl (lv_at hl 0 rfl) ?_
  refine lv_iload_n hx hb d_L13_4 rfl (lv_at hl 1 rfl) ?_
  refine lv_iload_n hx hb d_L13_5 rfl (lv_at hl 2 rfl) ?_
  refine lv_iload_n hx hb d_L13_6 rfl (lv_at hl 3 rfl) ?_
  refine xV (As := [.int x0, .int x1, .int x2]) (rest := [.int 0, .ref a1]) (wr := [(a0, .inr (11, [.ref a2, .ref a3, .ref a4, .ref a5, .ref a6, .ref a7, .ref a8, .ref a9, .ref a10, .ref a11, .int 0, .int 0, .ref a12, .int 0]))]) (c170_B_seats l z hl0 a0 x0 x1 x2 h0 h1 h2 h3 h4 h5) hx hb hml hown hts w_998 w_995 w_996 w_997 w_1 md_fbc403 ⟨Nat.le_of_ble_eq_true rfl, Nat.le_of_ble_eq_true rfl⟩ hG hZ hP hD hS hA 0 rfl rfl rfl [] [0] rfl rfl rfl rfl rfl hl.1 rfl (Nat.le_of_ble_eq_true rfl) d_L13_7 ⟨Nat.le_of_ble_eq_true rfl, Nat.le_of_ble_eq_true rfl⟩ (fun q0 ce9 H locs hP hD hS h7 h8 h9 => ?_)
  have hP : va_P z.1 classes [(a0, .inr (11, [.ref a2, .ref a3, .ref a4, .ref a5, .ref a6, .ref a7, .ref a8, .ref a9, .ref a10, .ref a11, .int 0, .int 0, .ref a12, .int 0]))] H := hP
  have hD : va_D A [(a0, .inr (11, [.ref a2, .ref a3, .ref a4, .ref a5, .ref a6, .ref a7, .ref a8, .ref a9, .ref a10, .ref a11, .int 0, .int 0, .ref a12, .int 0]))] := hD
  refine vx_catch hown [] ⟨0, 12, 15, 21⟩ [] (htab.trans rfl) (fun _ h9 => absurd h9 List.not_mem_nil) rfl (by decide) (hts _ w_850) (va_Nw.use rfl (hG.2.1 _ n_879 rfl)) h7 h8 h9 ?_
  refine lv_astore (lv' := [(5, .ref q0), (0, .ref a0), (1, .int x0), (2, .int x1), (3, .int x2), (4, .ref a1)]) hx hb d_L13_15 hl (by decide) rfl (fun ls hl => ?_)
  refine lv_iconst (v := 1) hx hb d_L13_17 (by decide +kernel) ?_
  refine W.widen (k := 1) (n := 6) (Nat.le_of_ble_eq_true rfl) (Nat.le_of_ble_eq_true rfl) ?_
  refine vx_ret ?_
  exact W.iret hx hb hr (fun t ht hW => qk hP hD hS [0] rfl ((fun k => k), (fun _ _ => none)) rfl rfl rfl ht) hS.2.2 d_L13_18
set_option maxRecDepth 100000 in
set_option maxHeartbeats 4000000 in
theorem c172_BModel_isIn (l : Launch) (z : Zz) (x0 : Int32) (h0 : ¬ x0 < 0) (h1 : 20 < x0) : CT l z ⟨"BallothallModel", "isIn", "(III)Z"⟩ prog_14_method_20_code 3 (some .boolean) [.int x0, .int 0, .int 20] [] 0 0 0 0 (fun u => some (.int 0)) (fun u => []) := by
  refine CT.of (own := "BallothallModel") (by decide +kernel) (Nat.le_of_ble_eq_true rfl) rfl (fun p e s m below meth c A ls hx hb hml hr hts hown hlocks hin hA hG hZ hP hD hS hl => ?_)
  have hl : lv_has ls 3 [(0, .int x0), (1, .int 0), (2, .int 20)] := hl
  refine lv_iload_n hx hb d_14_20_0 rfl (lv_at hl 0 rfl) ?_
  refine lv_iload_n hx hb d_14_20_1 rfl (lv_at hl 1 rfl) ?_
  refine lv_icmp_lt (tgt := 14) hx hb d_14_20_2 (by decide) (fun c9 => absurd c9 h0) (fun _ => ?_)
  refine lv_iload_n hx hb d_14_20_5 rfl (lv_at hl 0 rfl) ?_
  refine lv_iload_n hx hb d_14_20_6 rfl (lv_at hl 2 rfl) ?_
  refine lv_icmp_gt (tgt := 14) hx hb d_14_20_7 (by decide) (fun _ => ?_) (fun c9 => absurd h1 c9)
  refine lv_iconst (v := 0) hx hb d_14_20_14 (by decide +kernel) ?_
  refine W.widen (k := 0) (n := 0) (Nat.le_of_ble_eq_true rfl) (Nat.le_of_ble_eq_true rfl) ?_
  exact W.zret hx hb hr rfl (fun t ht hW => qk hP hD hS [] rfl ((fun k => k), (fun _ _ => none)) rfl rfl rfl ht) hS.2.2 d_14_20_15
set_option maxRecDepth 100000 in
set_option maxHeartbeats 4000000 in
theorem c173_BModel_seats (l : Launch) (z : Zz) (a0 a1 a2 a3 a4 : Nat) (x0 : Int32) (x1 : Int32) (x2 : Int32) (h0 : ¬ x0 < 0) (h1 : ¬ 5 < x0) (h2 : ¬ x1 < 1) (h3 : ¬ 60 < x1) (h4 : ¬ x2 < 0) (h5 : 20 < x2) : CT l z ⟨"BallothallModel", "seats", "(III)I"⟩ prog_14_method_42_code 4 (some .int) [.ref a0, .int x0, .int x1, .int x2] [(a0, .inr (18, [.ref a1, .ref a2, .int 0, .ref a3, .int 0, .ref a4, .int 0, .null, .int 0, .null, .long 0, .int 0, .null]))] 1 30 0 0 (fun u => some (.int 0)) (fun u => [(a0, .inr (18, [.ref a1, .ref a2, .int 0, .ref a3, .int 0, .ref a4, .int 1, .null, .int 0, .null, .long 0, .int 0, .null]))]) := by
  refine CT.of (own := "BallothallModel") (by decide +kernel) (Nat.le_of_ble_eq_true rfl) rfl (fun p e s m below meth c A ls hx hb hml hr hts hown hlocks hin hA hG hZ hP hD hS hl => ?_)
  have hl : lv_has ls 4 [(0, .ref a0), (1, .int x0), (2, .int x1), (3, .int x2)] := hl
  refine lv_aload_n hx hb d_14_42_0 rfl (lv_at hl 0 rfl) ?_
  refine lv_iload_n hx hb d_14_42_1 rfl (lv_at hl 1 rfl) ?_
  refine lv_iconst (v := 0) hx hb d_14_42_2 (by decide +kernel) ?_
  refine lv_iconst (v := 5) hx hb d_14_42_3 (by decide +kernel) ?_
  refine kS (As := [.int x0, .int 0, .int 5]) (rest := [.ref a0]) (wr := [(a0, .inr (18, [.ref a1, .ref a2, .int 0, .ref a3, .int 0, .ref a4, .int 0, .null, .int 0, .null, .long 0, .int 0, .null]))]) (c154_BModel_isIn l z x0 h0 h1) hx hb hml hown hts w_1718 w_1716 w_1717 w_12 md_bca45c ⟨Nat.le_of_ble_eq_true rfl, Nat.le_of_ble_eq_true rfl⟩ hG hZ hP hD hS hA [] [0] rfl rfl rfl rfl rfl hl.1 rfl (Nat.le_of_ble_eq_true rfl) d_14_42_4 ⟨Nat.le_of_ble_eq_true rfl, Nat.le_of_ble_eq_true rfl⟩ (fun u0 H locs hP hD hS => ?_)
  have hP : va_P z.1 classes [(a0, .inr (18, [.ref a1, .ref a2, .int 0, .ref a3, .int 0, .ref a4, .int 0, .null, .int 0, .null, .long 0, .int 0, .null]))] H := hP
  have hD : va_D A [(a0, .inr (18, [.ref a1, .ref a2, .int 0, .ref a3, .int 0, .ref a4, .int 0, .null, .int 0, .null, .long 0, .int 0, .null]))] := hD
  refine W.eq (g2 := F0 m 7 ls [.int 1, .ref a0]) rfl ?_
  refine lv_if_eq (tgt := 34) hx hb d_14_42_7 (by decide) (fun c9 => absurd c9 (by decide +kernel)) (fun _ => ?_)
  refine lv_iload_n hx hb d_14_42_10 rfl (lv_at hl 2 rfl) ?_
  refine lv_iconst (v := 1) hx hb d_14_42_11 (by decide +kernel) ?_
  refine lv_bipush (v := 60) hx hb d_14_42_12 (by decide +kernel) ?_
  refine kS (As := [.int x1, .int 1, .int 60]) (rest := [.ref a0]) (wr := [(a0, .inr (18, [.ref a1, .ref a2, .int 0, .ref a3, .int 0, .ref a4, .int 0, .null, .int 0, .null, .long 0, .int 0, .null]))]) (c166_BModel_isIn l z x1 h2 h3) hx hb hml hown hts w_1718 w_1716 w_1717 w_12 md_bca45c ⟨Nat.le_of_ble_eq_true rfl, Nat.le_of_ble_eq_true rfl⟩ hG hZ hP hD hS hA [] [0] rfl rfl rfl rfl rfl hl.1 rfl (Nat.le_of_ble_eq_true rfl) d_14_42_14 ⟨Nat.le_of_ble_eq_true rfl, Nat.le_of_ble_eq_true rfl⟩ (fun u1 H locs hP hD hS => ?_)
  have hP : va_P z.1 classes [(a0, .inr (18, [.ref a1, .ref a2, .int 0, .ref a3, .int 0, .ref a4, .int 0, .null, .int 0, .null, .long 0, .int 0, .null]))] H := hP
  have hD : va_D A [(a0, .inr (18, [.ref a1, .ref a2, .int 0, .ref a3, .int 0, .ref a4, .int 0, .null, .int 0, .null, .long 0, .int 0, .null]))] := hD
  refine W.eq (g2 := F0 m 17 ls [.int 1, .ref a0]) rfl ?_
  refine lv_if_eq (tgt := 34) hx hb d_14_42_17 (by decide) (fun c9 => absurd c9 (by decide +kernel)) (fun _ => ?_)
  refine lv_iload_n hx hb d_14_42_20 rfl (lv_at hl 3 rfl) ?_
  refine lv_iconst (v := 0) hx hb d_14_42_21 (by decide +kernel) ?_
  refine lv_bipush (v := 20) hx hb d_14_42_22 (by decide +kernel) ?_
  refine kS (As := [.int x2, .int 0, .int 20]) (rest := [.ref a0]) (wr := [(a0, .inr (18, [.ref a1, .ref a2, .int 0, .ref a3, .int 0, .ref a4, .int 0, .null, .int 0, .null, .long 0, .int 0, .null]))]) (c172_BModel_isIn l z x2 h4 h5) hx hb hml hown hts w_1718 w_1716 w_1717 w_12 md_bca45c ⟨Nat.le_of_ble_eq_true rfl, Nat.le_of_ble_eq_true rfl⟩ hG hZ hP hD hS hA [] [0] rfl rfl rfl rfl rfl hl.1 rfl (Nat.le_of_ble_eq_true rfl) d_14_42_24 ⟨Nat.le_of_ble_eq_true rfl, Nat.le_of_ble_eq_true rfl⟩ (fun u2 H locs hP hD hS => ?_)
  have hP : va_P z.1 classes [(a0, .inr (18, [.ref a1, .ref a2, .int 0, .ref a3, .int 0, .ref a4, .int 0, .null, .int 0, .null, .long 0, .int 0, .null]))] H := hP
  have hD : va_D A [(a0, .inr (18, [.ref a1, .ref a2, .int 0, .ref a3, .int 0, .ref a4, .int 0, .null, .int 0, .null, .long 0, .int 0, .null]))] := hD
  refine W.eq (g2 := F0 m 27 ls [.int 0, .ref a0]) rfl ?_
  refine lv_if_eq (tgt := 34) hx hb d_14_42_27 (by decide) (fun _ => ?_) (fun c9 => absurd (by decide +kernel) c9)
  refine lv_iconst (v := 0) hx hb d_14_42_34 (by decide +kernel) ?_
  refine lv_iconst (v := 1) hx hb d_14_42_35 (by decide +kernel) ?_
  refine kV (As := [.int 0, .int 1]) (rest := []) (wr := []) (c31_BModel_ends l z a0 a1 a2 a3 a4) hx hb hml hown hts w_1696 w_1693 w_1695 w_s_f8f2b7 w_12 md_77b0f8 ⟨Nat.le_of_ble_eq_true rfl, Nat.le_of_ble_eq_true rfl⟩ hG hZ hP hD hS hA 0 rfl rfl rfl [0] [] rfl rfl rfl rfl rfl hl.1 rfl (Nat.le_of_ble_eq_true rfl) d_14_42_36 ⟨Nat.le_of_ble_eq_true rfl, Nat.le_of_ble_eq_true rfl⟩ (fun u3 H locs hP hD hS => ?_)
  have hP : va_P z.1 classes [(a0, .inr (18, [.ref a1, .ref a2, .int 0, .ref a3, .int 0, .ref a4, .int 1, .null, .int 0, .null, .long 0, .int 0, .null]))] H := hP
  have hD : va_D A [(a0, .inr (18, [.ref a1, .ref a2, .int 0, .ref a3, .int 0, .ref a4, .int 1, .null, .int 0, .null, .long 0, .int 0, .null]))] := hD
  refine W.eq (g2 := F0 m 39 ls [.int 1]) rfl ?_
  refine lv_if_eq (tgt := 44) hx hb d_14_42_39 (by decide) (fun c9 => absurd c9 (by decide +kernel)) (fun _ => ?_)
  refine lv_iconst (v := 0) hx hb d_14_42_42 (by decide +kernel) ?_
  refine W.widen (k := 0) (n := 0) (Nat.le_of_ble_eq_true rfl) (Nat.le_of_ble_eq_true rfl) ?_
  exact W.iret hx hb hr (fun t ht hW => qk hP hD hS [0] rfl ((fun k => k), (fun _ _ => none)) rfl rfl rfl ht) hS.2.2 d_14_42_43
set_option maxRecDepth 100000 in
set_option maxHeartbeats 4000000 in
theorem c174_B_needRange (l : Launch) (z : Zz) (x0 : Int32) (h0 : ¬ x0 < 0) (h1 : ¬ 20 < x0) : CT l z ⟨"Ballothall", "needRange", "(III)V"⟩ prog_1_method_57_code 3 none [.int x0, .int 0, .int 20] [] 0 0 0 0 (fun u => none) (fun u => []) := by
  refine CT.of (own := "Ballothall") (by decide +kernel) (Nat.le_of_ble_eq_true rfl) rfl (fun p e s m below meth c A ls hx hb hml hr hts hown hlocks hin hA hG hZ hP hD hS hl => ?_)
  have hl : lv_has ls 3 [(0, .int x0), (1, .int 0), (2, .int 20)] := hl
  refine lv_iload_n hx hb d_1_57_0 rfl (lv_at hl 0 rfl) ?_
  refine lv_iload_n hx hb d_1_57_1 rfl (lv_at hl 1 rfl) ?_
  refine lv_icmp_lt (tgt := 10) hx hb d_1_57_2 (by decide) (fun c9 => absurd c9 h0) (fun _ => ?_)
  refine lv_iload_n hx hb d_1_57_5 rfl (lv_at hl 0 rfl) ?_
  refine lv_iload_n hx hb d_1_57_6 rfl (lv_at hl 2 rfl) ?_
  refine lv_icmp_le (tgt := 21) hx hb d_1_57_7 (by decide) (fun _ => ?_) (fun c9 => absurd (Int32.not_lt.mp h1) c9)
  refine W.widen (k := 0) (n := 0) (Nat.le_of_ble_eq_true rfl) (Nat.le_of_ble_eq_true rfl) ?_
  exact W.vret hx hb hr (fun t ht hW => qk hP hD hS [] rfl ((fun k => k), (fun _ _ => none)) rfl rfl rfl ht) hS.2.2 d_1_57_21
set_option maxRecDepth 100000 in
set_option maxHeartbeats 4000000 in
theorem c175_Division_clear (l : Launch) (z : Zz) (a0 a1 a2 a3 a4 a5 a6 : Nat) : CT l z ⟨"Ballothall$Division", "clear", "()V"⟩ prog_6_method_2_code 1 none [.ref a0] [(a0, .inr (4, [.int 0, .int 0, .ref a1, .ref a2, .ref a3, .ref a4, .ref a5, .ref a6]))] 0 0 0 0 (fun u => none) (fun u => [(a0, .inr (4, [.int 0, .int 0, .ref a1, .ref a2, .ref a3, .ref a4, .ref a5, .ref a6]))]) := by
  refine CT.of (own := "Ballothall$Division") (by decide +kernel) (Nat.le_of_ble_eq_true rfl) rfl (fun p e s m below meth c A ls hx hb hml hr hts hown hlocks hin hA hG hZ hP hD hS hl => ?_)
  have hl : lv_has ls 1 [(0, .ref a0)] := hl
  refine lv_aload_n hx hb d_6_2_0 rfl (lv_at hl 0 rfl) ?_
  refine lv_iconst (v := 0) hx hb d_6_2_1 (by decide +kernel) ?_
  refine va_put (D := z.1) (ci := 4) (v := .int 0) (ty := .int) (C := "Ballothall$Division") (T := TX4) (N := 8) hx hb hts iX4 tyX4 tyX4_ok nmX4 hown hG.1 hP hD hS 0 rfl rfl 0 (by decide) (hts _ w_182) (fun _ h9 => h9) rfl (by decide +kernel) rfl rfl (Nat.le_of_ble_eq_true rfl) d_6_2_2 (fun H locs hP hD hS => ?_)
  have hP : va_P z.1 classes [(a0, .inr (4, [.int 0, .int 0, .ref a1, .ref a2, .ref a3, .ref a4, .ref a5, .ref a6]))] H := hP
  have hD : va_D A [(a0, .inr (4, [.int 0, .int 0, .ref a1, .ref a2, .ref a3, .ref a4, .ref a5, .ref a6]))] := hD
  refine lv_aload_n hx hb d_6_2_5 rfl (lv_at hl 0 rfl) ?_
  refine lv_iconst (v := 0) hx hb d_6_2_6 (by decide +kernel) ?_
  refine va_put (D := z.1) (ci := 4) (v := .int 0) (ty := .int) (C := "Ballothall$Division") (T := TX4) (N := 8) hx hb hts iX4 tyX4 tyX4_ok nmX4 hown hG.1 hP hD hS 0 rfl rfl 1 (by decide) (hts _ w_184) (fun _ h9 => h9) rfl (by decide +kernel) rfl rfl (Nat.le_of_ble_eq_true rfl) d_6_2_7 (fun H locs hP hD hS => ?_)
  have hP : va_P z.1 classes [(a0, .inr (4, [.int 0, .int 0, .ref a1, .ref a2, .ref a3, .ref a4, .ref a5, .ref a6]))] H := hP
  have hD : va_D A [(a0, .inr (4, [.int 0, .int 0, .ref a1, .ref a2, .ref a3, .ref a4, .ref a5, .ref a6]))] := hD
  refine W.widen (k := 0) (n := 0) (Nat.le_of_ble_eq_true rfl) (Nat.le_of_ble_eq_true rfl) ?_
  exact W.vret hx hb hr (fun t ht hW => qk hP hD hS [0] rfl ((fun k => k), (fun _ _ => none)) rfl rfl rfl ht) hS.2.2 d_6_2_10
set_option maxRecDepth 100000 in
set_option maxHeartbeats 4000000 in
theorem c176_Division_distribute (l : Launch) (z : Zz) (a0 a1 a2 a3 a4 a5 a6 : Nat) (x0 : Int32) (x1 : Int32) : CT l z ⟨"Ballothall$Division", "distribute", "(II)V"⟩ prog_6_method_5_code 6 none [.ref a0, .int x0, .int x1] [(a0, .inr (4, [.int 0, .int 0, .ref a1, .ref a2, .ref a3, .ref a4, .ref a5, .ref a6]))] 0 0 0 0 (fun u => none) (fun u => [(a0, .inr (4, [.int 0, .int 0, .ref a1, .ref a2, .ref a3, .ref a4, .ref a5, .ref a6]))]) := by
  refine CT.of (own := "Ballothall$Division") (by decide +kernel) (Nat.le_of_ble_eq_true rfl) rfl (fun p e s m below meth c A ls hx hb hml hr hts hown hlocks hin hA hG hZ hP hD hS hl => ?_)
  have hl : lv_has ls 6 [(0, .ref a0), (1, .int x0), (2, .int x1)] := hl
  refine lv_aload_n hx hb d_6_5_0 rfl (lv_at hl 0 rfl) ?_
  refine va_get (D := z.1) (ci := 4) (v := .int 0) (C := "Ballothall$Division") (T := TX4) (N := 8) hx hb hts iX4 hown hG.1 hP 0 rfl rfl 0 (by decide) (hts _ w_182) (fun _ h9 => h9) rfl d_6_5_1 ?_
  refine lv_if_ne (tgt := 8) hx hb d_6_5_4 (by decide) (fun c9 => absurd (by decide +kernel) c9) (fun _ => ?_)
  refine W.widen (k := 0) (n := 0) (Nat.le_of_ble_eq_true rfl) (Nat.le_of_ble_eq_true rfl) ?_
  exact W.vret hx hb hr (fun t ht hW => qk hP hD hS [0] rfl ((fun k => k), (fun _ _ => none)) rfl rfl rfl ht) hS.2.2 d_6_5_7
set_option maxRecDepth 100000 in
set_option maxHeartbeats 4000000 in
theorem c177_Lists_spread (l : Launch) (z : Zz) (a0 a1 a2 a3 a4 a5 a6 a7 a8 a9 a10 a11 a12 a13 a14 : Nat) (x0 : Int32) (x1 : Int32) (x2 : Int32) : CT l z ⟨"Ballothall$Lists", "spread", "(III)I"⟩ prog_9_method_5_code 7 (some .int) [.ref a0, .int x0, .int x1, .int x2] [(a0, .inr (7, [.int 0, .ref a1, .ref a2, .ref a3, .ref a4, .ref a5, .int 0, .ref a6, .ref a7, .ref a8, .int 0])), (a4, .inr (4, [.int 0, .int 0, .ref a9, .ref a10, .ref a11, .ref a12, .ref a13, .ref a14])), (a6, .inl (z.2 0, 8, .inl (fun _ => 0)))] 2 51 0 0 (fun u => some (.int 0)) (fun u => [(a0, .inr (7, [.int 0, .ref a1, .ref a2, .ref a3, .ref a4, .ref a5, .int 0, .ref a6, .ref a7, .ref a8, .int 0])), (a4, .inr (4, [.int 0, .int 0, .ref a9, .ref a10, .ref a11, .ref a12, .ref a13, .ref a14])), (a6, .inl (z.2 0, 8, .inl (fun _ => 0)))]) := by
  refine CT.of (own := "Ballothall$Lists") (by decide +kernel) (Nat.le_of_ble_eq_true rfl) rfl (fun p e s m below meth c A ls hx hb hml hr hts hown hlocks hin hA hG hZ hP hD hS hl => ?_)
  have hl : lv_has ls 7 [(0, .ref a0), (1, .int x0), (2, .int x1), (3, .int x2)] := hl
  refine lv_lconst (v := 0) hx hb d_9_5_0 (by decide +kernel) ?_
  refine lv_lstore (lv' := [(4, .long 0), (0, .ref a0), (1, .int x0), (2, .int x1), (3, .int x2)]) hx hb d_9_5_1 hl (by decide) rfl (fun ls hl => ?_)
  refine lv_iconst (v := 0) hx hb d_9_5_3 (by decide +kernel) ?_
  refine lv_istore (lv' := [(6, .int 0), (4, .long 0), (0, .ref a0), (1, .int x0), (2, .int x1), (3, .int x2)]) hx hb d_9_5_4 hl (by decide) rfl (fun ls hl => ?_)
  refine lv_iload hx hb d_9_5_6 (lv_at hl 0 rfl) ?_
  refine lv_aload_n hx hb d_9_5_8 rfl (lv_at hl 2 rfl) ?_
  refine va_get (D := z.1) (ci := 7) (v := .int 0) (C := "Ballothall$Lists") (T := TX7) (N := 11) hx hb hts iX7 hown hG.1 hP 0 rfl rfl 0 (by decide) (hts _ w_249) (fun _ h9 => h9) rfl d_9_5_9 ?_
  refine lv_icmp_ge (tgt := 34) hx hb d_9_5_12 (by decide) (fun _ => ?_) (fun c9 => absurd (by decide +kernel) c9)
  refine lv_aload_n hx hb d_9_5_34 rfl (lv_at hl 2 rfl) ?_
  refine va_get (D := z.1) (ci := 7) (v := .ref a4) (C := "Ballothall$Lists") (T := TX7) (N := 11) hx hb hts iX7 hown hG.1 hP 0 rfl rfl 4 (by decide) (hts _ w_257) (fun _ h9 => h9) rfl d_9_5_35 ?_
  refine kVN (As := []) (rest := []) (wr := [(a0, .inr (7, [.int 0, .ref a1, .ref a2, .ref a3, .ref a4, .ref a5, .int 0, .ref a6, .ref a7, .ref a8, .int 0])), (a6, .inl (z.2 0, 8, .inl (fun _ => 0)))]) (c175_Division_clear l z a4 a9 a10 a11 a12 a13 a14) hx hb hml hown hts w_1006 n_1003 w_1005 w_s_030e9c w_6 md_4dddda ⟨Nat.le_of_ble_eq_true rfl, Nat.le_of_ble_eq_true rfl⟩ hG hZ hP hD hS hA 1 rfl rfl rfl [1] [0, 2] rfl rfl rfl rfl rfl hl.1 rfl (Nat.le_of_ble_eq_true rfl) d_9_5_38 ⟨Nat.le_of_ble_eq_true rfl, Nat.le_of_ble_eq_true rfl⟩ (fun u0 H locs hP hD hS => ?_)
  have hP : va_P z.1 classes [(a0, .inr (7, [.int 0, .ref a1, .ref a2, .ref a3, .ref a4, .ref a5, .int 0, .ref a6, .ref a7, .ref a8, .int 0])), (a6, .inl (z.2 0, 8, .inl (fun _ => 0))), (a4, .inr (4, [.int 0, .int 0, .ref a9, .ref a10, .ref a11, .ref a12, .ref a13, .ref a14]))] H := hP
  have hD : va_D A [(a0, .inr (7, [.int 0, .ref a1, .ref a2, .ref a3, .ref a4, .ref a5, .int 0, .ref a6, .ref a7, .ref a8, .int 0])), (a6, .inl (z.2 0, 8, .inl (fun _ => 0))), (a4, .inr (4, [.int 0, .int 0, .ref a9, .ref a10, .ref a11, .ref a12, .ref a13, .ref a14]))] := hD
  refine W.eq (g2 := F0 m 41 ls []) rfl ?_
  refine lv_aload_n hx hb d_9_5_41 rfl (lv_at hl 2 rfl) ?_
  refine lv_iconst (v := 0) hx hb d_9_5_42 (by decide +kernel) ?_
  refine va_put (D := z.1) (ci := 7) (v := .int 0) (ty := .boolean) (C := "Ballothall$Lists") (T := TX7) (N := 11) hx hb hts iX7 tyX7 tyX7_ok nmX7 hown hG.1 hP hD hS 0 rfl rfl 6 (by decide) (hts _ w_259) (fun _ h9 => h9) rfl (by decide +kernel) rfl rfl (Nat.le_of_ble_eq_true rfl) d_9_5_43 (fun H locs hP hD hS => ?_)
  have hP : va_P z.1 classes [(a0, .inr (7, [.int 0, .ref a1, .ref a2, .ref a3, .ref a4, .ref a5, .int 0, .ref a6, .ref a7, .ref a8, .int 0])), (a6, .inl (z.2 0, 8, .inl (fun _ => 0))), (a4, .inr (4, [.int 0, .int 0, .ref a9, .ref a10, .ref a11, .ref a12, .ref a13, .ref a14]))] H := hP
  have hD : va_D A [(a0, .inr (7, [.int 0, .ref a1, .ref a2, .ref a3, .ref a4, .ref a5, .int 0, .ref a6, .ref a7, .ref a8, .int 0])), (a6, .inl (z.2 0, 8, .inl (fun _ => 0))), (a4, .inr (4, [.int 0, .int 0, .ref a9, .ref a10, .ref a11, .ref a12, .ref a13, .ref a14]))] := hD
  refine lv_iconst (v := 0) hx hb d_9_5_46 (by decide +kernel) ?_
  refine lv_istore (lv' := [(6, .int 0), (4, .long 0), (0, .ref a0), (1, .int x0), (2, .int x1), (3, .int x2)]) hx hb d_9_5_47 hl (by decide) rfl (fun ls hl => ?_)
  refine lv_iload hx hb d_9_5_49 (lv_at hl 0 rfl) ?_
  refine lv_aload_n hx hb d_9_5_51 rfl (lv_at hl 2 rfl) ?_
  refine va_get (D := z.1) (ci := 7) (v := .int 0) (C := "Ballothall$Lists") (T := TX7) (N := 11) hx hb hts iX7 hown hG.1 hP 0 rfl rfl 0 (by decide) (hts _ w_249) (fun _ h9 => h9) rfl d_9_5_52 ?_
  refine lv_icmp_ge (tgt := 84) hx hb d_9_5_55 (by decide) (fun _ => ?_) (fun c9 => absurd (by decide +kernel) c9)
  refine lv_aload_n hx hb d_9_5_84 rfl (lv_at hl 2 rfl) ?_
  refine va_get (D := z.1) (ci := 7) (v := .ref a4) (C := "Ballothall$Lists") (T := TX7) (N := 11) hx hb hts iX7 hown hG.1 hP 0 rfl rfl 4 (by decide) (hts _ w_257) (fun _ h9 => h9) rfl d_9_5_85 ?_
  refine lv_iload_n hx hb d_9_5_88 rfl (lv_at hl 3 rfl) ?_
  refine lv_iload_n hx hb d_9_5_89 rfl (lv_at hl 4 rfl) ?_
  refine kVN (As := [.int x0, .int x1]) (rest := []) (wr := [(a0, .inr (7, [.int 0, .ref a1, .ref a2, .ref a3, .ref a4, .ref a5, .int 0, .ref a6, .ref a7, .ref a8, .int 0])), (a6, .inl (z.2 0, 8, .inl (fun _ => 0)))]) (c176_Division_distribute l z a4 a9 a10 a11 a12 a13 a14 x0 x1) hx hb hml hown hts w_1027 n_1024 w_1026 w_s_cb71bb w_6 md_9f0e03 ⟨Nat.le_of_ble_eq_true rfl, Nat.le_of_ble_eq_true rfl⟩ hG hZ hP hD hS hA 2 rfl rfl rfl [2] [0, 1] rfl rfl rfl rfl rfl hl.1 rfl (Nat.le_of_ble_eq_true rfl) d_9_5_90 ⟨Nat.le_of_ble_eq_true rfl, Nat.le_of_ble_eq_true rfl⟩ (fun u1 H locs hP hD hS => ?_)
  have hP : va_P z.1 classes [(a0, .inr (7, [.int 0, .ref a1, .ref a2, .ref a3, .ref a4, .ref a5, .int 0, .ref a6, .ref a7, .ref a8, .int 0])), (a6, .inl (z.2 0, 8, .inl (fun _ => 0))), (a4, .inr (4, [.int 0, .int 0, .ref a9, .ref a10, .ref a11, .ref a12, .ref a13, .ref a14]))] H := hP
  have hD : va_D A [(a0, .inr (7, [.int 0, .ref a1, .ref a2, .ref a3, .ref a4, .ref a5, .int 0, .ref a6, .ref a7, .ref a8, .int 0])), (a6, .inl (z.2 0, 8, .inl (fun _ => 0))), (a4, .inr (4, [.int 0, .int 0, .ref a9, .ref a10, .ref a11, .ref a12, .ref a13, .ref a14]))] := hD
  refine W.eq (g2 := F0 m 93 ls []) rfl ?_
  refine lv_aload_n hx hb d_9_5_93 rfl (lv_at hl 2 rfl) ?_
  refine va_get (D := z.1) (ci := 7) (v := .ref a6) (C := "Ballothall$Lists") (T := TX7) (N := 11) hx hb hts iX7 hown hG.1 hP 0 rfl rfl 7 (by decide) (hts _ w_260) (fun _ h9 => h9) rfl d_9_5_94 ?_
  refine lv_iconst (v := 0) hx hb d_9_5_97 (by decide +kernel) ?_
  refine kS (As := [.ref a6, .int 0]) (rest := []) (wr := [(a0, .inr (7, [.int 0, .ref a1, .ref a2, .ref a3, .ref a4, .ref a5, .int 0, .ref a6, .ref a7, .ref a8, .int 0])), (a4, .inr (4, [.int 0, .int 0, .ref a9, .ref a10, .ref a11, .ref a12, .ref a13, .ref a14]))]) (c_fill0 l z a6 8 (by decide)) hx hb hml hown hts w_487 w_1054 w_486 w_22 md_e8f65d ⟨Nat.le_of_ble_eq_true rfl, Nat.le_of_ble_eq_true rfl⟩ hG hZ hP hD hS hA [1] [0, 2] rfl rfl rfl rfl rfl hl.1 rfl (Nat.le_of_ble_eq_true rfl) d_9_5_98 ⟨Nat.le_of_ble_eq_true rfl, Nat.le_of_ble_eq_true rfl⟩ (fun u2 H locs hP hD hS => ?_)
  have hP : va_P z.1 classes [(a0, .inr (7, [.int 0, .ref a1, .ref a2, .ref a3, .ref a4, .ref a5, .int 0, .ref a6, .ref a7, .ref a8, .int 0])), (a4, .inr (4, [.int 0, .int 0, .ref a9, .ref a10, .ref a11, .ref a12, .ref a13, .ref a14])), (a6, .inl (z.2 0, 8, .inl (fun _ => 0)))] H := hP
  have hD : va_D A [(a0, .inr (7, [.int 0, .ref a1, .ref a2, .ref a3, .ref a4, .ref a5, .int 0, .ref a6, .ref a7, .ref a8, .int 0])), (a4, .inr (4, [.int 0, .int 0, .ref a9, .ref a10, .ref a11, .ref a12, .ref a13, .ref a14])), (a6, .inl (z.2 0, 8, .inl (fun _ => 0)))] := hD
  refine W.eq (g2 := F0 m 101 ls []) rfl ?_
  refine lv_iconst (v := 0) hx hb d_9_5_101 (by decide +kernel) ?_
  refine lv_istore (lv' := [(6, .int 0), (4, .long 0), (0, .ref a0), (1, .int x0), (2, .int x1), (3, .int x2)]) hx hb d_9_5_102 hl (by decide) rfl (fun ls hl => ?_)
  refine lv_iload hx hb d_9_5_104 (lv_at hl 0 rfl) ?_
  refine lv_aload_n hx hb d_9_5_106 rfl (lv_at hl 2 rfl) ?_
  refine va_get (D := z.1) (ci := 7) (v := .ref a4) (C := "Ballothall$Lists") (T := TX7) (N := 11) hx hb hts iX7 hown hG.1 hP 0 rfl rfl 4 (by decide) (hts _ w_257) (fun _ h9 => h9) rfl d_9_5_107 ?_
  refine va_getN (D := z.1) (ci := 4) (v := .int 0) (C := "Ballothall$Division") (T := TX4) (N := 8) hx hb hts iX4 hown hG.1 hP 1 rfl rfl 0 (by decide) (va_Nw.use rfl (hG.2.1 _ n_183 rfl)) (fun _ h9 => h9) rfl d_9_5_110 ?_
  refine lv_icmp_ge (tgt := 147) hx hb d_9_5_113 (by decide) (fun _ => ?_) (fun c9 => absurd (by decide +kernel) c9)
  refine lv_aload_n hx hb d_9_5_147 rfl (lv_at hl 2 rfl) ?_
  refine va_get (D := z.1) (ci := 7) (v := .ref a4) (C := "Ballothall$Lists") (T := TX7) (N := 11) hx hb hts iX7 hown hG.1 hP 0 rfl rfl 4 (by decide) (hts _ w_257) (fun _ h9 => h9) rfl d_9_5_148 ?_
  refine va_getN (D := z.1) (ci := 4) (v := .int 0) (C := "Ballothall$Division") (T := TX4) (N := 8) hx hb hts iX4 hown hG.1 hP 1 rfl rfl 0 (by decide) (va_Nw.use rfl (hG.2.1 _ n_183 rfl)) (fun _ h9 => h9) rfl d_9_5_151 ?_
  refine W.widen (k := 0) (n := 0) (Nat.le_of_ble_eq_true rfl) (Nat.le_of_ble_eq_true rfl) ?_
  exact W.iret hx hb hr (fun t ht hW => qk hP hD hS [0, 1, 2] rfl ((fun k => k), (fun _ _ => none)) rfl rfl rfl ht) hS.2.2 d_9_5_154
set_option maxRecDepth 100000 in
set_option maxHeartbeats 4000000 in
theorem c178_Lists_keepSpread (l : Launch) (z : Zz) (a0 a1 a2 a3 a4 a5 a6 a7 a8 a9 a10 a11 a12 a13 a14 a15 a16 a17 a18 a19 a20 a21 a22 a23 a24 a25 a26 a27 a28 a29 a30 a31 a32 a33 a34 a35 a36 a37 a38 a39 : Nat) : CT l z ⟨"Ballothall$Lists", "keepSpread", "()V"⟩ prog_9_method_9_code 2 none [.ref a0] [(a0, .inr (7, [.int 0, .ref a1, .ref a2, .ref a3, .ref a4, .ref a5, .int 0, .ref a6, .ref a7, .ref a8, .int 0])), (a8, .inl (z.2 3, 21, .inr (.inr (.inr (.inr (va_up (va_up (va_up (va_up (va_up (va_up (va_up (va_up (va_up (va_up (va_up (va_up (va_up (va_up (va_up (va_up (va_up (va_up (va_up (va_up (va_up (fun _ => none) 0 (some a9)) 1 (some a10)) 2 (some a11)) 3 (some a12)) 4 (some a13)) 5 (some a14)) 6 (some a15)) 7 (some a16)) 8 (some a17)) 9 (some a18)) 10 (some a19)) 11 (some a20)) 12 (some a21)) 13 (some a22)) 14 (some a23)) 15 (some a24)) 16 (some a25)) 17 (some a26)) 18 (some a27)) 19 (some a28)) 20 (some a29))))))), (a4, .inr (4, [.int 0, .int 0, .ref a30, .ref a31, .ref a32, .ref a33, .ref a34, .ref a35])), (a10, .inr (6, [.int 0, .int 0, .int 0, .ref a36, .ref a37, .ref a38, .ref a39])), (a35, .inl (z.2 0, 61, .inl (fun _ => 0))), (a36, .inl (z.2 0, 60, .inl (fun _ => 0))), (a6, .inl (z.2 0, 8, .inl (fun _ => 0))), (a37, .inl (z.2 0, 8, .inl (fun _ => 0))), (a1, .inl (z.2 0, 8, .inl (fun _ => 0))), (a38, .inl (z.2 0, 8, .inl (fun _ => 0))), (a2, .inl (z.2 0, 8, .inl (fun _ => 0))), (a39, .inl (z.2 0, 8, .inl (fun _ => 0)))] 1 60 0 0 (fun u => none) (fun u => [(a0, .inr (7, [.int 0, .ref a1, .ref a2, .ref a3, .ref a4, .ref a5, .int 0, .ref a6, .ref a7, .ref a8, .int 1])), (a8, .inl (z.2 3, 21, .inr (.inr (.inr (.inr (va_up (va_up (va_up (va_up (va_up (va_up (va_up (va_up (va_up (va_up (va_up (va_up (va_up (va_up (va_up (va_up (va_up (va_up (va_up (va_up (va_up (fun _ => none) 0 (some a9)) 1 (some a10)) 2 (some a11)) 3 (some a12)) 4 (some a13)) 5 (some a14)) 6 (some a15)) 7 (some a16)) 8 (some a17)) 9 (some a18)) 10 (some a19)) 11 (some a20)) 12 (some a21)) 13 (some a22)) 14 (some a23)) 15 (some a24)) 16 (some a25)) 17 (some a26)) 18 (some a27)) 19 (some a28)) 20 (some a29))))))), (a4, .inr (4, [.int 0, .int 0, .ref a30, .ref a31, .ref a32, .ref a33, .ref a34, .ref a35])), (a10, .inr (6, [.int 0, .int 0, .int 0, .ref a36, .ref a37, .ref a38, .ref a39])), (a35, .inl (z.2 0, 61, .inl (fun _ => 0))), (a36, .inl (z.2 0, 60, .inl (fun _ => 0))), (a6, .inl (z.2 0, 8, .inl (fun _ => 0))), (a37, .inl (z.2 0, 8, .inl (fun _ => 0))), (a1, .inl (z.2 0, 8, .inl (fun _ => 0))), (a38, .inl (z.2 0, 8, .inl (fun _ => 0))), (a2, .inl (z.2 0, 8, .inl (fun _ => 0))), (a39, .inl (z.2 0, 8, .inl (fun _ => 0)))]) := by
  refine CT.of (own := "Ballothall$Lists") (by decide +kernel) (Nat.le_of_ble_eq_true rfl) rfl (fun p e s m below meth c A ls hx hb hml hr hts hown hlocks hin hA hG hZ hP hD hS hl => ?_)
  have hl : lv_has ls 2 [(0, .ref a0)] := hl
  refine lv_aload_n hx hb d_9_9_0 rfl (lv_at hl 0 rfl) ?_
  refine lv_aload_n hx hb d_9_9_1 rfl (lv_at hl 0 rfl) ?_
  refine va_get (D := z.1) (ci := 7) (v := .int 0) (C := "Ballothall$Lists") (T := TX7) (N := 11) hx hb hts iX7 hown hG.1 hP 0 rfl rfl 10 (by decide) (hts _ w_263) (fun _ h9 => h9) rfl d_9_9_2 ?_
  refine lv_iconst (v := 1) hx hb d_9_9_5 (by decide +kernel) ?_
  refine lv_iadd hx hb d_9_9_6 ?_
  refine nrm (x1 := 1) (by decide +kernel) ?_
  refine lv_bipush (v := 21) hx hb d_9_9_7 (by decide +kernel) ?_
  refine lv_irem hx hb d_9_9_9 (by decide +kernel) ?_
  refine nrm (x1 := 1) (by decide +kernel) ?_
  refine va_put (D := z.1) (ci := 7) (v := .int 1) (ty := .int) (C := "Ballothall$Lists") (T := TX7) (N := 11) hx hb hts iX7 tyX7 tyX7_ok nmX7 hown hG.1 hP hD hS 0 rfl rfl 10 (by decide) (hts _ w_263) (fun _ h9 => h9) rfl (by decide +kernel) rfl rfl (Nat.le_of_ble_eq_true rfl) d_9_9_10 (fun H locs hP hD hS => ?_)
  have hP : va_P z.1 classes [(a0, .inr (7, [.int 0, .ref a1, .ref a2, .ref a3, .ref a4, .ref a5, .int 0, .ref a6, .ref a7, .ref a8, .int 1])), (a8, .inl (z.2 3, 21, .inr (.inr (.inr (.inr (va_up (va_up (va_up (va_up (va_up (va_up (va_up (va_up (va_up (va_up (va_up (va_up (va_up (va_up (va_up (va_up (va_up (va_up (va_up (va_up (va_up (fun _ => none) 0 (some a9)) 1 (some a10)) 2 (some a11)) 3 (some a12)) 4 (some a13)) 5 (some a14)) 6 (some a15)) 7 (some a16)) 8 (some a17)) 9 (some a18)) 10 (some a19)) 11 (some a20)) 12 (some a21)) 13 (some a22)) 14 (some a23)) 15 (some a24)) 16 (some a25)) 17 (some a26)) 18 (some a27)) 19 (some a28)) 20 (some a29))))))), (a4, .inr (4, [.int 0, .int 0, .ref a30, .ref a31, .ref a32, .ref a33, .ref a34, .ref a35])), (a10, .inr (6, [.int 0, .int 0, .int 0, .ref a36, .ref a37, .ref a38, .ref a39])), (a35, .inl (z.2 0, 61, .inl (fun _ => 0))), (a36, .inl (z.2 0, 60, .inl (fun _ => 0))), (a6, .inl (z.2 0, 8, .inl (fun _ => 0))), (a37, .inl (z.2 0, 8, .inl (fun _ => 0))), (a1, .inl (z.2 0, 8, .inl (fun _ => 0))), (a38, .inl (z.2 0, 8, .inl (fun _ => 0))), (a2, .inl (z.2 0, 8, .inl (fun _ => 0))), (a39, .inl (z.2 0, 8, .inl (fun _ => 0)))] H := hP
  have hD : va_D A [(a0, .inr (7, [.int 0, .ref a1, .ref a2, .ref a3, .ref a4, .ref a5, .int 0, .ref a6, .ref a7, .ref a8, .int 1])), (a8, .inl (z.2 3, 21, .inr (.inr (.inr (.inr (va_up (va_up (va_up (va_up (va_up (va_up (va_up (va_up (va_up (va_up (va_up (va_up (va_up (va_up (va_up (va_up (va_up (va_up (va_up (va_up (va_up (fun _ => none) 0 (some a9)) 1 (some a10)) 2 (some a11)) 3 (some a12)) 4 (some a13)) 5 (some a14)) 6 (some a15)) 7 (some a16)) 8 (some a17)) 9 (some a18)) 10 (some a19)) 11 (some a20)) 12 (some a21)) 13 (some a22)) 14 (some a23)) 15 (some a24)) 16 (some a25)) 17 (some a26)) 18 (some a27)) 19 (some a28)) 20 (some a29))))))), (a4, .inr (4, [.int 0, .int 0, .ref a30, .ref a31, .ref a32, .ref a33, .ref a34, .ref a35])), (a10, .inr (6, [.int 0, .int 0, .int 0, .ref a36, .ref a37, .ref a38, .ref a39])), (a35, .inl (z.2 0, 61, .inl (fun _ => 0))), (a36, .inl (z.2 0, 60, .inl (fun _ => 0))), (a6, .inl (z.2 0, 8, .inl (fun _ => 0))), (a37, .inl (z.2 0, 8, .inl (fun _ => 0))), (a1, .inl (z.2 0, 8, .inl (fun _ => 0))), (a38, .inl (z.2 0, 8, .inl (fun _ => 0))), (a2, .inl (z.2 0, 8, .inl (fun _ => 0))), (a39, .inl (z.2 0, 8, .inl (fun _ => 0)))] := hD
  refine lv_aload_n hx hb d_9_9_13 rfl (lv_at hl 0 rfl) ?_
  refine va_get (D := z.1) (ci := 7) (v := .ref a8) (C := "Ballothall$Lists") (T := TX7) (N := 11) hx hb hts iX7 hown hG.1 hP 0 rfl rfl 9 (by decide) (hts _ w_262) (fun _ h9 => h9) rfl d_9_9_14 ?_
  refine lv_aload_n hx hb d_9_9_17 rfl (lv_at hl 0 rfl) ?_
  refine va_get (D := z.1) (ci := 7) (v := .int 1) (C := "Ballothall$Lists") (T := TX7) (N := 11) hx hb hts iX7 hown hG.1 hP 0 rfl rfl 10 (by decide) (hts _ w_263) (fun _ h9 => h9) rfl d_9_9_18 ?_
  refine va_aldq hx hb hG.1 hP 1 3 rfl rfl (vin rfl) d_9_9_21 ?_
  refine W.eq (g2 := F0 m 22 ls [.ref a10]) rfl ?_
  refine lv_astore_n (lv' := [(1, .ref a10), (0, .ref a0)]) hx hb d_9_9_22 rfl hl (by decide) rfl (fun ls hl => ?_)
  refine lv_aload_n hx hb d_9_9_23 rfl (lv_at hl 0 rfl) ?_
  refine lv_aload_n hx hb d_9_9_24 rfl (lv_at hl 1 rfl) ?_
  refine va_get (D := z.1) (ci := 7) (v := .ref a4) (C := "Ballothall$Lists") (T := TX7) (N := 11) hx hb hts iX7 hown hG.1 hP 0 rfl rfl 4 (by decide) (hts _ w_257) (fun _ h9 => h9) rfl d_9_9_25 ?_
  refine va_getN (D := z.1) (ci := 4) (v := .int 0) (C := "Ballothall$Division") (T := TX4) (N := 8) hx hb hts iX4 hown hG.1 hP 2 rfl rfl 1 (by decide) (va_Nw.use rfl (hG.2.1 _ n_185 rfl)) (fun _ h9 => h9) rfl d_9_9_28 ?_
  refine lv_bipush (v := 60) hx hb d_9_9_31 (by decide +kernel) ?_
  refine va_mmin hx hb (by rw [hml]; exact hl.1.symm) hown (hts _ w_1063) (hts _ w_550) (hts _ w_18) (hts _ w_min) (Nat.le_of_ble_eq_true rfl) (Nat.le_of_ble_eq_true rfl) (Nat.le_of_ble_eq_true rfl) (Nat.le_of_ble_eq_true rfl) d_9_9_33 ?_
  refine nrm (x1 := 0) (by decide +kernel) ?_
  refine va_putN (D := z.1) (ci := 6) (v := .int 0) (ty := .int) (C := "Ballothall$KeptSeats") (T := TX6) (N := 7) hx hb hts iX6 tyX6 tyX6_ok nmX6 hown hG.1 hP hD hS 3 rfl rfl 0 (by decide) (va_Nw.use rfl (hG.2.1 _ n_219 rfl)) (fun _ h9 => h9) rfl (by decide +kernel) rfl rfl (Nat.le_of_ble_eq_true rfl) d_9_9_36 (fun H locs hP hD hS => ?_)
  have hP : va_P z.1 classes [(a0, .inr (7, [.int 0, .ref a1, .ref a2, .ref a3, .ref a4, .ref a5, .int 0, .ref a6, .ref a7, .ref a8, .int 1])), (a8, .inl (z.2 3, 21, .inr (.inr (.inr (.inr (va_up (va_up (va_up (va_up (va_up (va_up (va_up (va_up (va_up (va_up (va_up (va_up (va_up (va_up (va_up (va_up (va_up (va_up (va_up (va_up (va_up (fun _ => none) 0 (some a9)) 1 (some a10)) 2 (some a11)) 3 (some a12)) 4 (some a13)) 5 (some a14)) 6 (some a15)) 7 (some a16)) 8 (some a17)) 9 (some a18)) 10 (some a19)) 11 (some a20)) 12 (some a21)) 13 (some a22)) 14 (some a23)) 15 (some a24)) 16 (some a25)) 17 (some a26)) 18 (some a27)) 19 (some a28)) 20 (some a29))))))), (a4, .inr (4, [.int 0, .int 0, .ref a30, .ref a31, .ref a32, .ref a33, .ref a34, .ref a35])), (a10, .inr (6, [.int 0, .int 0, .int 0, .ref a36, .ref a37, .ref a38, .ref a39])), (a35, .inl (z.2 0, 61, .inl (fun _ => 0))), (a36, .inl (z.2 0, 60, .inl (fun _ => 0))), (a6, .inl (z.2 0, 8, .inl (fun _ => 0))), (a37, .inl (z.2 0, 8, .inl (fun _ => 0))), (a1, .inl (z.2 0, 8, .inl (fun _ => 0))), (a38, .inl (z.2 0, 8, .inl (fun _ => 0))), (a2, .inl (z.2 0, 8, .inl (fun _ => 0))), (a39, .inl (z.2 0, 8, .inl (fun _ => 0)))] H := hP
  have hD : va_D A [(a0, .inr (7, [.int 0, .ref a1, .ref a2, .ref a3, .ref a4, .ref a5, .int 0, .ref a6, .ref a7, .ref a8, .int 1])), (a8, .inl (z.2 3, 21, .inr (.inr (.inr (.inr (va_up (va_up (va_up (va_up (va_up (va_up (va_up (va_up (va_up (va_up (va_up (va_up (va_up (va_up (va_up (va_up (va_up (va_up (va_up (va_up (va_up (fun _ => none) 0 (some a9)) 1 (some a10)) 2 (some a11)) 3 (some a12)) 4 (some a13)) 5 (some a14)) 6 (some a15)) 7 (some a16)) 8 (some a17)) 9 (some a18)) 10 (some a19)) 11 (some a20)) 12 (some a21)) 13 (some a22)) 14 (some a23)) 15 (some a24)) 16 (some a25)) 17 (some a26)) 18 (some a27)) 19 (some a28)) 20 (some a29))))))), (a4, .inr (4, [.int 0, .int 0, .ref a30, .ref a31, .ref a32, .ref a33, .ref a34, .ref a35])), (a10, .inr (6, [.int 0, .int 0, .int 0, .ref a36, .ref a37, .ref a38, .ref a39])), (a35, .inl (z.2 0, 61, .inl (fun _ => 0))), (a36, .inl (z.2 0, 60, .inl (fun _ => 0))), (a6, .inl (z.2 0, 8, .inl (fun _ => 0))), (a37, .inl (z.2 0, 8, .inl (fun _ => 0))), (a1, .inl (z.2 0, 8, .inl (fun _ => 0))), (a38, .inl (z.2 0, 8, .inl (fun _ => 0))), (a2, .inl (z.2 0, 8, .inl (fun _ => 0))), (a39, .inl (z.2 0, 8, .inl (fun _ => 0)))] := hD
  refine lv_aload_n hx hb d_9_9_39 rfl (lv_at hl 0 rfl) ?_
  refine lv_aload_n hx hb d_9_9_40 rfl (lv_at hl 1 rfl) ?_
  refine va_get (D := z.1) (ci := 7) (v := .int 0) (C := "Ballothall$Lists") (T := TX7) (N := 11) hx hb hts iX7 hown hG.1 hP 0 rfl rfl 6 (by decide) (hts _ w_259) (fun _ h9 => h9) rfl d_9_9_41 ?_
  refine va_putN (D := z.1) (ci := 6) (v := .int 0) (ty := .boolean) (C := "Ballothall$KeptSeats") (T := TX6) (N := 7) hx hb hts iX6 tyX6 tyX6_ok nmX6 hown hG.1 hP hD hS 3 rfl rfl 1 (by decide) (va_Nw.use rfl (hG.2.1 _ n_221 rfl)) (fun _ h9 => h9) rfl (by decide +kernel) rfl rfl (Nat.le_of_ble_eq_true rfl) d_9_9_44 (fun H locs hP hD hS => ?_)
  have hP : va_P z.1 classes [(a0, .inr (7, [.int 0, .ref a1, .ref a2, .ref a3, .ref a4, .ref a5, .int 0, .ref a6, .ref a7, .ref a8, .int 1])), (a8, .inl (z.2 3, 21, .inr (.inr (.inr (.inr (va_up (va_up (va_up (va_up (va_up (va_up (va_up (va_up (va_up (va_up (va_up (va_up (va_up (va_up (va_up (va_up (va_up (va_up (va_up (va_up (va_up (fun _ => none) 0 (some a9)) 1 (some a10)) 2 (some a11)) 3 (some a12)) 4 (some a13)) 5 (some a14)) 6 (some a15)) 7 (some a16)) 8 (some a17)) 9 (some a18)) 10 (some a19)) 11 (some a20)) 12 (some a21)) 13 (some a22)) 14 (some a23)) 15 (some a24)) 16 (some a25)) 17 (some a26)) 18 (some a27)) 19 (some a28)) 20 (some a29))))))), (a4, .inr (4, [.int 0, .int 0, .ref a30, .ref a31, .ref a32, .ref a33, .ref a34, .ref a35])), (a10, .inr (6, [.int 0, .int 0, .int 0, .ref a36, .ref a37, .ref a38, .ref a39])), (a35, .inl (z.2 0, 61, .inl (fun _ => 0))), (a36, .inl (z.2 0, 60, .inl (fun _ => 0))), (a6, .inl (z.2 0, 8, .inl (fun _ => 0))), (a37, .inl (z.2 0, 8, .inl (fun _ => 0))), (a1, .inl (z.2 0, 8, .inl (fun _ => 0))), (a38, .inl (z.2 0, 8, .inl (fun _ => 0))), (a2, .inl (z.2 0, 8, .inl (fun _ => 0))), (a39, .inl (z.2 0, 8, .inl (fun _ => 0)))] H := hP
  have hD : va_D A [(a0, .inr (7, [.int 0, .ref a1, .ref a2, .ref a3, .ref a4, .ref a5, .int 0, .ref a6, .ref a7, .ref a8, .int 1])), (a8, .inl (z.2 3, 21, .inr (.inr (.inr (.inr (va_up (va_up (va_up (va_up (va_up (va_up (va_up (va_up (va_up (va_up (va_up (va_up (va_up (va_up (va_up (va_up (va_up (va_up (va_up (va_up (va_up (fun _ => none) 0 (some a9)) 1 (some a10)) 2 (some a11)) 3 (some a12)) 4 (some a13)) 5 (some a14)) 6 (some a15)) 7 (some a16)) 8 (some a17)) 9 (some a18)) 10 (some a19)) 11 (some a20)) 12 (some a21)) 13 (some a22)) 14 (some a23)) 15 (some a24)) 16 (some a25)) 17 (some a26)) 18 (some a27)) 19 (some a28)) 20 (some a29))))))), (a4, .inr (4, [.int 0, .int 0, .ref a30, .ref a31, .ref a32, .ref a33, .ref a34, .ref a35])), (a10, .inr (6, [.int 0, .int 0, .int 0, .ref a36, .ref a37, .ref a38, .ref a39])), (a35, .inl (z.2 0, 61, .inl (fun _ => 0))), (a36, .inl (z.2 0, 60, .inl (fun _ => 0))), (a6, .inl (z.2 0, 8, .inl (fun _ => 0))), (a37, .inl (z.2 0, 8, .inl (fun _ => 0))), (a1, .inl (z.2 0, 8, .inl (fun _ => 0))), (a38, .inl (z.2 0, 8, .inl (fun _ => 0))), (a2, .inl (z.2 0, 8, .inl (fun _ => 0))), (a39, .inl (z.2 0, 8, .inl (fun _ => 0)))] := hD
  refine lv_aload_n hx hb d_9_9_47 rfl (lv_at hl 0 rfl) ?_
  refine lv_aload_n hx hb d_9_9_48 rfl (lv_at hl 1 rfl) ?_
  refine va_get (D := z.1) (ci := 7) (v := .int 0) (C := "Ballothall$Lists") (T := TX7) (N := 11) hx hb hts iX7 hown hG.1 hP 0 rfl rfl 0 (by decide) (hts _ w_249) (fun _ h9 => h9) rfl d_9_9_49 ?_
  refine va_putN (D := z.1) (ci := 6) (v := .int 0) (ty := .int) (C := "Ballothall$KeptSeats") (T := TX6) (N := 7) hx hb hts iX6 tyX6 tyX6_ok nmX6 hown hG.1 hP hD hS 3 rfl rfl 2 (by decide) (va_Nw.use rfl (hG.2.1 _ n_223 rfl)) (fun _ h9 => h9) rfl (by decide +kernel) rfl rfl (Nat.le_of_ble_eq_true rfl) d_9_9_52 (fun H locs hP hD hS => ?_)
  have hP : va_P z.1 classes [(a0, .inr (7, [.int 0, .ref a1, .ref a2, .ref a3, .ref a4, .ref a5, .int 0, .ref a6, .ref a7, .ref a8, .int 1])), (a8, .inl (z.2 3, 21, .inr (.inr (.inr (.inr (va_up (va_up (va_up (va_up (va_up (va_up (va_up (va_up (va_up (va_up (va_up (va_up (va_up (va_up (va_up (va_up (va_up (va_up (va_up (va_up (va_up (fun _ => none) 0 (some a9)) 1 (some a10)) 2 (some a11)) 3 (some a12)) 4 (some a13)) 5 (some a14)) 6 (some a15)) 7 (some a16)) 8 (some a17)) 9 (some a18)) 10 (some a19)) 11 (some a20)) 12 (some a21)) 13 (some a22)) 14 (some a23)) 15 (some a24)) 16 (some a25)) 17 (some a26)) 18 (some a27)) 19 (some a28)) 20 (some a29))))))), (a4, .inr (4, [.int 0, .int 0, .ref a30, .ref a31, .ref a32, .ref a33, .ref a34, .ref a35])), (a10, .inr (6, [.int 0, .int 0, .int 0, .ref a36, .ref a37, .ref a38, .ref a39])), (a35, .inl (z.2 0, 61, .inl (fun _ => 0))), (a36, .inl (z.2 0, 60, .inl (fun _ => 0))), (a6, .inl (z.2 0, 8, .inl (fun _ => 0))), (a37, .inl (z.2 0, 8, .inl (fun _ => 0))), (a1, .inl (z.2 0, 8, .inl (fun _ => 0))), (a38, .inl (z.2 0, 8, .inl (fun _ => 0))), (a2, .inl (z.2 0, 8, .inl (fun _ => 0))), (a39, .inl (z.2 0, 8, .inl (fun _ => 0)))] H := hP
  have hD : va_D A [(a0, .inr (7, [.int 0, .ref a1, .ref a2, .ref a3, .ref a4, .ref a5, .int 0, .ref a6, .ref a7, .ref a8, .int 1])), (a8, .inl (z.2 3, 21, .inr (.inr (.inr (.inr (va_up (va_up (va_up (va_up (va_up (va_up (va_up (va_up (va_up (va_up (va_up (va_up (va_up (va_up (va_up (va_up (va_up (va_up (va_up (va_up (va_up (fun _ => none) 0 (some a9)) 1 (some a10)) 2 (some a11)) 3 (some a12)) 4 (some a13)) 5 (some a14)) 6 (some a15)) 7 (some a16)) 8 (some a17)) 9 (some a18)) 10 (some a19)) 11 (some a20)) 12 (some a21)) 13 (some a22)) 14 (some a23)) 15 (some a24)) 16 (some a25)) 17 (some a26)) 18 (some a27)) 19 (some a28)) 20 (some a29))))))), (a4, .inr (4, [.int 0, .int 0, .ref a30, .ref a31, .ref a32, .ref a33, .ref a34, .ref a35])), (a10, .inr (6, [.int 0, .int 0, .int 0, .ref a36, .ref a37, .ref a38, .ref a39])), (a35, .inl (z.2 0, 61, .inl (fun _ => 0))), (a36, .inl (z.2 0, 60, .inl (fun _ => 0))), (a6, .inl (z.2 0, 8, .inl (fun _ => 0))), (a37, .inl (z.2 0, 8, .inl (fun _ => 0))), (a1, .inl (z.2 0, 8, .inl (fun _ => 0))), (a38, .inl (z.2 0, 8, .inl (fun _ => 0))), (a2, .inl (z.2 0, 8, .inl (fun _ => 0))), (a39, .inl (z.2 0, 8, .inl (fun _ => 0)))] := hD
  refine lv_aload_n hx hb d_9_9_55 rfl (lv_at hl 1 rfl) ?_
  refine va_get (D := z.1) (ci := 7) (v := .ref a4) (C := "Ballothall$Lists") (T := TX7) (N := 11) hx hb hts iX7 hown hG.1 hP 0 rfl rfl 4 (by decide) (hts _ w_257) (fun _ h9 => h9) rfl d_9_9_56 ?_
  refine va_getN (D := z.1) (ci := 4) (v := .ref a35) (C := "Ballothall$Division") (T := TX4) (N := 8) hx hb hts iX4 hown hG.1 hP 2 rfl rfl 7 (by decide) (va_Nw.use rfl (hG.2.1 _ n_194 rfl)) (fun _ h9 => h9) rfl d_9_9_59 ?_
  refine lv_iconst (v := 0) hx hb d_9_9_62 (by decide +kernel) ?_
  refine lv_aload_n hx hb d_9_9_63 rfl (lv_at hl 0 rfl) ?_
  refine va_getN (D := z.1) (ci := 6) (v := .ref a36) (C := "Ballothall$KeptSeats") (T := TX6) (N := 7) hx hb hts iX6 hown hG.1 hP 3 rfl rfl 3 (by decide) (va_Nw.use rfl (hG.2.1 _ n_225 rfl)) (fun _ h9 => h9) rfl d_9_9_64 ?_
  refine lv_iconst (v := 0) hx hb d_9_9_67 (by decide +kernel) ?_
  refine lv_aload_n hx hb d_9_9_68 rfl (lv_at hl 0 rfl) ?_
  refine va_getN (D := z.1) (ci := 6) (v := .int 0) (C := "Ballothall$KeptSeats") (T := TX6) (N := 7) hx hb hts iX6 hown hG.1 hP 3 rfl rfl 0 (by decide) (va_Nw.use rfl (hG.2.1 _ n_219 rfl)) (fun _ h9 => h9) rfl d_9_9_69 ?_
  refine va_copyi hx hb (by rw [hml]; exact hl.1.symm) hown (hts _ w_1064) (hts _ w_698) (hts _ w_697) (hts _ w_19) hG.1 hP hD hS 4 5 0 0 rfl rfl rfl rfl rfl (by decide +kernel) (by decide +kernel) (by decide +kernel) (by decide +kernel) (by decide +kernel) (fun _ _ => rfl) (Nat.le_of_ble_eq_true rfl) (Nat.le_of_ble_eq_true rfl) d_9_9_72 (fun H locs hP hD hS => ?_)
  rw [cpy_z] at hP hD
  have hP : va_P z.1 classes [(a0, .inr (7, [.int 0, .ref a1, .ref a2, .ref a3, .ref a4, .ref a5, .int 0, .ref a6, .ref a7, .ref a8, .int 1])), (a8, .inl (z.2 3, 21, .inr (.inr (.inr (.inr (va_up (va_up (va_up (va_up (va_up (va_up (va_up (va_up (va_up (va_up (va_up (va_up (va_up (va_up (va_up (va_up (va_up (va_up (va_up (va_up (va_up (fun _ => none) 0 (some a9)) 1 (some a10)) 2 (some a11)) 3 (some a12)) 4 (some a13)) 5 (some a14)) 6 (some a15)) 7 (some a16)) 8 (some a17)) 9 (some a18)) 10 (some a19)) 11 (some a20)) 12 (some a21)) 13 (some a22)) 14 (some a23)) 15 (some a24)) 16 (some a25)) 17 (some a26)) 18 (some a27)) 19 (some a28)) 20 (some a29))))))), (a4, .inr (4, [.int 0, .int 0, .ref a30, .ref a31, .ref a32, .ref a33, .ref a34, .ref a35])), (a10, .inr (6, [.int 0, .int 0, .int 0, .ref a36, .ref a37, .ref a38, .ref a39])), (a35, .inl (z.2 0, 61, .inl (fun _ => 0))), (a36, .inl (z.2 0, 60, .inl (fun _ => 0))), (a6, .inl (z.2 0, 8, .inl (fun _ => 0))), (a37, .inl (z.2 0, 8, .inl (fun _ => 0))), (a1, .inl (z.2 0, 8, .inl (fun _ => 0))), (a38, .inl (z.2 0, 8, .inl (fun _ => 0))), (a2, .inl (z.2 0, 8, .inl (fun _ => 0))), (a39, .inl (z.2 0, 8, .inl (fun _ => 0)))] H := hP
  have hD : va_D A [(a0, .inr (7, [.int 0, .ref a1, .ref a2, .ref a3, .ref a4, .ref a5, .int 0, .ref a6, .ref a7, .ref a8, .int 1])), (a8, .inl (z.2 3, 21, .inr (.inr (.inr (.inr (va_up (va_up (va_up (va_up (va_up (va_up (va_up (va_up (va_up (va_up (va_up (va_up (va_up (va_up (va_up (va_up (va_up (va_up (va_up (va_up (va_up (fun _ => none) 0 (some a9)) 1 (some a10)) 2 (some a11)) 3 (some a12)) 4 (some a13)) 5 (some a14)) 6 (some a15)) 7 (some a16)) 8 (some a17)) 9 (some a18)) 10 (some a19)) 11 (some a20)) 12 (some a21)) 13 (some a22)) 14 (some a23)) 15 (some a24)) 16 (some a25)) 17 (some a26)) 18 (some a27)) 19 (some a28)) 20 (some a29))))))), (a4, .inr (4, [.int 0, .int 0, .ref a30, .ref a31, .ref a32, .ref a33, .ref a34, .ref a35])), (a10, .inr (6, [.int 0, .int 0, .int 0, .ref a36, .ref a37, .ref a38, .ref a39])), (a35, .inl (z.2 0, 61, .inl (fun _ => 0))), (a36, .inl (z.2 0, 60, .inl (fun _ => 0))), (a6, .inl (z.2 0, 8, .inl (fun _ => 0))), (a37, .inl (z.2 0, 8, .inl (fun _ => 0))), (a1, .inl (z.2 0, 8, .inl (fun _ => 0))), (a38, .inl (z.2 0, 8, .inl (fun _ => 0))), (a2, .inl (z.2 0, 8, .inl (fun _ => 0))), (a39, .inl (z.2 0, 8, .inl (fun _ => 0)))] := hD
  refine W.eq (g2 := F0 m 75 ls []) rfl ?_
  refine lv_aload_n hx hb d_9_9_75 rfl (lv_at hl 1 rfl) ?_
  refine va_get (D := z.1) (ci := 7) (v := .ref a6) (C := "Ballothall$Lists") (T := TX7) (N := 11) hx hb hts iX7 hown hG.1 hP 0 rfl rfl 7 (by decide) (hts _ w_260) (fun _ h9 => h9) rfl d_9_9_76 ?_
  refine lv_iconst (v := 0) hx hb d_9_9_79 (by decide +kernel) ?_
  refine lv_aload_n hx hb d_9_9_80 rfl (lv_at hl 0 rfl) ?_
  refine va_getN (D := z.1) (ci := 6) (v := .ref a37) (C := "Ballothall$KeptSeats") (T := TX6) (N := 7) hx hb hts iX6 hown hG.1 hP 3 rfl rfl 4 (by decide) (va_Nw.use rfl (hG.2.1 _ n_228 rfl)) (fun _ h9 => h9) rfl d_9_9_81 ?_
  refine lv_iconst (v := 0) hx hb d_9_9_84 (by decide +kernel) ?_
  refine lv_bipush (v := 8) hx hb d_9_9_85 (by decide +kernel) ?_
  refine va_copyi hx hb (by rw [hml]; exact hl.1.symm) hown (hts _ w_1064) (hts _ w_698) (hts _ w_697) (hts _ w_19) hG.1 hP hD hS 6 7 0 0 rfl rfl rfl rfl rfl (by decide +kernel) (by decide +kernel) (by decide +kernel) (by decide +kernel) (by decide +kernel) (fun _ _ => rfl) (Nat.le_of_ble_eq_true rfl) (Nat.le_of_ble_eq_true rfl) d_9_9_87 (fun H locs hP hD hS => ?_)
  rw [cpy_z] at hP hD
  have hP : va_P z.1 classes [(a0, .inr (7, [.int 0, .ref a1, .ref a2, .ref a3, .ref a4, .ref a5, .int 0, .ref a6, .ref a7, .ref a8, .int 1])), (a8, .inl (z.2 3, 21, .inr (.inr (.inr (.inr (va_up (va_up (va_up (va_up (va_up (va_up (va_up (va_up (va_up (va_up (va_up (va_up (va_up (va_up (va_up (va_up (va_up (va_up (va_up (va_up (va_up (fun _ => none) 0 (some a9)) 1 (some a10)) 2 (some a11)) 3 (some a12)) 4 (some a13)) 5 (some a14)) 6 (some a15)) 7 (some a16)) 8 (some a17)) 9 (some a18)) 10 (some a19)) 11 (some a20)) 12 (some a21)) 13 (some a22)) 14 (some a23)) 15 (some a24)) 16 (some a25)) 17 (some a26)) 18 (some a27)) 19 (some a28)) 20 (some a29))))))), (a4, .inr (4, [.int 0, .int 0, .ref a30, .ref a31, .ref a32, .ref a33, .ref a34, .ref a35])), (a10, .inr (6, [.int 0, .int 0, .int 0, .ref a36, .ref a37, .ref a38, .ref a39])), (a35, .inl (z.2 0, 61, .inl (fun _ => 0))), (a36, .inl (z.2 0, 60, .inl (fun _ => 0))), (a6, .inl (z.2 0, 8, .inl (fun _ => 0))), (a37, .inl (z.2 0, 8, .inl (fun _ => 0))), (a1, .inl (z.2 0, 8, .inl (fun _ => 0))), (a38, .inl (z.2 0, 8, .inl (fun _ => 0))), (a2, .inl (z.2 0, 8, .inl (fun _ => 0))), (a39, .inl (z.2 0, 8, .inl (fun _ => 0)))] H := hP
  have hD : va_D A [(a0, .inr (7, [.int 0, .ref a1, .ref a2, .ref a3, .ref a4, .ref a5, .int 0, .ref a6, .ref a7, .ref a8, .int 1])), (a8, .inl (z.2 3, 21, .inr (.inr (.inr (.inr (va_up (va_up (va_up (va_up (va_up (va_up (va_up (va_up (va_up (va_up (va_up (va_up (va_up (va_up (va_up (va_up (va_up (va_up (va_up (va_up (va_up (fun _ => none) 0 (some a9)) 1 (some a10)) 2 (some a11)) 3 (some a12)) 4 (some a13)) 5 (some a14)) 6 (some a15)) 7 (some a16)) 8 (some a17)) 9 (some a18)) 10 (some a19)) 11 (some a20)) 12 (some a21)) 13 (some a22)) 14 (some a23)) 15 (some a24)) 16 (some a25)) 17 (some a26)) 18 (some a27)) 19 (some a28)) 20 (some a29))))))), (a4, .inr (4, [.int 0, .int 0, .ref a30, .ref a31, .ref a32, .ref a33, .ref a34, .ref a35])), (a10, .inr (6, [.int 0, .int 0, .int 0, .ref a36, .ref a37, .ref a38, .ref a39])), (a35, .inl (z.2 0, 61, .inl (fun _ => 0))), (a36, .inl (z.2 0, 60, .inl (fun _ => 0))), (a6, .inl (z.2 0, 8, .inl (fun _ => 0))), (a37, .inl (z.2 0, 8, .inl (fun _ => 0))), (a1, .inl (z.2 0, 8, .inl (fun _ => 0))), (a38, .inl (z.2 0, 8, .inl (fun _ => 0))), (a2, .inl (z.2 0, 8, .inl (fun _ => 0))), (a39, .inl (z.2 0, 8, .inl (fun _ => 0)))] := hD
  refine W.eq (g2 := F0 m 90 ls []) rfl ?_
  refine lv_aload_n hx hb d_9_9_90 rfl (lv_at hl 1 rfl) ?_
  refine va_get (D := z.1) (ci := 7) (v := .ref a1) (C := "Ballothall$Lists") (T := TX7) (N := 11) hx hb hts iX7 hown hG.1 hP 0 rfl rfl 1 (by decide) (hts _ w_251) (fun _ h9 => h9) rfl d_9_9_91 ?_
  refine lv_iconst (v := 0) hx hb d_9_9_94 (by decide +kernel) ?_
  refine lv_aload_n hx hb d_9_9_95 rfl (lv_at hl 0 rfl) ?_
  refine va_getN (D := z.1) (ci := 6) (v := .ref a38) (C := "Ballothall$KeptSeats") (T := TX6) (N := 7) hx hb hts iX6 hown hG.1 hP 3 rfl rfl 5 (by decide) (va_Nw.use rfl (hG.2.1 _ n_231 rfl)) (fun _ h9 => h9) rfl d_9_9_96 ?_
  refine lv_iconst (v := 0) hx hb d_9_9_99 (by decide +kernel) ?_
  refine lv_bipush (v := 8) hx hb d_9_9_100 (by decide +kernel) ?_
  refine va_copyi hx hb (by rw [hml]; exact hl.1.symm) hown (hts _ w_1064) (hts _ w_698) (hts _ w_697) (hts _ w_19) hG.1 hP hD hS 8 9 0 0 rfl rfl rfl rfl rfl (by decide +kernel) (by decide +kernel) (by decide +kernel) (by decide +kernel) (by decide +kernel) (fun _ _ => rfl) (Nat.le_of_ble_eq_true rfl) (Nat.le_of_ble_eq_true rfl) d_9_9_102 (fun H locs hP hD hS => ?_)
  rw [cpy_z] at hP hD
  have hP : va_P z.1 classes [(a0, .inr (7, [.int 0, .ref a1, .ref a2, .ref a3, .ref a4, .ref a5, .int 0, .ref a6, .ref a7, .ref a8, .int 1])), (a8, .inl (z.2 3, 21, .inr (.inr (.inr (.inr (va_up (va_up (va_up (va_up (va_up (va_up (va_up (va_up (va_up (va_up (va_up (va_up (va_up (va_up (va_up (va_up (va_up (va_up (va_up (va_up (va_up (fun _ => none) 0 (some a9)) 1 (some a10)) 2 (some a11)) 3 (some a12)) 4 (some a13)) 5 (some a14)) 6 (some a15)) 7 (some a16)) 8 (some a17)) 9 (some a18)) 10 (some a19)) 11 (some a20)) 12 (some a21)) 13 (some a22)) 14 (some a23)) 15 (some a24)) 16 (some a25)) 17 (some a26)) 18 (some a27)) 19 (some a28)) 20 (some a29))))))), (a4, .inr (4, [.int 0, .int 0, .ref a30, .ref a31, .ref a32, .ref a33, .ref a34, .ref a35])), (a10, .inr (6, [.int 0, .int 0, .int 0, .ref a36, .ref a37, .ref a38, .ref a39])), (a35, .inl (z.2 0, 61, .inl (fun _ => 0))), (a36, .inl (z.2 0, 60, .inl (fun _ => 0))), (a6, .inl (z.2 0, 8, .inl (fun _ => 0))), (a37, .inl (z.2 0, 8, .inl (fun _ => 0))), (a1, .inl (z.2 0, 8, .inl (fun _ => 0))), (a38, .inl (z.2 0, 8, .inl (fun _ => 0))), (a2, .inl (z.2 0, 8, .inl (fun _ => 0))), (a39, .inl (z.2 0, 8, .inl (fun _ => 0)))] H := hP
  have hD : va_D A [(a0, .inr (7, [.int 0, .ref a1, .ref a2, .ref a3, .ref a4, .ref a5, .int 0, .ref a6, .ref a7, .ref a8, .int 1])), (a8, .inl (z.2 3, 21, .inr (.inr (.inr (.inr (va_up (va_up (va_up (va_up (va_up (va_up (va_up (va_up (va_up (va_up (va_up (va_up (va_up (va_up (va_up (va_up (va_up (va_up (va_up (va_up (va_up (fun _ => none) 0 (some a9)) 1 (some a10)) 2 (some a11)) 3 (some a12)) 4 (some a13)) 5 (some a14)) 6 (some a15)) 7 (some a16)) 8 (some a17)) 9 (some a18)) 10 (some a19)) 11 (some a20)) 12 (some a21)) 13 (some a22)) 14 (some a23)) 15 (some a24)) 16 (some a25)) 17 (some a26)) 18 (some a27)) 19 (some a28)) 20 (some a29))))))), (a4, .inr (4, [.int 0, .int 0, .ref a30, .ref a31, .ref a32, .ref a33, .ref a34, .ref a35])), (a10, .inr (6, [.int 0, .int 0, .int 0, .ref a36, .ref a37, .ref a38, .ref a39])), (a35, .inl (z.2 0, 61, .inl (fun _ => 0))), (a36, .inl (z.2 0, 60, .inl (fun _ => 0))), (a6, .inl (z.2 0, 8, .inl (fun _ => 0))), (a37, .inl (z.2 0, 8, .inl (fun _ => 0))), (a1, .inl (z.2 0, 8, .inl (fun _ => 0))), (a38, .inl (z.2 0, 8, .inl (fun _ => 0))), (a2, .inl (z.2 0, 8, .inl (fun _ => 0))), (a39, .inl (z.2 0, 8, .inl (fun _ => 0)))] := hD
  refine W.eq (g2 := F0 m 105 ls []) rfl ?_
  refine lv_aload_n hx hb d_9_9_105 rfl (lv_at hl 1 rfl) ?_
  refine va_get (D := z.1) (ci := 7) (v := .ref a2) (C := "Ballothall$Lists") (T := TX7) (N := 11) hx hb hts iX7 hown hG.1 hP 0 rfl rfl 2 (by decide) (hts _ w_253) (fun _ h9 => h9) rfl d_9_9_106 ?_
  refine lv_iconst (v := 0) hx hb d_9_9_109 (by decide +kernel) ?_
  refine lv_aload_n hx hb d_9_9_110 rfl (lv_at hl 0 rfl) ?_
  refine va_getN (D := z.1) (ci := 6) (v := .ref a39) (C := "Ballothall$KeptSeats") (T := TX6) (N := 7) hx hb hts iX6 hown hG.1 hP 3 rfl rfl 6 (by decide) (va_Nw.use rfl (hG.2.1 _ n_233 rfl)) (fun _ h9 => h9) rfl d_9_9_111 ?_
  refine lv_iconst (v := 0) hx hb d_9_9_114 (by decide +kernel) ?_
  refine lv_bipush (v := 8) hx hb d_9_9_115 (by decide +kernel) ?_
  refine va_copyi hx hb (by rw [hml]; exact hl.1.symm) hown (hts _ w_1064) (hts _ w_698) (hts _ w_697) (hts _ w_19) hG.1 hP hD hS 10 11 0 0 rfl rfl rfl rfl rfl (by decide +kernel) (by decide +kernel) (by decide +kernel) (by decide +kernel) (by decide +kernel) (fun _ _ => rfl) (Nat.le_of_ble_eq_true rfl) (Nat.le_of_ble_eq_true rfl) d_9_9_117 (fun H locs hP hD hS => ?_)
  rw [cpy_z] at hP hD
  have hP : va_P z.1 classes [(a0, .inr (7, [.int 0, .ref a1, .ref a2, .ref a3, .ref a4, .ref a5, .int 0, .ref a6, .ref a7, .ref a8, .int 1])), (a8, .inl (z.2 3, 21, .inr (.inr (.inr (.inr (va_up (va_up (va_up (va_up (va_up (va_up (va_up (va_up (va_up (va_up (va_up (va_up (va_up (va_up (va_up (va_up (va_up (va_up (va_up (va_up (va_up (fun _ => none) 0 (some a9)) 1 (some a10)) 2 (some a11)) 3 (some a12)) 4 (some a13)) 5 (some a14)) 6 (some a15)) 7 (some a16)) 8 (some a17)) 9 (some a18)) 10 (some a19)) 11 (some a20)) 12 (some a21)) 13 (some a22)) 14 (some a23)) 15 (some a24)) 16 (some a25)) 17 (some a26)) 18 (some a27)) 19 (some a28)) 20 (some a29))))))), (a4, .inr (4, [.int 0, .int 0, .ref a30, .ref a31, .ref a32, .ref a33, .ref a34, .ref a35])), (a10, .inr (6, [.int 0, .int 0, .int 0, .ref a36, .ref a37, .ref a38, .ref a39])), (a35, .inl (z.2 0, 61, .inl (fun _ => 0))), (a36, .inl (z.2 0, 60, .inl (fun _ => 0))), (a6, .inl (z.2 0, 8, .inl (fun _ => 0))), (a37, .inl (z.2 0, 8, .inl (fun _ => 0))), (a1, .inl (z.2 0, 8, .inl (fun _ => 0))), (a38, .inl (z.2 0, 8, .inl (fun _ => 0))), (a2, .inl (z.2 0, 8, .inl (fun _ => 0))), (a39, .inl (z.2 0, 8, .inl (fun _ => 0)))] H := hP
  have hD : va_D A [(a0, .inr (7, [.int 0, .ref a1, .ref a2, .ref a3, .ref a4, .ref a5, .int 0, .ref a6, .ref a7, .ref a8, .int 1])), (a8, .inl (z.2 3, 21, .inr (.inr (.inr (.inr (va_up (va_up (va_up (va_up (va_up (va_up (va_up (va_up (va_up (va_up (va_up (va_up (va_up (va_up (va_up (va_up (va_up (va_up (va_up (va_up (va_up (fun _ => none) 0 (some a9)) 1 (some a10)) 2 (some a11)) 3 (some a12)) 4 (some a13)) 5 (some a14)) 6 (some a15)) 7 (some a16)) 8 (some a17)) 9 (some a18)) 10 (some a19)) 11 (some a20)) 12 (some a21)) 13 (some a22)) 14 (some a23)) 15 (some a24)) 16 (some a25)) 17 (some a26)) 18 (some a27)) 19 (some a28)) 20 (some a29))))))), (a4, .inr (4, [.int 0, .int 0, .ref a30, .ref a31, .ref a32, .ref a33, .ref a34, .ref a35])), (a10, .inr (6, [.int 0, .int 0, .int 0, .ref a36, .ref a37, .ref a38, .ref a39])), (a35, .inl (z.2 0, 61, .inl (fun _ => 0))), (a36, .inl (z.2 0, 60, .inl (fun _ => 0))), (a6, .inl (z.2 0, 8, .inl (fun _ => 0))), (a37, .inl (z.2 0, 8, .inl (fun _ => 0))), (a1, .inl (z.2 0, 8, .inl (fun _ => 0))), (a38, .inl (z.2 0, 8, .inl (fun _ => 0))), (a2, .inl (z.2 0, 8, .inl (fun _ => 0))), (a39, .inl (z.2 0, 8, .inl (fun _ => 0)))] := hD
  refine W.eq (g2 := F0 m 120 ls []) rfl ?_
  refine W.widen (k := 0) (n := 0) (Nat.le_of_ble_eq_true rfl) (Nat.le_of_ble_eq_true rfl) ?_
  exact W.vret hx hb hr (fun t ht hW => qk hP hD hS [0, 1, 2, 3, 4, 5, 6, 7, 8, 9, 10, 11] rfl ((fun k => k), (fun _ _ => none)) rfl rfl rfl ht) hS.2.2 d_9_9_120
set_option maxRecDepth 100000 in
set_option maxHeartbeats 4000000 in
theorem c179_B_remember (l : Launch) (z : Zz) (a0 a1 a2 a3 a4 a5 a6 a7 a8 a9 a10 a11 : Nat) : CT l z ⟨"Ballothall", "remember", "(III)V"⟩ prog_1_method_61_code 4 none [.ref a0, .int 8, .int 0, .int 0] [(a0, .inr (11, [.ref a1, .ref a2, .ref a3, .ref a4, .ref a5, .ref a6, .ref a7, .ref a8, .ref a9, .ref a10, .int 0, .int 0, .ref a11, .int 0])), (a8, .inl (z.2 0, 20, .inl (fun _ => 0))), (a9, .inl (z.2 0, 20, .inl (fun _ => 0))), (a10, .inl (z.2 0, 20, .inl (fun _ => 0)))] 1 29 0 0 (fun u => none) (fun u => [(a0, .inr (11, [.ref a1, .ref a2, .ref a3, .ref a4, .ref a5, .ref a6, .ref a7, .ref a8, .ref a9, .ref a10, .int 1, .int 1, .ref a11, .int 0])), (a8, .inl (z.2 0, 20, .inl (upd (fun _ => 0) 1 8))), (a9, .inl (z.2 0, 20, .inl (fun _ => 0))), (a10, .inl (z.2 0, 20, .inl (fun _ => 0)))]) := by
  refine CT.of (own := "Ballothall") (by decide +kernel) (Nat.le_of_ble_eq_true rfl) rfl (fun p e s m below meth c A ls hx hb hml hr hts hown hlocks hin hA hG hZ hP hD hS hl => ?_)
  have hl : lv_has ls 4 [(0, .ref a0), (1, .int 8), (2, .int 0), (3, .int 0)] := hl
  refine lv_aload_n hx hb d_1_61_0 rfl (lv_at hl 0 rfl) ?_
  refine lv_aload_n hx hb d_1_61_1 rfl (lv_at hl 0 rfl) ?_
  refine va_get (D := z.1) (ci := 11) (v := .int 0) (C := "Ballothall") (T := TX11) (N := 14) hx hb hts iX11 hown hG.1 hP 0 rfl rfl 10 (by decide) (hts _ w_416) (fun _ h9 => h9) rfl d_1_61_2 ?_
  refine lv_iconst (v := 1) hx hb d_1_61_5 (by decide +kernel) ?_
  refine lv_iadd hx hb d_1_61_6 ?_
  refine nrm (x1 := 1) (by decide +kernel) ?_
  refine lv_bipush (v := 20) hx hb d_1_61_7 (by decide +kernel) ?_
  refine lv_irem hx hb d_1_61_9 (by decide +kernel) ?_
  refine nrm (x1 := 1) (by decide +kernel) ?_
  refine va_put (D := z.1) (ci := 11) (v := .int 1) (ty := .int) (C := "Ballothall") (T := TX11) (N := 14) hx hb hts iX11 tyX11 tyX11_ok nmX11 hown hG.1 hP hD hS 0 rfl rfl 10 (by decide) (hts _ w_416) (fun _ h9 => h9) rfl (by decide +kernel) rfl rfl (Nat.le_of_ble_eq_true rfl) d_1_61_10 (fun H locs hP hD hS => ?_)
  have hP : va_P z.1 classes [(a0, .inr (11, [.ref a1, .ref a2, .ref a3, .ref a4, .ref a5, .ref a6, .ref a7, .ref a8, .ref a9, .ref a10, .int 1, .int 0, .ref a11, .int 0])), (a8, .inl (z.2 0, 20, .inl (fun _ => 0))), (a9, .inl (z.2 0, 20, .inl (fun _ => 0))), (a10, .inl (z.2 0, 20, .inl (fun _ => 0)))] H := hP
  have hD : va_D A [(a0, .inr (11, [.ref a1, .ref a2, .ref a3, .ref a4, .ref a5, .ref a6, .ref a7, .ref a8, .ref a9, .ref a10, .int 1, .int 0, .ref a11, .int 0])), (a8, .inl (z.2 0, 20, .inl (fun _ => 0))), (a9, .inl (z.2 0, 20, .inl (fun _ => 0))), (a10, .inl (z.2 0, 20, .inl (fun _ => 0)))] := hD
  refine lv_aload_n hx hb d_1_61_13 rfl (lv_at hl 0 rfl) ?_
  refine va_get (D := z.1) (ci := 11) (v := .ref a8) (C := "Ballothall") (T := TX11) (N := 14) hx hb hts iX11 hown hG.1 hP 0 rfl rfl 7 (by decide) (hts _ w_413) (fun _ h9 => h9) rfl d_1_61_14 ?_
  refine lv_aload_n hx hb d_1_61_17 rfl (lv_at hl 0 rfl) ?_
  refine va_get (D := z.1) (ci := 11) (v := .int 1) (C := "Ballothall") (T := TX11) (N := 14) hx hb hts iX11 hown hG.1 hP 0 rfl rfl 10 (by decide) (hts _ w_416) (fun _ h9 => h9) rfl d_1_61_18 ?_
  refine lv_iload_n hx hb d_1_61_21 rfl (lv_at hl 1 rfl) ?_
  refine va_iast hx hb hG.1 hP hD hS 1 0 rfl rfl (vin rfl) d_1_61_22 (fun H locs hP hD hS => ?_)
  have hP : va_P z.1 classes [(a0, .inr (11, [.ref a1, .ref a2, .ref a3, .ref a4, .ref a5, .ref a6, .ref a7, .ref a8, .ref a9, .ref a10, .int 1, .int 0, .ref a11, .int 0])), (a8, .inl (z.2 0, 20, .inl (upd (fun _ => 0) 1 8))), (a9, .inl (z.2 0, 20, .inl (fun _ => 0))), (a10, .inl (z.2 0, 20, .inl (fun _ => 0)))] H := hP
  have hD : va_D A [(a0, .inr (11, [.ref a1, .ref a2, .ref a3, .ref a4, .ref a5, .ref a6, .ref a7, .ref a8, .ref a9, .ref a10, .int 1, .int 0, .ref a11, .int 0])), (a8, .inl (z.2 0, 20, .inl (upd (fun _ => 0) 1 8))), (a9, .inl (z.2 0, 20, .inl (fun _ => 0))), (a10, .inl (z.2 0, 20, .inl (fun _ => 0)))] := hD
  refine lv_aload_n hx hb d_1_61_23 rfl (lv_at hl 0 rfl) ?_
  refine va_get (D := z.1) (ci := 11) (v := .ref a9) (C := "Ballothall") (T := TX11) (N := 14) hx hb hts iX11 hown hG.1 hP 0 rfl rfl 8 (by decide) (hts _ w_414) (fun _ h9 => h9) rfl d_1_61_24 ?_
  refine lv_aload_n hx hb d_1_61_27 rfl (lv_at hl 0 rfl) ?_
  refine va_get (D := z.1) (ci := 11) (v := .int 1) (C := "Ballothall") (T := TX11) (N := 14) hx hb hts iX11 hown hG.1 hP 0 rfl rfl 10 (by decide) (hts _ w_416) (fun _ h9 => h9) rfl d_1_61_28 ?_
  refine lv_iload_n hx hb d_1_61_31 rfl (lv_at hl 2 rfl) ?_
  refine va_iast hx hb hG.1 hP hD hS 2 0 rfl rfl (vin rfl) d_1_61_32 (fun H locs hP hD hS => ?_)
  rw [upd_z] at hP hD
  have hP : va_P z.1 classes [(a0, .inr (11, [.ref a1, .ref a2, .ref a3, .ref a4, .ref a5, .ref a6, .ref a7, .ref a8, .ref a9, .ref a10, .int 1, .int 0, .ref a11, .int 0])), (a8, .inl (z.2 0, 20, .inl (upd (fun _ => 0) 1 8))), (a9, .inl (z.2 0, 20, .inl (fun _ => 0))), (a10, .inl (z.2 0, 20, .inl (fun _ => 0)))] H := hP
  have hD : va_D A [(a0, .inr (11, [.ref a1, .ref a2, .ref a3, .ref a4, .ref a5, .ref a6, .ref a7, .ref a8, .ref a9, .ref a10, .int 1, .int 0, .ref a11, .int 0])), (a8, .inl (z.2 0, 20, .inl (upd (fun _ => 0) 1 8))), (a9, .inl (z.2 0, 20, .inl (fun _ => 0))), (a10, .inl (z.2 0, 20, .inl (fun _ => 0)))] := hD
  refine lv_aload_n hx hb d_1_61_33 rfl (lv_at hl 0 rfl) ?_
  refine va_get (D := z.1) (ci := 11) (v := .ref a10) (C := "Ballothall") (T := TX11) (N := 14) hx hb hts iX11 hown hG.1 hP 0 rfl rfl 9 (by decide) (hts _ w_415) (fun _ h9 => h9) rfl d_1_61_34 ?_
  refine lv_aload_n hx hb d_1_61_37 rfl (lv_at hl 0 rfl) ?_
  refine va_get (D := z.1) (ci := 11) (v := .int 1) (C := "Ballothall") (T := TX11) (N := 14) hx hb hts iX11 hown hG.1 hP 0 rfl rfl 10 (by decide) (hts _ w_416) (fun _ h9 => h9) rfl d_1_61_38 ?_
  refine lv_iload_n hx hb d_1_61_41 rfl (lv_at hl 3 rfl) ?_
  refine va_iast hx hb hG.1 hP hD hS 3 0 rfl rfl (vin rfl) d_1_61_42 (fun H locs hP hD hS => ?_)
  rw [upd_z] at hP hD
  have hP : va_P z.1 classes [(a0, .inr (11, [.ref a1, .ref a2, .ref a3, .ref a4, .ref a5, .ref a6, .ref a7, .ref a8, .ref a9, .ref a10, .int 1, .int 0, .ref a11, .int 0])), (a8, .inl (z.2 0, 20, .inl (upd (fun _ => 0) 1 8))), (a9, .inl (z.2 0, 20, .inl (fun _ => 0))), (a10, .inl (z.2 0, 20, .inl (fun _ => 0)))] H := hP
  have hD : va_D A [(a0, .inr (11, [.ref a1, .ref a2, .ref a3, .ref a4, .ref a5, .ref a6, .ref a7, .ref a8, .ref a9, .ref a10, .int 1, .int 0, .ref a11, .int 0])), (a8, .inl (z.2 0, 20, .inl (upd (fun _ => 0) 1 8))), (a9, .inl (z.2 0, 20, .inl (fun _ => 0))), (a10, .inl (z.2 0, 20, .inl (fun _ => 0)))] := hD
  refine lv_aload_n hx hb d_1_61_43 rfl (lv_at hl 0 rfl) ?_
  refine lv_aload_n hx hb d_1_61_44 rfl (lv_at hl 0 rfl) ?_
  refine va_get (D := z.1) (ci := 11) (v := .int 0) (C := "Ballothall") (T := TX11) (N := 14) hx hb hts iX11 hown hG.1 hP 0 rfl rfl 11 (by decide) (hts _ w_417) (fun _ h9 => h9) rfl d_1_61_45 ?_
  refine lv_iconst (v := 1) hx hb d_1_61_48 (by decide +kernel) ?_
  refine lv_iadd hx hb d_1_61_49 ?_
  refine nrm (x1 := 1) (by decide +kernel) ?_
  refine lv_bipush (v := 20) hx hb d_1_61_50 (by decide +kernel) ?_
  refine va_mmin hx hb (by rw [hml]; exact hl.1.symm) hown (hts _ w_845) (hts _ w_550) (hts _ w_18) (hts _ w_min) (Nat.le_of_ble_eq_true rfl) (Nat.le_of_ble_eq_true rfl) (Nat.le_of_ble_eq_true rfl) (Nat.le_of_ble_eq_true rfl) d_1_61_52 ?_
  refine nrm (x1 := 1) (by decide +kernel) ?_
  refine va_put (D := z.1) (ci := 11) (v := .int 1) (ty := .int) (C := "Ballothall") (T := TX11) (N := 14) hx hb hts iX11 tyX11 tyX11_ok nmX11 hown hG.1 hP hD hS 0 rfl rfl 11 (by decide) (hts _ w_417) (fun _ h9 => h9) rfl (by decide +kernel) rfl rfl (Nat.le_of_ble_eq_true rfl) d_1_61_55 (fun H locs hP hD hS => ?_)
  have hP : va_P z.1 classes [(a0, .inr (11, [.ref a1, .ref a2, .ref a3, .ref a4, .ref a5, .ref a6, .ref a7, .ref a8, .ref a9, .ref a10, .int 1, .int 1, .ref a11, .int 0])), (a8, .inl (z.2 0, 20, .inl (upd (fun _ => 0) 1 8))), (a9, .inl (z.2 0, 20, .inl (fun _ => 0))), (a10, .inl (z.2 0, 20, .inl (fun _ => 0)))] H := hP
  have hD : va_D A [(a0, .inr (11, [.ref a1, .ref a2, .ref a3, .ref a4, .ref a5, .ref a6, .ref a7, .ref a8, .ref a9, .ref a10, .int 1, .int 1, .ref a11, .int 0])), (a8, .inl (z.2 0, 20, .inl (upd (fun _ => 0) 1 8))), (a9, .inl (z.2 0, 20, .inl (fun _ => 0))), (a10, .inl (z.2 0, 20, .inl (fun _ => 0)))] := hD
  refine W.widen (k := 0) (n := 0) (Nat.le_of_ble_eq_true rfl) (Nat.le_of_ble_eq_true rfl) ?_
  exact W.vret hx hb hr (fun t ht hW => qk hP hD hS [0, 1, 2, 3] rfl ((fun k => k), (fun _ _ => none)) rfl rfl rfl ht) hS.2.2 d_1_61_58
set_option maxRecDepth 100000 in
set_option maxHeartbeats 4000000 in
theorem c180_B_seats (l : Launch) (z : Zz) (a0 a1 a2 a3 a4 a5 a6 a7 a8 a9 a10 a11 a12 a13 a14 a15 a16 a17 a18 a19 a20 a21 a22 a23 a24 a25 a26 a27 a28 a29 a30 a31 a32 a33 a34 a35 a36 a37 a38 a39 a40 a41 a42 a43 a44 a45 a46 a47 a48 a49 a50 : Nat) (x0 : Int32) (x1 : Int32) (x2 : Int32) (h0 : ¬ x0 < 0) (h1 : ¬ 5 < x0) (h2 : ¬ x1 < 1) (h3 : ¬ 60 < x1) (h4 : ¬ x2 < 0) (h5 : ¬ 20 < x2) : CT l z ⟨"Ballothall", "seats", "(III)I"⟩ prog_1_method_13_code 5 (some .int) [.ref a0, .int x0, .int x1, .int x2] [(a0, .inr (11, [.ref a1, .ref a2, .ref a3, .ref a4, .ref a5, .ref a6, .ref a7, .ref a8, .ref a9, .ref a10, .int 0, .int 0, .ref a11, .int 0])), (a4, .inr (7, [.int 0, .ref a12, .ref a13, .ref a14, .ref a15, .ref a16, .int 0, .ref a17, .ref a18, .ref a19, .int 0])), (a15, .inr (4, [.int 0, .int 0, .ref a20, .ref a21, .ref a22, .ref a23, .ref a24, .ref a25])), (a17, .inl (z.2 0, 8, .inl (fun _ => 0))), (a19, .inl (z.2 3, 21, .inr (.inr (.inr (.inr (va_up (va_up (va_up (va_up (va_up (va_up (va_up (va_up (va_up (va_up (va_up (va_up (va_up (va_up (va_up (va_up (va_up (va_up (va_up (va_up (va_up (fun _ => none) 0 (some a26)) 1 (some a27)) 2 (some a28)) 3 (some a29)) 4 (some a30)) 5 (some a31)) 6 (some a32)) 7 (some a33)) 8 (some a34)) 9 (some a35)) 10 (some a36)) 11 (some a37)) 12 (some a38)) 13 (some a39)) 14 (some a40)) 15 (some a41)) 16 (some a42)) 17 (some a43)) 18 (some a44)) 19 (some a45)) 20 (some a46))))))), (a27, .inr (6, [.int 0, .int 0, .int 0, .ref a47, .ref a48, .ref a49, .ref a50])), (a25, .inl (z.2 0, 61, .inl (fun _ => 0))), (a47, .inl (z.2 0, 60, .inl (fun _ => 0))), (a48, .inl (z.2 0, 8, .inl (fun _ => 0))), (a12, .inl (z.2 0, 8, .inl (fun _ => 0))), (a49, .inl (z.2 0, 8, .inl (fun _ => 0))), (a13, .inl (z.2 0, 8, .inl (fun _ => 0))), (a50, .inl (z.2 0, 8, .inl (fun _ => 0))), (a8, .inl (z.2 0, 20, .inl (fun _ => 0))), (a9, .inl (z.2 0, 20, .inl (fun _ => 0))), (a10, .inl (z.2 0, 20, .inl (fun _ => 0)))] 3 89 0 0 (fun u => some (.int 0)) (fun u => [(a0, .inr (11, [.ref a1, .ref a2, .ref a3, .ref a4, .ref a5, .ref a6, .ref a7, .ref a8, .ref a9, .ref a10, .int 1, .int 1, .ref a11, .int 0])), (a4, .inr (7, [.int 0, .ref a12, .ref a13, .ref a14, .ref a15, .ref a16, .int 0, .ref a17, .ref a18, .ref a19, .int 1])), (a15, .inr (4, [.int 0, .int 0, .ref a20, .ref a21, .ref a22, .ref a23, .ref a24, .ref a25])), (a17, .inl (z.2 0, 8, .inl (fun _ => 0))), (a19, .inl (z.2 3, 21, .inr (.inr (.inr (.inr (va_up (va_up (va_up (va_up (va_up (va_up (va_up (va_up (va_up (va_up (va_up (va_up (va_up (va_up (va_up (va_up (va_up (va_up (va_up (va_up (va_up (fun _ => none) 0 (some a26)) 1 (some a27)) 2 (some a28)) 3 (some a29)) 4 (some a30)) 5 (some a31)) 6 (some a32)) 7 (some a33)) 8 (some a34)) 9 (some a35)) 10 (some a36)) 11 (some a37)) 12 (some a38)) 13 (some a39)) 14 (some a40)) 15 (some a41)) 16 (some a42)) 17 (some a43)) 18 (some a44)) 19 (some a45)) 20 (some a46))))))), (a27, .inr (6, [.int 0, .int 0, .int 0, .ref a47, .ref a48, .ref a49, .ref a50])), (a25, .inl (z.2 0, 61, .inl (fun _ => 0))), (a47, .inl (z.2 0, 60, .inl (fun _ => 0))), (a48, .inl (z.2 0, 8, .inl (fun _ => 0))), (a12, .inl (z.2 0, 8, .inl (fun _ => 0))), (a49, .inl (z.2 0, 8, .inl (fun _ => 0))), (a13, .inl (z.2 0, 8, .inl (fun _ => 0))), (a50, .inl (z.2 0, 8, .inl (fun _ => 0))), (a8, .inl (z.2 0, 20, .inl (upd (fun _ => 0) 1 8))), (a9, .inl (z.2 0, 20, .inl (fun _ => 0))), (a10, .inl (z.2 0, 20, .inl (fun _ => 0)))]) := by
  refine CT.of (own := "Ballothall") (by decide +kernel) (Nat.le_of_ble_eq_true rfl) rfl (fun p e s m below meth c A ls hx hb hml hr hts hown hlocks hin hA hG hZ hP hD hS hl => ?_)
  have hl : lv_has ls 5 [(0, .ref a0), (1, .int x0), (2, .int x1), (3, .int x2)] := hl
  refine lv_iload_n hx hb d_1_13_0 rfl (lv_at hl 1 rfl) ?_
  refine lv_iconst (v := 0) hx hb d_1_13_1 (by decide +kernel) ?_
  refine lv_iconst (v := 5) hx hb d_1_13_2 (by decide +kernel) ?_
  refine kS (As := [.int x0, .int 0, .int 5]) (rest := []) (wr := [(a0, .inr (11, [.ref a1, .ref a2, .ref a3, .ref a4, .ref a5, .ref a6, .ref a7, .ref a8, .ref a9, .ref a10, .int 0, .int 0, .ref a11, .int 0])), (a4, .inr (7, [.int 0, .ref a12, .ref a13, .ref a14, .ref a15, .ref a16, .int 0, .ref a17, .ref a18, .ref a19, .int 0])), (a15, .inr (4, [.int 0, .int 0, .ref a20, .ref a21, .ref a22, .ref a23, .ref a24, .ref a25])), (a17, .inl (z.2 0, 8, .inl (fun _ => 0))), (a19, .inl (z.2 3, 21, .inr (.inr (.inr (.inr (va_up (va_up (va_up (va_up (va_up (va_up (va_up (va_up (va_up (va_up (va_up (va_up (va_up (va_up (va_up (va_up (va_up (va_up (va_up (va_up (va_up (fun _ => none) 0 (some a26)) 1 (some a27)) 2 (some a28)) 3 (some a29)) 4 (some a30)) 5 (some a31)) 6 (some a32)) 7 (some a33)) 8 (some a34)) 9 (some a35)) 10 (some a36)) 11 (some a37)) 12 (some a38)) 13 (some a39)) 14 (some a40)) 15 (some a41)) 16 (some a42)) 17 (some a43)) 18 (some a44)) 19 (some a45)) 20 (some a46))))))), (a27, .inr (6, [.int 0, .int 0, .int 0, .ref a47, .ref a48, .ref a49, .ref a50])), (a25, .inl (z.2 0, 61, .inl (fun _ => 0))), (a47, .inl (z.2 0, 60, .inl (fun _ => 0))), (a48, .inl (z.2 0, 8, .inl (fun _ => 0))), (a12, .inl (z.2 0, 8, .inl (fun _ => 0))), (a49, .inl (z.2 0, 8, .inl (fun _ => 0))), (a13, .inl (z.2 0, 8, .inl (fun _ => 0))), (a50, .inl (z.2 0, 8, .inl (fun _ => 0))), (a8, .inl (z.2 0, 20, .inl (fun _ => 0))), (a9, .inl (z.2 0, 20, .inl (fun _ => 0))), (a10, .inl (z.2 0, 20, .inl (fun _ => 0)))]) (c150_B_needRange l z x0 h0 h1) hx hb hml hown hts w_876 w_874 w_875 w_1 md_519134 ⟨Nat.le_of_ble_eq_true rfl, Nat.le_of_ble_eq_true rfl⟩ hG hZ hP hD hS hA [] [0, 1, 2, 3, 4, 5, 6, 7, 8, 9, 10, 11, 12, 13, 14, 15] rfl rfl rfl rfl rfl hl.1 rfl (Nat.le_of_ble_eq_true rfl) d_1_13_3 ⟨Nat.le_of_ble_eq_true rfl, Nat.le_of_ble_eq_true rfl⟩ (fun u0 H locs hP hD hS => ?_)
  have hP : va_P z.1 classes [(a0, .inr (11, [.ref a1, .ref a2, .ref a3, .ref a4, .ref a5, .ref a6, .ref a7, .ref a8, .ref a9, .ref a10, .int 0, .int 0, .ref a11, .int 0])), (a4, .inr (7, [.int 0, .ref a12, .ref a13, .ref a14, .ref a15, .ref a16, .int 0, .ref a17, .ref a18, .ref a19, .int 0])), (a15, .inr (4, [.int 0, .int 0, .ref a20, .ref a21, .ref a22, .ref a23, .ref a24, .ref a25])), (a17, .inl (z.2 0, 8, .inl (fun _ => 0))), (a19, .inl (z.2 3, 21, .inr (.inr (.inr (.inr (va_up (va_up (va_up (va_up (va_up (va_up (va_up (va_up (va_up (va_up (va_up (va_up (va_up (va_up (va_up (va_up (va_up (va_up (va_up (va_up (va_up (fun _ => none) 0 (some a26)) 1 (some a27)) 2 (some a28)) 3 (some a29)) 4 (some a30)) 5 (some a31)) 6 (some a32)) 7 (some a33)) 8 (some a34)) 9 (some a35)) 10 (some a36)) 11 (some a37)) 12 (some a38)) 13 (some a39)) 14 (some a40)) 15 (some a41)) 16 (some a42)) 17 (some a43)) 18 (some a44)) 19 (some a45)) 20 (some a46))))))), (a27, .inr (6, [.int 0, .int 0, .int 0, .ref a47, .ref a48, .ref a49, .ref a50])), (a25, .inl (z.2 0, 61, .inl (fun _ => 0))), (a47, .inl (z.2 0, 60, .inl (fun _ => 0))), (a48, .inl (z.2 0, 8, .inl (fun _ => 0))), (a12, .inl (z.2 0, 8, .inl (fun _ => 0))), (a49, .inl (z.2 0, 8, .inl (fun _ => 0))), (a13, .inl (z.2 0, 8, .inl (fun _ => 0))), (a50, .inl (z.2 0, 8, .inl (fun _ => 0))), (a8, .inl (z.2 0, 20, .inl (fun _ => 0))), (a9, .inl (z.2 0, 20, .inl (fun _ => 0))), (a10, .inl (z.2 0, 20, .inl (fun _ => 0)))] H := hP
  have hD : va_D A [(a0, .inr (11, [.ref a1, .ref a2, .ref a3, .ref a4, .ref a5, .ref a6, .ref a7, .ref a8, .ref a9, .ref a10, .int 0, .int 0, .ref a11, .int 0])), (a4, .inr (7, [.int 0, .ref a12, .ref a13, .ref a14, .ref a15, .ref a16, .int 0, .ref a17, .ref a18, .ref a19, .int 0])), (a15, .inr (4, [.int 0, .int 0, .ref a20, .ref a21, .ref a22, .ref a23, .ref a24, .ref a25])), (a17, .inl (z.2 0, 8, .inl (fun _ => 0))), (a19, .inl (z.2 3, 21, .inr (.inr (.inr (.inr (va_up (va_up (va_up (va_up (va_up (va_up (va_up (va_up (va_up (va_up (va_up (va_up (va_up (va_up (va_up (va_up (va_up (va_up (va_up (va_up (va_up (fun _ => none) 0 (some a26)) 1 (some a27)) 2 (some a28)) 3 (some a29)) 4 (some a30)) 5 (some a31)) 6 (some a32)) 7 (some a33)) 8 (some a34)) 9 (some a35)) 10 (some a36)) 11 (some a37)) 12 (some a38)) 13 (some a39)) 14 (some a40)) 15 (some a41)) 16 (some a42)) 17 (some a43)) 18 (some a44)) 19 (some a45)) 20 (some a46))))))), (a27, .inr (6, [.int 0, .int 0, .int 0, .ref a47, .ref a48, .ref a49, .ref a50])), (a25, .inl (z.2 0, 61, .inl (fun _ => 0))), (a47, .inl (z.2 0, 60, .inl (fun _ => 0))), (a48, .inl (z.2 0, 8, .inl (fun _ => 0))), (a12, .inl (z.2 0, 8, .inl (fun _ => 0))), (a49, .inl (z.2 0, 8, .inl (fun _ => 0))), (a13, .inl (z.2 0, 8, .inl (fun _ => 0))), (a50, .inl (z.2 0, 8, .inl (fun _ => 0))), (a8, .inl (z.2 0, 20, .inl (fun _ => 0))), (a9, .inl (z.2 0, 20, .inl (fun _ => 0))), (a10, .inl (z.2 0, 20, .inl (fun _ => 0)))] := hD
  refine W.eq (g2 := F0 m 6 ls []) rfl ?_
  refine lv_iload_n hx hb d_1_13_6 rfl (lv_at hl 2 rfl) ?_
  refine lv_iconst (v := 1) hx hb d_1_13_7 (by decide +kernel) ?_
  refine lv_bipush (v := 60) hx hb d_1_13_8 (by decide +kernel) ?_
  refine kS (As := [.int x1, .int 1, .int 60]) (rest := []) (wr := [(a0, .inr (11, [.ref a1, .ref a2, .ref a3, .ref a4, .ref a5, .ref a6, .ref a7, .ref a8, .ref a9, .ref a10, .int 0, .int 0, .ref a11, .int 0])), (a4, .inr (7, [.int 0, .ref a12, .ref a13, .ref a14, .ref a15, .ref a16, .int 0, .ref a17, .ref a18, .ref a19, .int 0])), (a15, .inr (4, [.int 0, .int 0, .ref a20, .ref a21, .ref a22, .ref a23, .ref a24, .ref a25])), (a17, .inl (z.2 0, 8, .inl (fun _ => 0))), (a19, .inl (z.2 3, 21, .inr (.inr (.inr (.inr (va_up (va_up (va_up (va_up (va_up (va_up (va_up (va_up (va_up (va_up (va_up (va_up (va_up (va_up (va_up (va_up (va_up (va_up (va_up (va_up (va_up (fun _ => none) 0 (some a26)) 1 (some a27)) 2 (some a28)) 3 (some a29)) 4 (some a30)) 5 (some a31)) 6 (some a32)) 7 (some a33)) 8 (some a34)) 9 (some a35)) 10 (some a36)) 11 (some a37)) 12 (some a38)) 13 (some a39)) 14 (some a40)) 15 (some a41)) 16 (some a42)) 17 (some a43)) 18 (some a44)) 19 (some a45)) 20 (some a46))))))), (a27, .inr (6, [.int 0, .int 0, .int 0, .ref a47, .ref a48, .ref a49, .ref a50])), (a25, .inl (z.2 0, 61, .inl (fun _ => 0))), (a47, .inl (z.2 0, 60, .inl (fun _ => 0))), (a48, .inl (z.2 0, 8, .inl (fun _ => 0))), (a12, .inl (z.2 0, 8, .inl (fun _ => 0))), (a49, .inl (z.2 0, 8, .inl (fun _ => 0))), (a13, .inl (z.2 0, 8, .inl (fun _ => 0))), (a50, .inl (z.2 0, 8, .inl (fun _ => 0))), (a8, .inl (z.2 0, 20, .inl (fun _ => 0))), (a9, .inl (z.2 0, 20, .inl (fun _ => 0))), (a10, .inl (z.2 0, 20, .inl (fun _ => 0)))]) (c162_B_needRange l z x1 h2 h3) hx hb hml hown hts w_876 w_874 w_875 w_1 md_519134 ⟨Nat.le_of_ble_eq_true rfl, Nat.le_of_ble_eq_true rfl⟩ hG hZ hP hD hS hA [] [0, 1, 2, 3, 4, 5, 6, 7, 8, 9, 10, 11, 12, 13, 14, 15] rfl rfl rfl rfl rfl hl.1 rfl (Nat.le_of_ble_eq_true rfl) d_1_13_10 ⟨Nat.le_of_ble_eq_true rfl, Nat.le_of_ble_eq_true rfl⟩ (fun u1 H locs hP hD hS => ?_)
  have hP : va_P z.1 classes [(a0, .inr (11, [.ref a1, .ref a2, .ref a3, .ref a4, .ref a5, .ref a6, .ref a7, .ref a8, .ref a9, .ref a10, .int 0, .int 0, .ref a11, .int 0])), (a4, .inr (7, [.int 0, .ref a12, .ref a13, .ref a14, .ref a15, .ref a16, .int 0, .ref a17, .ref a18, .ref a19, .int 0])), (a15, .inr (4, [.int 0, .int 0, .ref a20, .ref a21, .ref a22, .ref a23, .ref a24, .ref a25])), (a17, .inl (z.2 0, 8, .inl (fun _ => 0))), (a19, .inl (z.2 3, 21, .inr (.inr (.inr (.inr (va_up (va_up (va_up (va_up (va_up (va_up (va_up (va_up (va_up (va_up (va_up (va_up (va_up (va_up (va_up (va_up (va_up (va_up (va_up (va_up (va_up (fun _ => none) 0 (some a26)) 1 (some a27)) 2 (some a28)) 3 (some a29)) 4 (some a30)) 5 (some a31)) 6 (some a32)) 7 (some a33)) 8 (some a34)) 9 (some a35)) 10 (some a36)) 11 (some a37)) 12 (some a38)) 13 (some a39)) 14 (some a40)) 15 (some a41)) 16 (some a42)) 17 (some a43)) 18 (some a44)) 19 (some a45)) 20 (some a46))))))), (a27, .inr (6, [.int 0, .int 0, .int 0, .ref a47, .ref a48, .ref a49, .ref a50])), (a25, .inl (z.2 0, 61, .inl (fun _ => 0))), (a47, .inl (z.2 0, 60, .inl (fun _ => 0))), (a48, .inl (z.2 0, 8, .inl (fun _ => 0))), (a12, .inl (z.2 0, 8, .inl (fun _ => 0))), (a49, .inl (z.2 0, 8, .inl (fun _ => 0))), (a13, .inl (z.2 0, 8, .inl (fun _ => 0))), (a50, .inl (z.2 0, 8, .inl (fun _ => 0))), (a8, .inl (z.2 0, 20, .inl (fun _ => 0))), (a9, .inl (z.2 0, 20, .inl (fun _ => 0))), (a10, .inl (z.2 0, 20, .inl (fun _ => 0)))] H := hP
  have hD : va_D A [(a0, .inr (11, [.ref a1, .ref a2, .ref a3, .ref a4, .ref a5, .ref a6, .ref a7, .ref a8, .ref a9, .ref a10, .int 0, .int 0, .ref a11, .int 0])), (a4, .inr (7, [.int 0, .ref a12, .ref a13, .ref a14, .ref a15, .ref a16, .int 0, .ref a17, .ref a18, .ref a19, .int 0])), (a15, .inr (4, [.int 0, .int 0, .ref a20, .ref a21, .ref a22, .ref a23, .ref a24, .ref a25])), (a17, .inl (z.2 0, 8, .inl (fun _ => 0))), (a19, .inl (z.2 3, 21, .inr (.inr (.inr (.inr (va_up (va_up (va_up (va_up (va_up (va_up (va_up (va_up (va_up (va_up (va_up (va_up (va_up (va_up (va_up (va_up (va_up (va_up (va_up (va_up (va_up (fun _ => none) 0 (some a26)) 1 (some a27)) 2 (some a28)) 3 (some a29)) 4 (some a30)) 5 (some a31)) 6 (some a32)) 7 (some a33)) 8 (some a34)) 9 (some a35)) 10 (some a36)) 11 (some a37)) 12 (some a38)) 13 (some a39)) 14 (some a40)) 15 (some a41)) 16 (some a42)) 17 (some a43)) 18 (some a44)) 19 (some a45)) 20 (some a46))))))), (a27, .inr (6, [.int 0, .int 0, .int 0, .ref a47, .ref a48, .ref a49, .ref a50])), (a25, .inl (z.2 0, 61, .inl (fun _ => 0))), (a47, .inl (z.2 0, 60, .inl (fun _ => 0))), (a48, .inl (z.2 0, 8, .inl (fun _ => 0))), (a12, .inl (z.2 0, 8, .inl (fun _ => 0))), (a49, .inl (z.2 0, 8, .inl (fun _ => 0))), (a13, .inl (z.2 0, 8, .inl (fun _ => 0))), (a50, .inl (z.2 0, 8, .inl (fun _ => 0))), (a8, .inl (z.2 0, 20, .inl (fun _ => 0))), (a9, .inl (z.2 0, 20, .inl (fun _ => 0))), (a10, .inl (z.2 0, 20, .inl (fun _ => 0)))] := hD
  refine W.eq (g2 := F0 m 13 ls []) rfl ?_
  refine lv_iload_n hx hb d_1_13_13 rfl (lv_at hl 3 rfl) ?_
  refine lv_iconst (v := 0) hx hb d_1_13_14 (by decide +kernel) ?_
  refine lv_bipush (v := 20) hx hb d_1_13_15 (by decide +kernel) ?_
  refine kS (As := [.int x2, .int 0, .int 20]) (rest := []) (wr := [(a0, .inr (11, [.ref a1, .ref a2, .ref a3, .ref a4, .ref a5, .ref a6, .ref a7, .ref a8, .ref a9, .ref a10, .int 0, .int 0, .ref a11, .int 0])), (a4, .inr (7, [.int 0, .ref a12, .ref a13, .ref a14, .ref a15, .ref a16, .int 0, .ref a17, .ref a18, .ref a19, .int 0])), (a15, .inr (4, [.int 0, .int 0, .ref a20, .ref a21, .ref a22, .ref a23, .ref a24, .ref a25])), (a17, .inl (z.2 0, 8, .inl (fun _ => 0))), (a19, .inl (z.2 3, 21, .inr (.inr (.inr (.inr (va_up (va_up (va_up (va_up (va_up (va_up (va_up (va_up (va_up (va_up (va_up (va_up (va_up (va_up (va_up (va_up (va_up (va_up (va_up (va_up (va_up (fun _ => none) 0 (some a26)) 1 (some a27)) 2 (some a28)) 3 (some a29)) 4 (some a30)) 5 (some a31)) 6 (some a32)) 7 (some a33)) 8 (some a34)) 9 (some a35)) 10 (some a36)) 11 (some a37)) 12 (some a38)) 13 (some a39)) 14 (some a40)) 15 (some a41)) 16 (some a42)) 17 (some a43)) 18 (some a44)) 19 (some a45)) 20 (some a46))))))), (a27, .inr (6, [.int 0, .int 0, .int 0, .ref a47, .ref a48, .ref a49, .ref a50])), (a25, .inl (z.2 0, 61, .inl (fun _ => 0))), (a47, .inl (z.2 0, 60, .inl (fun _ => 0))), (a48, .inl (z.2 0, 8, .inl (fun _ => 0))), (a12, .inl (z.2 0, 8, .inl (fun _ => 0))), (a49, .inl (z.2 0, 8, .inl (fun _ => 0))), (a13, .inl (z.2 0, 8, .inl (fun _ => 0))), (a50, .inl (z.2 0, 8, .inl (fun _ => 0))), (a8, .inl (z.2 0, 20, .inl (fun _ => 0))), (a9, .inl (z.2 0, 20, .inl (fun _ => 0))), (a10, .inl (z.2 0, 20, .inl (fun _ => 0)))]) (c174_B_needRange l z x2 h4 h5) hx hb hml hown hts w_876 w_874 w_875 w_1 md_519134 ⟨Nat.le_of_ble_eq_true rfl, Nat.le_of_ble_eq_true rfl⟩ hG hZ hP hD hS hA [] [0, 1, 2, 3, 4, 5, 6, 7, 8, 9, 10, 11, 12, 13, 14, 15] rfl rfl rfl rfl rfl hl.1 rfl (Nat.le_of_ble_eq_true rfl) d_1_13_17 ⟨Nat.le_of_ble_eq_true rfl, Nat.le_of_ble_eq_true rfl⟩ (fun u2 H locs hP hD hS => ?_)
  have hP : va_P z.1 classes [(a0, .inr (11, [.ref a1, .ref a2, .ref a3, .ref a4, .ref a5, .ref a6, .ref a7, .ref a8, .ref a9, .ref a10, .int 0, .int 0, .ref a11, .int 0])), (a4, .inr (7, [.int 0, .ref a12, .ref a13, .ref a14, .ref a15, .ref a16, .int 0, .ref a17, .ref a18, .ref a19, .int 0])), (a15, .inr (4, [.int 0, .int 0, .ref a20, .ref a21, .ref a22, .ref a23, .ref a24, .ref a25])), (a17, .inl (z.2 0, 8, .inl (fun _ => 0))), (a19, .inl (z.2 3, 21, .inr (.inr (.inr (.inr (va_up (va_up (va_up (va_up (va_up (va_up (va_up (va_up (va_up (va_up (va_up (va_up (va_up (va_up (va_up (va_up (va_up (va_up (va_up (va_up (va_up (fun _ => none) 0 (some a26)) 1 (some a27)) 2 (some a28)) 3 (some a29)) 4 (some a30)) 5 (some a31)) 6 (some a32)) 7 (some a33)) 8 (some a34)) 9 (some a35)) 10 (some a36)) 11 (some a37)) 12 (some a38)) 13 (some a39)) 14 (some a40)) 15 (some a41)) 16 (some a42)) 17 (some a43)) 18 (some a44)) 19 (some a45)) 20 (some a46))))))), (a27, .inr (6, [.int 0, .int 0, .int 0, .ref a47, .ref a48, .ref a49, .ref a50])), (a25, .inl (z.2 0, 61, .inl (fun _ => 0))), (a47, .inl (z.2 0, 60, .inl (fun _ => 0))), (a48, .inl (z.2 0, 8, .inl (fun _ => 0))), (a12, .inl (z.2 0, 8, .inl (fun _ => 0))), (a49, .inl (z.2 0, 8, .inl (fun _ => 0))), (a13, .inl (z.2 0, 8, .inl (fun _ => 0))), (a50, .inl (z.2 0, 8, .inl (fun _ => 0))), (a8, .inl (z.2 0, 20, .inl (fun _ => 0))), (a9, .inl (z.2 0, 20, .inl (fun _ => 0))), (a10, .inl (z.2 0, 20, .inl (fun _ => 0)))] H := hP
  have hD : va_D A [(a0, .inr (11, [.ref a1, .ref a2, .ref a3, .ref a4, .ref a5, .ref a6, .ref a7, .ref a8, .ref a9, .ref a10, .int 0, .int 0, .ref a11, .int 0])), (a4, .inr (7, [.int 0, .ref a12, .ref a13, .ref a14, .ref a15, .ref a16, .int 0, .ref a17, .ref a18, .ref a19, .int 0])), (a15, .inr (4, [.int 0, .int 0, .ref a20, .ref a21, .ref a22, .ref a23, .ref a24, .ref a25])), (a17, .inl (z.2 0, 8, .inl (fun _ => 0))), (a19, .inl (z.2 3, 21, .inr (.inr (.inr (.inr (va_up (va_up (va_up (va_up (va_up (va_up (va_up (va_up (va_up (va_up (va_up (va_up (va_up (va_up (va_up (va_up (va_up (va_up (va_up (va_up (va_up (fun _ => none) 0 (some a26)) 1 (some a27)) 2 (some a28)) 3 (some a29)) 4 (some a30)) 5 (some a31)) 6 (some a32)) 7 (some a33)) 8 (some a34)) 9 (some a35)) 10 (some a36)) 11 (some a37)) 12 (some a38)) 13 (some a39)) 14 (some a40)) 15 (some a41)) 16 (some a42)) 17 (some a43)) 18 (some a44)) 19 (some a45)) 20 (some a46))))))), (a27, .inr (6, [.int 0, .int 0, .int 0, .ref a47, .ref a48, .ref a49, .ref a50])), (a25, .inl (z.2 0, 61, .inl (fun _ => 0))), (a47, .inl (z.2 0, 60, .inl (fun _ => 0))), (a48, .inl (z.2 0, 8, .inl (fun _ => 0))), (a12, .inl (z.2 0, 8, .inl (fun _ => 0))), (a49, .inl (z.2 0, 8, .inl (fun _ => 0))), (a13, .inl (z.2 0, 8, .inl (fun _ => 0))), (a50, .inl (z.2 0, 8, .inl (fun _ => 0))), (a8, .inl (z.2 0, 20, .inl (fun _ => 0))), (a9, .inl (z.2 0, 20, .inl (fun _ => 0))), (a10, .inl (z.2 0, 20, .inl (fun _ => 0)))] := hD
  refine W.eq (g2 := F0 m 20 ls []) rfl ?_
  refine lv_aload_n hx hb d_1_13_20 rfl (lv_at hl 0 rfl) ?_
  refine va_get (D := z.1) (ci := 11) (v := .ref a4) (C := "Ballothall") (T := TX11) (N := 14) hx hb hts iX11 hown hG.1 hP 0 rfl rfl 3 (by decide) (hts _ w_409) (fun _ h9 => h9) rfl d_1_13_21 ?_
  refine lv_iload_n hx hb d_1_13_24 rfl (lv_at hl 1 rfl) ?_
  refine lv_iload_n hx hb d_1_13_25 rfl (lv_at hl 2 rfl) ?_
  refine lv_iload_n hx hb d_1_13_26 rfl (lv_at hl 3 rfl) ?_
  refine kVN (As := [.int x0, .int x1, .int x2]) (rest := []) (wr := [(a0, .inr (11, [.ref a1, .ref a2, .ref a3, .ref a4, .ref a5, .ref a6, .ref a7, .ref a8, .ref a9, .ref a10, .int 0, .int 0, .ref a11, .int 0])), (a19, .inl (z.2 3, 21, .inr (.inr (.inr (.inr (va_up (va_up (va_up (va_up (va_up (va_up (va_up (va_up (va_up (va_up (va_up (va_up (va_up (va_up (va_up (va_up (va_up (va_up (va_up (va_up (va_up (fun _ => none) 0 (some a26)) 1 (some a27)) 2 (some a28)) 3 (some a29)) 4 (some a30)) 5 (some a31)) 6 (some a32)) 7 (some a33)) 8 (some a34)) 9 (some a35)) 10 (some a36)) 11 (some a37)) 12 (some a38)) 13 (some a39)) 14 (some a40)) 15 (some a41)) 16 (some a42)) 17 (some a43)) 18 (some a44)) 19 (some a45)) 20 (some a46))))))), (a27, .inr (6, [.int 0, .int 0, .int 0, .ref a47, .ref a48, .ref a49, .ref a50])), (a25, .inl (z.2 0, 61, .inl (fun _ => 0))), (a47, .inl (z.2 0, 60, .inl (fun _ => 0))), (a48, .inl (z.2 0, 8, .inl (fun _ => 0))), (a12, .inl (z.2 0, 8, .inl (fun _ => 0))), (a49, .inl (z.2 0, 8, .inl (fun _ => 0))), (a13, .inl (z.2 0, 8, .inl (fun _ => 0))), (a50, .inl (z.2 0, 8, .inl (fun _ => 0))), (a8, .inl (z.2 0, 20, .inl (fun _ => 0))), (a9, .inl (z.2 0, 20, .inl (fun _ => 0))), (a10, .inl (z.2 0, 20, .inl (fun _ => 0)))]) (c177_Lists_spread l z a4 a12 a13 a14 a15 a16 a17 a18 a19 a20 a21 a22 a23 a24 a25 x0 x1 x2) hx hb hml hown hts w_1002 n_999 w_1001 w_s_de34cc w_5 md_9eb116 ⟨Nat.le_of_ble_eq_true rfl, Nat.le_of_ble_eq_true rfl⟩ hG hZ hP hD hS hA 1 rfl rfl rfl [1, 2, 3] [0, 4, 5, 6, 7, 8, 9, 10, 11, 12, 13, 14, 15] rfl rfl rfl rfl rfl hl.1 rfl (Nat.le_of_ble_eq_true rfl) d_1_13_27 ⟨Nat.le_of_ble_eq_true rfl, Nat.le_of_ble_eq_true rfl⟩ (fun u3 H locs hP hD hS => ?_)
  have hP : va_P z.1 classes [(a0, .inr (11, [.ref a1, .ref a2, .ref a3, .ref a4, .ref a5, .ref a6, .ref a7, .ref a8, .ref a9, .ref a10, .int 0, .int 0, .ref a11, .int 0])), (a19, .inl (z.2 3, 21, .inr (.inr (.inr (.inr (va_up (va_up (va_up (va_up (va_up (va_up (va_up (va_up (va_up (va_up (va_up (va_up (va_up (va_up (va_up (va_up (va_up (va_up (va_up (va_up (va_up (fun _ => none) 0 (some a26)) 1 (some a27)) 2 (some a28)) 3 (some a29)) 4 (some a30)) 5 (some a31)) 6 (some a32)) 7 (some a33)) 8 (some a34)) 9 (some a35)) 10 (some a36)) 11 (some a37)) 12 (some a38)) 13 (some a39)) 14 (some a40)) 15 (some a41)) 16 (some a42)) 17 (some a43)) 18 (some a44)) 19 (some a45)) 20 (some a46))))))), (a27, .inr (6, [.int 0, .int 0, .int 0, .ref a47, .ref a48, .ref a49, .ref a50])), (a25, .inl (z.2 0, 61, .inl (fun _ => 0))), (a47, .inl (z.2 0, 60, .inl (fun _ => 0))), (a48, .inl (z.2 0, 8, .inl (fun _ => 0))), (a12, .inl (z.2 0, 8, .inl (fun _ => 0))), (a49, .inl (z.2 0, 8, .inl (fun _ => 0))), (a13, .inl (z.2 0, 8, .inl (fun _ => 0))), (a50, .inl (z.2 0, 8, .inl (fun _ => 0))), (a8, .inl (z.2 0, 20, .inl (fun _ => 0))), (a9, .inl (z.2 0, 20, .inl (fun _ => 0))), (a10, .inl (z.2 0, 20, .inl (fun _ => 0))), (a4, .inr (7, [.int 0, .ref a12, .ref a13, .ref a14, .ref a15, .ref a16, .int 0, .ref a17, .ref a18, .ref a19, .int 0])), (a15, .inr (4, [.int 0, .int 0, .ref a20, .ref a21, .ref a22, .ref a23, .ref a24, .ref a25])), (a17, .inl (z.2 0, 8, .inl (fun _ => 0)))] H := hP
  have hD : va_D A [(a0, .inr (11, [.ref a1, .ref a2, .ref a3, .ref a4, .ref a5, .ref a6, .ref a7, .ref a8, .ref a9, .ref a10, .int 0, .int 0, .ref a11, .int 0])), (a19, .inl (z.2 3, 21, .inr (.inr (.inr (.inr (va_up (va_up (va_up (va_up (va_up (va_up (va_up (va_up (va_up (va_up (va_up (va_up (va_up (va_up (va_up (va_up (va_up (va_up (va_up (va_up (va_up (fun _ => none) 0 (some a26)) 1 (some a27)) 2 (some a28)) 3 (some a29)) 4 (some a30)) 5 (some a31)) 6 (some a32)) 7 (some a33)) 8 (some a34)) 9 (some a35)) 10 (some a36)) 11 (some a37)) 12 (some a38)) 13 (some a39)) 14 (some a40)) 15 (some a41)) 16 (some a42)) 17 (some a43)) 18 (some a44)) 19 (some a45)) 20 (some a46))))))), (a27, .inr (6, [.int 0, .int 0, .int 0, .ref a47, .ref a48, .ref a49, .ref a50])), (a25, .inl (z.2 0, 61, .inl (fun _ => 0))), (a47, .inl (z.2 0, 60, .inl (fun _ => 0))), (a48, .inl (z.2 0, 8, .inl (fun _ => 0))), (a12, .inl (z.2 0, 8, .inl (fun _ => 0))), (a49, .inl (z.2 0, 8, .inl (fun _ => 0))), (a13, .inl (z.2 0, 8, .inl (fun _ => 0))), (a50, .inl (z.2 0, 8, .inl (fun _ => 0))), (a8, .inl (z.2 0, 20, .inl (fun _ => 0))), (a9, .inl (z.2 0, 20, .inl (fun _ => 0))), (a10, .inl (z.2 0, 20, .inl (fun _ => 0))), (a4, .inr (7, [.int 0, .ref a12, .ref a13, .ref a14, .ref a15, .ref a16, .int 0, .ref a17, .ref a18, .ref a19, .int 0])), (a15, .inr (4, [.int 0, .int 0, .ref a20, .ref a21, .ref a22, .ref a23, .ref a24, .ref a25])), (a17, .inl (z.2 0, 8, .inl (fun _ => 0)))] := hD
  refine W.eq (g2 := F0 m 30 ls [.int 0]) rfl ?_
  refine lv_istore (lv' := [(4, .int 0), (0, .ref a0), (1, .int x0), (2, .int x1), (3, .int x2)]) hx hb d_1_13_30 hl (by decide) rfl (fun ls hl => ?_)
  refine lv_aload_n hx hb d_1_13_32 rfl (lv_at hl 1 rfl) ?_
  refine va_get (D := z.1) (ci := 11) (v := .ref a4) (C := "Ballothall") (T := TX11) (N := 14) hx hb hts iX11 hown hG.1 hP 0 rfl rfl 3 (by decide) (hts _ w_409) (fun _ h9 => h9) rfl d_1_13_33 ?_
  refine kVN (As := []) (rest := []) (wr := [(a0, .inr (11, [.ref a1, .ref a2, .ref a3, .ref a4, .ref a5, .ref a6, .ref a7, .ref a8, .ref a9, .ref a10, .int 0, .int 0, .ref a11, .int 0])), (a8, .inl (z.2 0, 20, .inl (fun _ => 0))), (a9, .inl (z.2 0, 20, .inl (fun _ => 0))), (a10, .inl (z.2 0, 20, .inl (fun _ => 0)))]) (c178_Lists_keepSpread l z a4 a12 a13 a14 a15 a16 a17 a18 a19 a26 a27 a28 a29 a30 a31 a32 a33 a34 a35 a36 a37 a38 a39 a40 a41 a42 a43 a44 a45 a46 a20 a21 a22 a23 a24 a25 a47 a48 a49 a50) hx hb hml hown hts w_1062 n_1059 w_1061 w_s_aea49b w_5 md_a55234 ⟨Nat.le_of_ble_eq_true rfl, Nat.le_of_ble_eq_true rfl⟩ hG hZ hP hD hS hA 13 rfl rfl rfl [13, 1, 14, 2, 3, 4, 15, 5, 6, 7, 8, 9] [0, 10, 11, 12] rfl rfl rfl rfl rfl hl.1 rfl (Nat.le_of_ble_eq_true rfl) d_1_13_36 ⟨Nat.le_of_ble_eq_true rfl, Nat.le_of_ble_eq_true rfl⟩ (fun u4 H locs hP hD hS => ?_)
  have hP : va_P z.1 classes [(a0, .inr (11, [.ref a1, .ref a2, .ref a3, .ref a4, .ref a5, .ref a6, .ref a7, .ref a8, .ref a9, .ref a10, .int 0, .int 0, .ref a11, .int 0])), (a8, .inl (z.2 0, 20, .inl (fun _ => 0))), (a9, .inl (z.2 0, 20, .inl (fun _ => 0))), (a10, .inl (z.2 0, 20, .inl (fun _ => 0))), (a4, .inr (7, [.int 0, .ref a12, .ref a13, .ref a14, .ref a15, .ref a16, .int 0, .ref a17, .ref a18, .ref a19, .int 1])), (a19, .inl (z.2 3, 21, .inr (.inr (.inr (.inr (va_up (va_up (va_up (va_up (va_up (va_up (va_up (va_up (va_up (va_up (va_up (va_up (va_up (va_up (va_up (va_up (va_up (va_up (va_up (va_up (va_up (fun _ => none) 0 (some a26)) 1 (some a27)) 2 (some a28)) 3 (some a29)) 4 (some a30)) 5 (some a31)) 6 (some a32)) 7 (some a33)) 8 (some a34)) 9 (some a35)) 10 (some a36)) 11 (some a37)) 12 (some a38)) 13 (some a39)) 14 (some a40)) 15 (some a41)) 16 (some a42)) 17 (some a43)) 18 (some a44)) 19 (some a45)) 20 (some a46))))))), (a15, .inr (4, [.int 0, .int 0, .ref a20, .ref a21, .ref a22, .ref a23, .ref a24, .ref a25])), (a27, .inr (6, [.int 0, .int 0, .int 0, .ref a47, .ref a48, .ref a49, .ref a50])), (a25, .inl (z.2 0, 61, .inl (fun _ => 0))), (a47, .inl (z.2 0, 60, .inl (fun _ => 0))), (a17, .inl (z.2 0, 8, .inl (fun _ => 0))), (a48, .inl (z.2 0, 8, .inl (fun _ => 0))), (a12, .inl (z.2 0, 8, .inl (fun _ => 0))), (a49, .inl (z.2 0, 8, .inl (fun _ => 0))), (a13, .inl (z.2 0, 8, .inl (fun _ => 0))), (a50, .inl (z.2 0, 8, .inl (fun _ => 0)))] H := hP
  have hD : va_D A [(a0, .inr (11, [.ref a1, .ref a2, .ref a3, .ref a4, .ref a5, .ref a6, .ref a7, .ref a8, .ref a9, .ref a10, .int 0, .int 0, .ref a11, .int 0])), (a8, .inl (z.2 0, 20, .inl (fun _ => 0))), (a9, .inl (z.2 0, 20, .inl (fun _ => 0))), (a10, .inl (z.2 0, 20, .inl (fun _ => 0))), (a4, .inr (7, [.int 0, .ref a12, .ref a13, .ref a14, .ref a15, .ref a16, .int 0, .ref a17, .ref a18, .ref a19, .int 1])), (a19, .inl (z.2 3, 21, .inr (.inr (.inr (.inr (va_up (va_up (va_up (va_up (va_up (va_up (va_up (va_up (va_up (va_up (va_up (va_up (va_up (va_up (va_up (va_up (va_up (va_up (va_up (va_up (va_up (fun _ => none) 0 (some a26)) 1 (some a27)) 2 (some a28)) 3 (some a29)) 4 (some a30)) 5 (some a31)) 6 (some a32)) 7 (some a33)) 8 (some a34)) 9 (some a35)) 10 (some a36)) 11 (some a37)) 12 (some a38)) 13 (some a39)) 14 (some a40)) 15 (some a41)) 16 (some a42)) 17 (some a43)) 18 (some a44)) 19 (some a45)) 20 (some a46))))))), (a15, .inr (4, [.int 0, .int 0, .ref a20, .ref a21, .ref a22, .ref a23, .ref a24, .ref a25])), (a27, .inr (6, [.int 0, .int 0, .int 0, .ref a47, .ref a48, .ref a49, .ref a50])), (a25, .inl (z.2 0, 61, .inl (fun _ => 0))), (a47, .inl (z.2 0, 60, .inl (fun _ => 0))), (a17, .inl (z.2 0, 8, .inl (fun _ => 0))), (a48, .inl (z.2 0, 8, .inl (fun _ => 0))), (a12, .inl (z.2 0, 8, .inl (fun _ => 0))), (a49, .inl (z.2 0, 8, .inl (fun _ => 0))), (a13, .inl (z.2 0, 8, .inl (fun _ => 0))), (a50, .inl (z.2 0, 8, .inl (fun _ => 0)))] := hD
  refine W.eq (g2 := F0 m 39 ls []) rfl ?_
  refine lv_aload_n hx hb d_1_13_39 rfl (lv_at hl 1 rfl) ?_
  refine lv_bipush (v := 8) hx hb d_1_13_40 (by decide +kernel) ?_
  refine lv_iconst (v := 0) hx hb d_1_13_42 (by decide +kernel) ?_
  refine lv_iconst (v := 0) hx hb d_1_13_43 (by decide +kernel) ?_
  refine kV (As := [.int 8, .int 0, .int 0]) (rest := []) (wr := [(a4, .inr (7, [.int 0, .ref a12, .ref a13, .ref a14, .ref a15, .ref a16, .int 0, .ref a17, .ref a18, .ref a19, .int 1])), (a19, .inl (z.2 3, 21, .inr (.inr (.inr (.inr (va_up (va_up (va_up (va_up (va_up (va_up (va_up (va_up (va_up (va_up (va_up (va_up (va_up (va_up (va_up (va_up (va_up (va_up (va_up (va_up (va_up (fun _ => none) 0 (some a26)) 1 (some a27)) 2 (some a28)) 3 (some a29)) 4 (some a30)) 5 (some a31)) 6 (some a32)) 7 (some a33)) 8 (some a34)) 9 (some a35)) 10 (some a36)) 11 (some a37)) 12 (some a38)) 13 (some a39)) 14 (some a40)) 15 (some a41)) 16 (some a42)) 17 (some a43)) 18 (some a44)) 19 (some a45)) 20 (some a46))))))), (a15, .inr (4, [.int 0, .int 0, .ref a20, .ref a21, .ref a22, .ref a23, .ref a24, .ref a25])), (a27, .inr (6, [.int 0, .int 0, .int 0, .ref a47, .ref a48, .ref a49, .ref a50])), (a25, .inl (z.2 0, 61, .inl (fun _ => 0))), (a47, .inl (z.2 0, 60, .inl (fun _ => 0))), (a17, .inl (z.2 0, 8, .inl (fun _ => 0))), (a48, .inl (z.2 0, 8, .inl (fun _ => 0))), (a12, .inl (z.2 0, 8, .inl (fun _ => 0))), (a49, .inl (z.2 0, 8, .inl (fun _ => 0))), (a13, .inl (z.2 0, 8, .inl (fun _ => 0))), (a50, .inl (z.2 0, 8, .inl (fun _ => 0)))]) (c179_B_remember l z a0 a1 a2 a3 a4 a5 a6 a7 a8 a9 a10 a11) hx hb hml hown hts w_844 w_841 w_843 w_s_b872b3 w_1 md_7af0bb ⟨Nat.le_of_ble_eq_true rfl, Nat.le_of_ble_eq_true rfl⟩ hG hZ hP hD hS hA 0 rfl rfl rfl [0, 1, 2, 3] [4, 5, 6, 7, 8, 9, 10, 11, 12, 13, 14, 15] rfl rfl rfl rfl rfl hl.1 rfl (Nat.le_of_ble_eq_true rfl) d_1_13_44 ⟨Nat.le_of_ble_eq_true rfl, Nat.le_of_ble_eq_true rfl⟩ (fun u5 H locs hP hD hS => ?_)
  have hP : va_P z.1 classes [(a4, .inr (7, [.int 0, .ref a12, .ref a13, .ref a14, .ref a15, .ref a16, .int 0, .ref a17, .ref a18, .ref a19, .int 1])), (a19, .inl (z.2 3, 21, .inr (.inr (.inr (.inr (va_up (va_up (va_up (va_up (va_up (va_up (va_up (va_up (va_up (va_up (va_up (va_up (va_up (va_up (va_up (va_up (va_up (va_up (va_up (va_up (va_up (fun _ => none) 0 (some a26)) 1 (some a27)) 2 (some a28)) 3 (some a29)) 4 (some a30)) 5 (some a31)) 6 (some a32)) 7 (some a33)) 8 (some a34)) 9 (some a35)) 10 (some a36)) 11 (some a37)) 12 (some a38)) 13 (some a39)) 14 (some a40)) 15 (some a41)) 16 (some a42)) 17 (some a43)) 18 (some a44)) 19 (some a45)) 20 (some a46))))))), (a15, .inr (4, [.int 0, .int 0, .ref a20, .ref a21, .ref a22, .ref a23, .ref a24, .ref a25])), (a27, .inr (6, [.int 0, .int 0, .int 0, .ref a47, .ref a48, .ref a49, .ref a50])), (a25, .inl (z.2 0, 61, .inl (fun _ => 0))), (a47, .inl (z.2 0, 60, .inl (fun _ => 0))), (a17, .inl (z.2 0, 8, .inl (fun _ => 0))), (a48, .inl (z.2 0, 8, .inl (fun _ => 0))), (a12, .inl (z.2 0, 8, .inl (fun _ => 0))), (a49, .inl (z.2 0, 8, .inl (fun _ => 0))), (a13, .inl (z.2 0, 8, .inl (fun _ => 0))), (a50, .inl (z.2 0, 8, .inl (fun _ => 0))), (a0, .inr (11, [.ref a1, .ref a2, .ref a3, .ref a4, .ref a5, .ref a6, .ref a7, .ref a8, .ref a9, .ref a10, .int 1, .int 1, .ref a11, .int 0])), (a8, .inl (z.2 0, 20, .inl (upd (fun _ => 0) 1 8))), (a9, .inl (z.2 0, 20, .inl (fun _ => 0))), (a10, .inl (z.2 0, 20, .inl (fun _ => 0)))] H := hP
  have hD : va_D A [(a4, .inr (7, [.int 0, .ref a12, .ref a13, .ref a14, .ref a15, .ref a16, .int 0, .ref a17, .ref a18, .ref a19, .int 1])), (a19, .inl (z.2 3, 21, .inr (.inr (.inr (.inr (va_up (va_up (va_up (va_up (va_up (va_up (va_up (va_up (va_up (va_up (va_up (va_up (va_up (va_up (va_up (va_up (va_up (va_up (va_up (va_up (va_up (fun _ => none) 0 (some a26)) 1 (some a27)) 2 (some a28)) 3 (some a29)) 4 (some a30)) 5 (some a31)) 6 (some a32)) 7 (some a33)) 8 (some a34)) 9 (some a35)) 10 (some a36)) 11 (some a37)) 12 (some a38)) 13 (some a39)) 14 (some a40)) 15 (some a41)) 16 (some a42)) 17 (some a43)) 18 (some a44)) 19 (some a45)) 20 (some a46))))))), (a15, .inr (4, [.int 0, .int 0, .ref a20, .ref a21, .ref a22, .ref a23, .ref a24, .ref a25])), (a27, .inr (6, [.int 0, .int 0, .int 0, .ref a47, .ref a48, .ref a49, .ref a50])), (a25, .inl (z.2 0, 61, .inl (fun _ => 0))), (a47, .inl (z.2 0, 60, .inl (fun _ => 0))), (a17, .inl (z.2 0, 8, .inl (fun _ => 0))), (a48, .inl (z.2 0, 8, .inl (fun _ => 0))), (a12, .inl (z.2 0, 8, .inl (fun _ => 0))), (a49, .inl (z.2 0, 8, .inl (fun _ => 0))), (a13, .inl (z.2 0, 8, .inl (fun _ => 0))), (a50, .inl (z.2 0, 8, .inl (fun _ => 0))), (a0, .inr (11, [.ref a1, .ref a2, .ref a3, .ref a4, .ref a5, .ref a6, .ref a7, .ref a8, .ref a9, .ref a10, .int 1, .int 1, .ref a11, .int 0])), (a8, .inl (z.2 0, 20, .inl (upd (fun _ => 0) 1 8))), (a9, .inl (z.2 0, 20, .inl (fun _ => 0))), (a10, .inl (z.2 0, 20, .inl (fun _ => 0)))] := hD
  refine W.eq (g2 := F0 m 47 ls []) rfl ?_
  refine lv_iload hx hb d_1_13_47 (lv_at hl 0 rfl) ?_
  refine W.widen (k := 0) (n := 0) (Nat.le_of_ble_eq_true rfl) (Nat.le_of_ble_eq_true rfl) ?_
  exact W.iret hx hb hr (fun t ht hW => qk hP hD hS [12, 0, 2, 6, 1, 3, 4, 5, 7, 8, 9, 10, 11, 13, 14, 15] rfl ((fun k => k), (fun _ _ => none)) rfl rfl rfl ht) hS.2.2 d_1_13_49
