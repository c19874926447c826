set_option maxRecDepth 100000 in
set_option maxHeartbeats 4000000 in
theorem c255_BModel_steps (l : Launch) (z : Zz) (a0 a1 a2 a3 a4 a5 a6 a7 a8 a9 a10 a11 a12 a13 : Nat) : CT l z ⟨"BallothallModel", "steps", "()I"⟩ prog_14_method_51_code 1 (some .int) [.ref a0] [(a0, .inr (18, [.ref a1, .ref a2, .int 0, .ref a3, .int 0, .ref a4, .int 0, .null, .int 0, .null, .long 0, .int 0, .null])), (a1, .inr (17, [.int 0, .ref a5, .ref a6, .int 0, .ref a7, .ref a8, .ref a9, .null, .null, .int 0, .ref a10, .ref a11, .ref a12, .int 0, .ref a13, .int 1]))] 0 0 0 0 (fun u => some (.int 0)) (fun u => [(a0, .inr (18, [.ref a1, .ref a2, .int 0, .ref a3, .int 0, .ref a4, .int 0, .null, .int 0, .null, .long 0, .int 0, .null])), (a1, .inr (17, [.int 0, .ref a5, .ref a6, .int 0, .ref a7, .ref a8, .ref a9, .null, .null, .int 0, .ref a10, .ref a11, .ref a12, .int 0, .ref a13, .int 1]))]) := by
  refine CT.of (own := "BallothallModel") (by decide +kernel) (Nat.le_of_ble_eq_true rfl) rfl (fun p e s m below meth c A ls hx hb hml hr hts hown hlocks hin hA hG hZ hP hD hS hl => ?_)
  have hl : lv_has ls 1 [(0, .ref a0)] := hl
  refine lv_aload_n hx hb d_14_51_0 rfl (lv_at hl 0 rfl) ?_
  refine lv_iconst (v := 0) hx hb d_14_51_1 (by decide +kernel) ?_
  refine va_put (D := z.1) (ci := 18) (v := .int 0) (ty := .int) (C := "BallothallModel") (T := TX18) (N := 13) hx hb hts iX18 tyX18 tyX18_ok nmX18 hown hG.1 hP hD hS 0 rfl rfl 6 (by decide) (hts _ w_1651) (fun _ h9 => h9) rfl (by decide +kernel) rfl rfl (Nat.le_of_ble_eq_true rfl) d_14_51_2 (fun H locs hP hD hS => ?_)
  have hP : va_P z.1 classes [(a0, .inr (18, [.ref a1, .ref a2, .int 0, .ref a3, .int 0, .ref a4, .int 0, .null, .int 0, .null, .long 0, .int 0, .null])), (a1, .inr (17, [.int 0, .ref a5, .ref a6, .int 0, .ref a7, .ref a8, .ref a9, .null, .null, .int 0, .ref a10, .ref a11, .ref a12, .int 0, .ref a13, .int 1]))] H := hP
  have hD : va_D A [(a0, .inr (18, [.ref a1, .ref a2, .int 0, .ref a3, .int 0, .ref a4, .int 0, .null, .int 0, .null, .long 0, .int 0, .null])), (a1, .inr (17, [.int 0, .ref a5, .ref a6, .int 0, .ref a7, .ref a8, .ref a9, .null, .null, .int 0, .ref a10, .ref a11, .ref a12, .int 0, .ref a13, .int 1]))] := hD
  refine lv_aload_n hx hb d_14_51_5 rfl (lv_at hl 0 rfl) ?_
  refine va_get (D := z.1) (ci := 18) (v := .ref a1) (C := "BallothallModel") (T := TX18) (N := 13) hx hb hts iX18 hown hG.1 hP 0 rfl rfl 0 (by decide) (hts _ w_1645) (fun _ h9 => h9) rfl d_14_51_6 ?_
  refine va_getN (D := z.1) (ci := 17) (v := .null) (C := "BallothallModel$State") (T := TX17) (N := 16) hx hb hts iX17 hown hG.1 hP 1 rfl rfl 8 (by decide) (va_Nw.use rfl (hG.2.1 _ n_1596 rfl)) (fun _ h9 => h9) rfl d_14_51_9 ?_
  refine lv_ifnonnullN hx hb d_14_51_12 ?_
  refine lv_iconst (v := 0) hx hb d_14_51_15 (by decide +kernel) ?_
  refine lv_goto (tgt := 34) hx hb d_14_51_16 (by decide) ?_
  refine W.widen (k := 0) (n := 0) (Nat.le_of_ble_eq_true rfl) (Nat.le_of_ble_eq_true rfl) ?_
  exact W.iret hx hb hr (fun t ht hW => qk hP hD hS [0, 1] rfl ((fun k => k), (fun _ _ => none)) rfl rfl rfl ht) hS.2.2 d_14_51_34
set_option maxRecDepth 100000 in
set_option maxHeartbeats 4000000 in
theorem c256_B_writePile (l : Launch) (z : Zz) (hl0 : l.stackTraces = false) (a0 a1 a2 a3 a4 a5 a6 a7 a8 a9 a10 a11 a12 a13 a14 a15 a16 a17 a18 a19 a20 a21 a22 a23 : Nat) (x0 : Int32) (x1 : Int32) (h0 : x1 = (-1)) : XT l z ⟨"Ballothall", "writePile", "(II)I"⟩ prog_1_method_22_code 4 (some .int) [.ref a0, .int x0, .int x1] [(a0, .inr (11, [.ref a1, .ref a2, .ref a3, .ref a4, .ref a5, .ref a6, .ref a7, .ref a8, .ref a9, .ref a10, .int 0, .int 0, .ref a11, .int 0])), (a5, .inr (3, [.ref a1, .ref a12, .int 0, .int 0, .ref a13, .ref a14, .ref a15, .ref a16, .ref a17, .ref a18, .ref a19, .ref a20, .ref a21, .ref a22, .ref a23])), (a12, .inl (z.2 4, 21, .inr (.inr (.inr (.inr (fun _ => none))))))] 6 98 1 6 "java/util/NoSuchElementException" := by
  refine XT.of (own := "Ballothall") (by decide +kernel) (Nat.le_of_ble_eq_true rfl) rfl (fun p e s m below meth c A ls hx hb hml hr hts hown hlocks hin hA hG hZ hP hD hS hl hnt => ?_)
  have hl : lv_has ls 4 [(0, .ref a0), (1, .int x0), (2, .int x1)] := hl
  refine lv_iload_n hx hb d_1_22_0 rfl (lv_at hl 2 rfl) ?_
  refine lv_iconst (v := (-1)) hx hb d_1_22_1 (by decide +kernel) ?_
  refine lv_icmp_eq (tgt := 16) hx hb d_1_22_2 (by decide) (fun _ => ?_) (fun c9 => absurd h0 c9)
  refine lv_aload_n hx hb d_1_22_16 rfl (lv_at hl 0 rfl) ?_
  refine va_get (D := z.1) (ci := 11) (v := .ref a5) (C := "Ballothall") (T := TX11) (N := 14) hx hb hts iX11 hown hG.1 hP 0 rfl rfl 4 (by decide) (hts _ w_410) (fun _ h9 => h9) rfl d_1_22_17 ?_
  refine kVN (As := []) (rest := []) (wr := [(a0, .inr (11, [.ref a1, .ref a2, .ref a3, .ref a4, .ref a5, .ref a6, .ref a7, .ref a8, .ref a9, .ref a10, .int 0, .int 0, .ref a11, .int 0]))]) (c245_Counting_latest l z a5 a1 a12 a13 a14 a15 a16 a17 a18 a19 a20 a21 a22 a23) hx hb hml hown hts w_464 n_461 w_463 w_s_ad1675 w_8 md_6f7cc1 ⟨Nat.le_of_ble_eq_true rfl, Nat.le_of_ble_eq_true rfl⟩ hG hZ hP hD hS hA 1 rfl rfl rfl [1, 2] [0] rfl rfl rfl rfl rfl hl.1 rfl (Nat.le_of_ble_eq_true rfl) d_1_22_20 ⟨Nat.le_of_ble_eq_true rfl, Nat.le_of_ble_eq_true rfl⟩ (fun u0 H locs hP hD hS => ?_)
  have hP : va_P z.1 classes [(a0, .inr (11, [.ref a1, .ref a2, .ref a3, .ref a4, .ref a5, .ref a6, .ref a7, .ref a8, .ref a9, .ref a10, .int 0, .int 0, .ref a11, .int 0])), (a5, .inr (3, [.ref a1, .ref a12, .int 0, .int 0, .ref a13, .ref a14, .ref a15, .ref a16, .ref a17, .ref a18, .ref a19, .ref a20, .ref a21, .ref a22, .ref a23])), (a12, .inl (z.2 4, 21, .inr (.inr (.inr (.inr (fun _ => none))))))] H := hP
  have hD : va_D A [(a0, .inr (11, [.ref a1, .ref a2, .ref a3, .ref a4, .ref a5, .ref a6, .ref a7, .ref a8, .ref a9, .ref a10, .int 0, .int 0, .ref a11, .int 0])), (a5, .inr (3, [.ref a1, .ref a12, .int 0, .int 0, .ref a13, .ref a14, .ref a15, .ref a16, .ref a17, .ref a18, .ref a19, .ref a20, .ref a21, .ref a22, .ref a23])), (a12, .inl (z.2 4, 21, .inr (.inr (.inr (.inr (fun _ => none))))))] := hD
  refine W.eq (g2 := F0 m 23 ls [.null]) rfl ?_
  refine lv_astore_nN (lv' := [(3, .null), (0, .ref a0), (1, .int x0), (2, .int x1)]) hx hb d_1_22_23 rfl hl (by decide) rfl (fun ls hl => ?_)
  refine lv_aload_nN hx hb d_1_22_24 rfl (lv_at hl 0 rfl) ?_
  refine lv_ifnullN (tgt := 45) hx hb d_1_22_25 (by decide) ?_
  exact x_newNS (text := "the count had no such moment") hl0 hx hb hml hown hts hlocks hnt hG hZ hS hl.1 (by decide +kernel) w_1083 w_26 (by decide) d_ns_0 d_ns_1 d_ns_2 d_ns_5 xa_206_a xa_206_b d_1_22_45 d_1_22_48 d_1_22_49 d_1_22_51 d_1_22_54 ⟨Nat.le_of_ble_eq_true rfl, Nat.le_of_ble_eq_true rfl, Nat.le_of_ble_eq_true rfl, Nat.le_of_ble_eq_true rfl⟩ (Nat.le_of_ble_eq_true rfl) (Nat.le_of_ble_eq_true rfl) (Nat.le_of_ble_eq_true rfl)
set_option maxRecDepth 100000 in
set_option maxHeartbeats 4000000 in
theorem c257_BLaw_writePile (l : Launch) (z : Zz) (hl0 : l.stackTraces = false) (a0 a1 a2 a3 a4 a5 a6 a7 a8 a9 a10 a11 a12 a13 a14 a15 a16 a17 a18 a19 a20 a21 a22 a23 a24 : Nat) (x0 : Int32) (x1 : Int32) (h0 : x1 = (-1)) : HT l z ⟨"BallothallLaw", "writePile", "(LBallothall;II[J)I"⟩ method_20_code 5 (some .int) [(0, 10, 13, 19), (0, 10, 17, 61)] [.ref a0, .int x0, .int x1, .ref a1] [(a0, .inr (11, [.ref a2, .ref a3, .ref a4, .ref a5, .ref a6, .ref a7, .ref a8, .ref a9, .ref a10, .ref a11, .int 0, .int 0, .ref a12, .int 0])), (a6, .inr (3, [.ref a2, .ref a13, .int 0, .int 0, .ref a14, .ref a15, .ref a16, .ref a17, .ref a18, .ref a19, .ref a20, .ref a21, .ref a22, .ref a23, .ref a24])), (a13, .inl (z.2 4, 21, .inr (.inr (.inr (.inr (fun _ => none))))))] 7 129 1 6 (fun u => some (.int 2)) (fun u => []) := by
  refine HT.of (own := "BallothallLaw") (by decide +kernel) (Nat.le_of_ble_eq_true rfl) rfl (fun p e s m below meth c A ls hx hb hml hr hts hown hlocks hin hA hG hZ hP hD hS hl htab => ?_)
  have hl : lv_has ls 5 [(0, .ref a0), (1, .int x0), (2, .int x1), (3, .ref a1)] := hl
  refine lv_aload_n hx hb d_L20_0 rfl (lv_at hl 3 rfl) ?_
  refine lv_iconst (v := 0) hx hb d_L20_1 (by decide +kernel) ?_
  refine lv_aload_n hx hb d_L20_2 rfl (lv_at hl 0 rfl) ?_
  refine lv_iload_n hx hb d_L20_3 rfl (lv_at hl 1 rfl) ?_
  refine lv_iload_n hx hb d_L20_4 rfl (lv_at hl 2 rfl) ?_
  refine xV (As := [.int x0, .int x1]) (rest := [.int 0, .ref a1]) (wr := []) (c256_B_writePile l z hl0 a0 a2 a3 a4 a5 a6 a7 a8 a9 a10 a11 a12 a13 a14 a15 a16 a17 a18 a19 a20 a21 a22 a23 a24 x0 x1 h0) hx hb hml hown hts w_1299 w_1296 w_1297 w_1298 w_1 md_37bd88 ⟨Nat.le_of_ble_eq_true rfl, Nat.le_of_ble_eq_true rfl⟩ hG hZ hP hD hS hA 0 rfl rfl rfl [0, 1, 2] [] rfl rfl rfl rfl rfl hl.1 rfl (Nat.le_of_ble_eq_true rfl) d_L20_5 ⟨Nat.le_of_ble_eq_true rfl, Nat.le_of_ble_eq_true rfl⟩ (fun q0 ce9 H locs hP hD hS h7 h8 h9 => ?_)
  have hP : va_P z.1 classes [] H := hP
  have hD : va_D A [] := hD
  refine vx_catch hown [⟨0, 10, 13, 19⟩] ⟨0, 10, 17, 61⟩ [] (htab.trans rfl) (List.forall_mem_cons.mpr ⟨Or.inr ⟨by decide, "java/lang/IndexOutOfBoundsException", hts _ w_849, hG.2.2.2.2.2 ("java/util/NoSuchElementException", "java/lang/IndexOutOfBoundsException") (by decide)⟩, (fun _ h9 => absurd h9 List.not_mem_nil)⟩) rfl (by decide) (hts _ w_1075) (va_Nw.use rfl (hG.2.1 _ n_1085 rfl)) h7 h8 h9 ?_
  refine lv_astore (lv' := [(4, .ref q0), (0, .ref a0), (1, .int x0), (2, .int x1), (3, .ref a1)]) hx hb d_L20_17 hl (by decide) rfl (fun ls hl => ?_)
  refine lv_iconst (v := 2) hx hb d_L20_19 (by decide +kernel) ?_
  refine W.widen (k := 1) (n := 6) (Nat.le_of_ble_eq_true rfl) (Nat.le_of_ble_eq_true rfl) ?_
  refine vx_ret ?_
  exact W.iret hx hb hr (fun t ht hW => qk hP hD hS [] rfl ((fun k => k), (fun _ _ => none)) rfl rfl rfl ht) hS.2.2 d_L20_20
set_option maxRecDepth 100000 in
set_option maxHeartbeats 4000000 in
theorem c258_BModel_writePile (l : Launch) (z : Zz) (a0 a1 a2 a3 a4 a5 a6 a7 a8 a9 a10 a11 a12 a13 : Nat) (x0 : Int32) (x1 : Int32) (h0 : x1 = (-1)) : CT l z ⟨"BallothallModel", "writePile", "(II)I"⟩ prog_14_method_53_code 8 (some .int) [.ref a0, .int x0, .int x1] [(a0, .inr (18, [.ref a1, .ref a2, .int 0, .ref a3, .int 0, .ref a4, .int 0, .null, .int 0, .null, .long 0, .int 0, .null])), (a1, .inr (17, [.int 0, .ref a5, .ref a6, .int 0, .ref a7, .ref a8, .ref a9, .null, .null, .int 0, .ref a10, .ref a11, .ref a12, .int 0, .ref a13, .int 1]))] 1 30 0 0 (fun u => some (.int 0)) (fun u => [(a0, .inr (18, [.ref a1, .ref a2, .int 0, .ref a3, .int 0, .ref a4, .int 2, .null, .int 0, .null, .long 0, .int 0, .null])), (a1, .inr (17, [.int 0, .ref a5, .ref a6, .int 0, .ref a7, .ref a8, .ref a9, .null, .null, .int 0, .ref a10, .ref a11, .ref a12, .int 0, .ref a13, .int 1]))]) := by
  refine CT.of (own := "BallothallModel") (by decide +kernel) (Nat.le_of_ble_eq_true rfl) rfl (fun p e s m below meth c A ls hx hb hml hr hts hown hlocks hin hA hG hZ hP hD hS hl => ?_)
  have hl : lv_has ls 8 [(0, .ref a0), (1, .int x0), (2, .int x1)] := hl
  refine lv_aload_n hx hb d_14_53_0 rfl (lv_at hl 0 rfl) ?_
  refine lv_iload_n hx hb d_14_53_1 rfl (lv_at hl 2 rfl) ?_
  refine lv_iconst (v := (-1)) hx hb d_14_53_2 (by decide +kernel) ?_
  refine lv_icmp_eq (tgt := 14) hx hb d_14_53_3 (by decide) (fun _ => ?_) (fun c9 => absurd h0 c9)
  refine lv_iconst (v := 1) hx hb d_14_53_14 (by decide +kernel) ?_
  refine lv_goto (tgt := 19) hx hb d_14_53_15 (by decide) ?_
  refine lv_iconst (v := 1) hx hb d_14_53_19 (by decide +kernel) ?_
  refine kV (As := [.int 1, .int 1]) (rest := []) (wr := [(a1, .inr (17, [.int 0, .ref a5, .ref a6, .int 0, .ref a7, .ref a8, .ref a9, .null, .null, .int 0, .ref a10, .ref a11, .ref a12, .int 0, .ref a13, .int 1]))]) (c16_BModel_ends l z a0 a1 a2 a3 a4) hx hb hml hown hts w_1696 w_1693 w_1695 w_s_f8f2b7 w_12 md_77b0f8 ⟨Nat.le_of_ble_eq_true rfl, Nat.le_of_ble_eq_true rfl⟩ hG hZ hP hD hS hA 0 rfl rfl rfl [0] [1] rfl rfl rfl rfl rfl hl.1 rfl (Nat.le_of_ble_eq_true rfl) d_14_53_20 ⟨Nat.le_of_ble_eq_true rfl, Nat.le_of_ble_eq_true rfl⟩ (fun u0 H locs hP hD hS => ?_)
  have hP : va_P z.1 classes [(a1, .inr (17, [.int 0, .ref a5, .ref a6, .int 0, .ref a7, .ref a8, .ref a9, .null, .null, .int 0, .ref a10, .ref a11, .ref a12, .int 0, .ref a13, .int 1])), (a0, .inr (18, [.ref a1, .ref a2, .int 0, .ref a3, .int 0, .ref a4, .int 0, .null, .int 0, .null, .long 0, .int 0, .null]))] H := hP
  have hD : va_D A [(a1, .inr (17, [.int 0, .ref a5, .ref a6, .int 0, .ref a7, .ref a8, .ref a9, .null, .null, .int 0, .ref a10, .ref a11, .ref a12, .int 0, .ref a13, .int 1])), (a0, .inr (18, [.ref a1, .ref a2, .int 0, .ref a3, .int 0, .ref a4, .int 0, .null, .int 0, .null, .long 0, .int 0, .null]))] := hD
  refine W.eq (g2 := F0 m 23 ls [.int 0]) rfl ?_
  refine lv_if_ne (tgt := 72) hx hb d_14_53_23 (by decide) (fun c9 => absurd (by decide +kernel) c9) (fun _ => ?_)
  refine lv_aload_n hx hb d_14_53_26 rfl (lv_at hl 0 rfl) ?_
  refine lv_aload_n hx hb d_14_53_27 rfl (lv_at hl 0 rfl) ?_
  refine va_get (D := z.1) (ci := 18) (v := .ref a1) (C := "BallothallModel") (T := TX18) (N := 13) hx hb hts iX18 hown hG.1 hP 1 rfl rfl 0 (by decide) (hts _ w_1645) (fun _ h9 => h9) rfl d_14_53_28 ?_
  refine va_getN (D := z.1) (ci := 17) (v := .null) (C := "BallothallModel$State") (T := TX17) (N := 16) hx hb hts iX17 hown hG.1 hP 0 rfl rfl 8 (by decide) (va_Nw.use rfl (hG.2.1 _ n_1596 rfl)) (fun _ h9 => h9) rfl d_14_53_31 ?_
  refine lv_ifnullN (tgt := 64) hx hb d_14_53_34 (by decide) ?_
  refine lv_iconst (v := 0) hx hb d_14_53_64 (by decide +kernel) ?_
  refine lv_iconst (v := 2) hx hb d_14_53_65 (by decide +kernel) ?_
  refine kV (As := [.int 0, .int 2]) (rest := []) (wr := [(a1, .inr (17, [.int 0, .ref a5, .ref a6, .int 0, .ref a7, .ref a8, .ref a9, .null, .null, .int 0, .ref a10, .ref a11, .ref a12, .int 0, .ref a13, .int 1]))]) (c242_BModel_ends l z a0 a1 a2 a3 a4) hx hb hml hown hts w_1696 w_1693 w_1695 w_s_f8f2b7 w_12 md_77b0f8 ⟨Nat.le_of_ble_eq_true rfl, Nat.le_of_ble_eq_true rfl⟩ hG hZ hP hD hS hA 1 rfl rfl rfl [1] [0] rfl rfl rfl rfl rfl hl.1 rfl (Nat.le_of_ble_eq_true rfl) d_14_53_66 ⟨Nat.le_of_ble_eq_true rfl, Nat.le_of_ble_eq_true rfl⟩ (fun u1 H locs hP hD hS => ?_)
  have hP : va_P z.1 classes [(a1, .inr (17, [.int 0, .ref a5, .ref a6, .int 0, .ref a7, .ref a8, .ref a9, .null, .null, .int 0, .ref a10, .ref a11, .ref a12, .int 0, .ref a13, .int 1])), (a0, .inr (18, [.ref a1, .ref a2, .int 0, .ref a3, .int 0, .ref a4, .int 2, .null, .int 0, .null, .long 0, .int 0, .null]))] H := hP
  have hD : va_D A [(a1, .inr (17, [.int 0, .ref a5, .ref a6, .int 0, .ref a7, .ref a8, .ref a9, .null, .null, .int 0, .ref a10, .ref a11, .ref a12, .int 0, .ref a13, .int 1])), (a0, .inr (18, [.ref a1, .ref a2, .int 0, .ref a3, .int 0, .ref a4, .int 2, .null, .int 0, .null, .long 0, .int 0, .null]))] := hD
  refine W.eq (g2 := F0 m 69 ls [.int 1]) rfl ?_
  refine lv_if_eq (tgt := 74) hx hb d_14_53_69 (by decide) (fun c9 => absurd c9 (by decide +kernel)) (fun _ => ?_)
  refine lv_iconst (v := 0) hx hb d_14_53_72 (by decide +kernel) ?_
  refine W.widen (k := 0) (n := 0) (Nat.le_of_ble_eq_true rfl) (Nat.le_of_ble_eq_true rfl) ?_
  exact W.iret hx hb hr (fun t ht hW => qk hP hD hS [1, 0] rfl ((fun k => k), (fun _ _ => none)) rfl rfl rfl ht) hS.2.2 d_14_53_73
set_option maxRecDepth 100000 in
set_option maxHeartbeats 4000000 in
theorem c259_B_writePile (l : Launch) (z : Zz) (hl0 : l.stackTraces = false) (a0 a1 a2 a3 a4 a5 a6 a7 a8 a9 a10 a11 a12 a13 a14 a15 a16 a17 a18 : Nat) (x0 : Int32) (x1 : Int32) (h0 : ¬ x1 = (-1)) (h1 : x1 < 0) : XT l z ⟨"Ballothall", "writePile", "(II)I"⟩ prog_1_method_22_code 4 (some .int) [.ref a0, .int x0, .int x1] [(a0, .inr (11, [.ref a1, .ref a2, .ref a3, .ref a4, .ref a5, .ref a6, .ref a7, .ref a8, .ref a9, .ref a10, .int 0, .int 0, .ref a11, .int 0])), (a1, .inr (0, [.ref a12, .int 0, .int 0, .int 0, .ref a13, .ref a14, .ref a15, .ref a16, .ref a17, .ref a18]))] 7 127 1 6 "java/lang/IndexOutOfBoundsException" := by
  refine XT.of (own := "Ballothall") (by decide +kernel) (Nat.le_of_ble_eq_true rfl) rfl (fun p e s m below meth c A ls hx hb hml hr hts hown hlocks hin hA hG hZ hP hD hS hl hnt => ?_)
  have hl : lv_has ls 4 [(0, .ref a0), (1, .int x0), (2, .int x1)] := hl
  refine lv_iload_n hx hb d_1_22_0 rfl (lv_at hl 2 rfl) ?_
  refine lv_iconst (v := (-1)) hx hb d_1_22_1 (by decide +kernel) ?_
  refine lv_icmp_eq (tgt := 16) hx hb d_1_22_2 (by decide) (fun c9 => absurd c9 h0) (fun _ => ?_)
  refine lv_iload_n hx hb d_1_22_5 rfl (lv_at hl 2 rfl) ?_
  refine lv_aload_n hx hb d_1_22_6 rfl (lv_at hl 0 rfl) ?_
  refine va_get (D := z.1) (ci := 11) (v := .ref a1) (C := "Ballothall") (T := TX11) (N := 14) hx hb hts iX11 hown hG.1 hP 0 rfl rfl 0 (by decide) (hts _ w_406) (fun _ h9 => h9) rfl d_1_22_7 ?_
  refine va_getN (D := z.1) (ci := 0) (v := .int 0) (C := "Ballothall$BallotBox") (T := TX0) (N := 10) hx hb hts iX0 hown hG.1 hP 1 rfl rfl 2 (by decide) (va_Nw.use rfl (hG.2.1 _ n_57 rfl)) (fun _ h9 => h9) rfl d_1_22_10 ?_
  exact xS (As := [.int x1, .int 0]) (rest := []) (wr := [(a0, .inr (11, [.ref a1, .ref a2, .ref a3, .ref a4, .ref a5, .ref a6, .ref a7, .ref a8, .ref a9, .ref a10, .int 0, .int 0, .ref a11, .int 0])), (a1, .inr (0, [.ref a12, .int 0, .int 0, .int 0, .ref a13, .ref a14, .ref a15, .ref a16, .ref a17, .ref a18]))]) (c26_B_needIndex l z hl0 x1 h1) hx hb hml hown hts w_857 w_855 w_856 w_1 md_6cb26b ⟨Nat.le_of_ble_eq_true rfl, Nat.le_of_ble_eq_true rfl⟩ hG hZ hP hD hS hA [] [0, 1] rfl rfl rfl rfl rfl hl.1 rfl (Nat.le_of_ble_eq_true rfl) d_1_22_13 ⟨Nat.le_of_ble_eq_true rfl, Nat.le_of_ble_eq_true rfl⟩ (fun q9 ce9 H locs hP hD hS h7 h8 h9 => x_out hnt hlocks hS h7 h8 h9 (Nat.le_of_ble_eq_true rfl) (Nat.le_of_ble_eq_true rfl))
set_option maxRecDepth 100000 in
set_option maxHeartbeats 4000000 in
theorem c260_BLaw_writePile (l : Launch) (z : Zz) (hl0 : l.stackTraces = false) (a0 a1 a2 a3 a4 a5 a6 a7 a8 a9 a10 a11 a12 a13 a14 a15 a16 a17 a18 a19 : Nat) (x0 : Int32) (x1 : Int32) (h0 : ¬ x1 = (-1)) (h1 : x1 < 0) : HT l z ⟨"BallothallLaw", "writePile", "(LBallothall;II[J)I"⟩ method_20_code 5 (some .int) [(0, 10, 13, 19), (0, 10, 17, 61)] [.ref a0, .int x0, .int x1, .ref a1] [(a0, .inr (11, [.ref a2, .ref a3, .ref a4, .ref a5, .ref a6, .ref a7, .ref a8, .ref a9, .ref a10, .ref a11, .int 0, .int 0, .ref a12, .int 0])), (a2, .inr (0, [.ref a13, .int 0, .int 0, .int 0, .ref a14, .ref a15, .ref a16, .ref a17, .ref a18, .ref a19]))] 8 158 1 6 (fun u => some (.int 1)) (fun u => []) := by
  refine HT.of (own := "BallothallLaw") (by decide +kernel) (Nat.le_of_ble_eq_true rfl) rfl (fun p e s m below meth c A ls hx hb hml hr hts hown hlocks hin hA hG hZ hP hD hS hl htab => ?_)
  have hl : lv_has ls 5 [(0, .ref a0), (1, .int x0), (2, .int x1), (3, .ref a1)] := hl
  refine lv_aload_n hx hb d_L20_0 rfl (lv_at hl 3 rfl) ?_
  refine lv_iconst (v := 0) hx hb d_L20_1 (by decide +kernel) ?_
  refine lv_aload_n hx hb d_L20_2 rfl (lv_at hl 0 rfl) ?_
  refine lv_iload_n hx hb d_L20_3 rfl (lv_at hl 1 rfl) ?_
  refine lv_iload_n hx hb d_L20_4 rfl (lv_at hl 2 rfl) ?_
  refine xV (As := [.int x0, .int x1]) (rest := [.int 0, .ref a1]) (wr := []) (c259_B_writePile l z hl0 a0 a2 a3 a4 a5 a6 a7 a8 a9 a10 a11 a12 a13 a14 a15 a16 a17 a18 a19 x0 x1 h0 h1) hx hb hml hown hts w_1299 w_1296 w_1297 w_1298 w_1 md_37bd88 ⟨Nat.le_of_ble_eq_true rfl, Nat.le_of_ble_eq_true rfl⟩ hG hZ hP hD hS hA 0 rfl rfl rfl [0, 1] [] rfl rfl rfl rfl rfl hl.1 rfl (Nat.le_of_ble_eq_true rfl) d_L20_5 ⟨Nat.le_of_ble_eq_true rfl, Nat.le_of_ble_eq_true rfl⟩ (fun q0 ce9 H locs hP hD hS h7 h8 h9 => ?_)
  have hP : va_P z.1 classes [] H := hP
  have hD : va_D A [] := hD
  refine vx_catch hown [] ⟨0, 10, 13, 19⟩ [⟨0, 10, 17, 61⟩] (htab.trans rfl) (fun _ h9 => absurd h9 List.not_mem_nil) rfl (by decide) (hts _ w_849) (va_Nw.use rfl (hG.2.1 _ n_860 rfl)) h7 h8 h9 ?_
  refine lv_astore (lv' := [(4, .ref q0), (0, .ref a0), (1, .int x0), (2, .int x1), (3, .ref a1)]) hx hb d_L20_13 hl (by decide) rfl (fun ls hl => ?_)
  refine lv_iconst (v := 1) hx hb d_L20_15 (by decide +kernel) ?_
  refine W.widen (k := 1) (n := 6) (Nat.le_of_ble_eq_true rfl) (Nat.le_of_ble_eq_true rfl) ?_
  refine vx_ret ?_
  exact W.iret hx hb hr (fun t ht hW => qk hP hD hS [] rfl ((fun k => k), (fun _ _ => none)) rfl rfl rfl ht) hS.2.2 d_L20_16
set_option maxRecDepth 100000 in
set_option maxHeartbeats 4000000 in
theorem c261_BModel_writePile (l : Launch) (z : Zz) (a0 a1 a2 a3 a4 a5 a6 a7 a8 a9 a10 a11 a12 a13 : Nat) (x0 : Int32) (x1 : Int32) (h0 : ¬ x1 = (-1)) (h1 : x1 < 0) : CT l z ⟨"BallothallModel", "writePile", "(II)I"⟩ prog_14_method_53_code 8 (some .int) [.ref a0, .int x0, .int x1] [(a0, .inr (18, [.ref a1, .ref a2, .int 0, .ref a3, .int 0, .ref a4, .int 0, .null, .int 0, .null, .long 0, .int 0, .null])), (a1, .inr (17, [.int 0, .ref a5, .ref a6, .int 0, .ref a7, .ref a8, .ref a9, .null, .null, .int 0, .ref a10, .ref a11, .ref a12, .int 0, .ref a13, .int 1]))] 2 59 0 0 (fun u => some (.int 0)) (fun u => [(a0, .inr (18, [.ref a1, .ref a2, .int 0, .ref a3, .int 0, .ref a4, .int 1, .null, .int 0, .null, .long 0, .int 0, .null])), (a1, .inr (17, [.int 0, .ref a5, .ref a6, .int 0, .ref a7, .ref a8, .ref a9, .null, .null, .int 0, .ref a10, .ref a11, .ref a12, .int 0, .ref a13, .int 1]))]) := by
  refine CT.of (own := "BallothallModel") (by decide +kernel) (Nat.le_of_ble_eq_true rfl) rfl (fun p e s m below meth c A ls hx hb hml hr hts hown hlocks hin hA hG hZ hP hD hS hl => ?_)
  have hl : lv_has ls 8 [(0, .ref a0), (1, .int x0), (2, .int x1)] := hl
  refine lv_aload_n hx hb d_14_53_0 rfl (lv_at hl 0 rfl) ?_
  refine lv_iload_n hx hb d_14_53_1 rfl (lv_at hl 2 rfl) ?_
  refine lv_iconst (v := (-1)) hx hb d_14_53_2 (by decide +kernel) ?_
  refine lv_icmp_eq (tgt := 14) hx hb d_14_53_3 (by decide) (fun c9 => absurd c9 h0) (fun _ => ?_)
  refine lv_aload_n hx hb d_14_53_6 rfl (lv_at hl 0 rfl) ?_
  refine lv_iload_n hx hb d_14_53_7 rfl (lv_at hl 2 rfl) ?_
  refine kV (As := [.int x1]) (rest := [.ref a0]) (wr := []) (c30_BModel_isCandidate l z a0 a1 a2 a3 a4 a5 a6 a7 a8 a9 a10 a11 a12 a13 x1 h1) hx hb hml hown hts w_1722 w_1719 w_1721 w_s_8d307b w_12 md_521241 ⟨Nat.le_of_ble_eq_true rfl, Nat.le_of_ble_eq_true rfl⟩ hG hZ hP hD hS hA 0 rfl rfl rfl [0, 1] [] rfl rfl rfl rfl rfl hl.1 rfl (Nat.le_of_ble_eq_true rfl) d_14_53_8 ⟨Nat.le_of_ble_eq_true rfl, Nat.le_of_ble_eq_true rfl⟩ (fun u0 H locs hP hD hS => ?_)
  have hP : va_P z.1 classes [(a0, .inr (18, [.ref a1, .ref a2, .int 0, .ref a3, .int 0, .ref a4, .int 0, .null, .int 0, .null, .long 0, .int 0, .null])), (a1, .inr (17, [.int 0, .ref a5, .ref a6, .int 0, .ref a7, .ref a8, .ref a9, .null, .null, .int 0, .ref a10, .ref a11, .ref a12, .int 0, .ref a13, .int 1]))] H := hP
  have hD : va_D A [(a0, .inr (18, [.ref a1, .ref a2, .int 0, .ref a3, .int 0, .ref a4, .int 0, .null, .int 0, .null, .long 0, .int 0, .null])), (a1, .inr (17, [.int 0, .ref a5, .ref a6, .int 0, .ref a7, .ref a8, .ref a9, .null, .null, .int 0, .ref a10, .ref a11, .ref a12, .int 0, .ref a13, .int 1]))] := hD
  refine W.eq (g2 := F0 m 11 ls [.int 0, .ref a0]) rfl ?_
  refine lv_if_eq (tgt := 18) hx hb d_14_53_11 (by decide) (fun _ => ?_) (fun c9 => absurd (by decide +kernel) c9)
  refine lv_iconst (v := 0) hx hb d_14_53_18 (by decide +kernel) ?_
  refine lv_iconst (v := 1) hx hb d_14_53_19 (by decide +kernel) ?_
  refine kV (As := [.int 0, .int 1]) (rest := []) (wr := [(a1, .inr (17, [.int 0, .ref a5, .ref a6, .int 0, .ref a7, .ref a8, .ref a9, .null, .null, .int 0, .ref a10, .ref a11, .ref a12, .int 0, .ref a13, .int 1]))]) (c31_BModel_ends l z a0 a1 a2 a3 a4) hx hb hml hown hts w_1696 w_1693 w_1695 w_s_f8f2b7 w_12 md_77b0f8 ⟨Nat.le_of_ble_eq_true rfl, Nat.le_of_ble_eq_true rfl⟩ hG hZ hP hD hS hA 0 rfl rfl rfl [0] [1] rfl rfl rfl rfl rfl hl.1 rfl (Nat.le_of_ble_eq_true rfl) d_14_53_20 ⟨Nat.le_of_ble_eq_true rfl, Nat.le_of_ble_eq_true rfl⟩ (fun u1 H locs hP hD hS => ?_)
  have hP : va_P z.1 classes [(a1, .inr (17, [.int 0, .ref a5, .ref a6, .int 0, .ref a7, .ref a8, .ref a9, .null, .null, .int 0, .ref a10, .ref a11, .ref a12, .int 0, .ref a13, .int 1])), (a0, .inr (18, [.ref a1, .ref a2, .int 0, .ref a3, .int 0, .ref a4, .int 1, .null, .int 0, .null, .long 0, .int 0, .null]))] H := hP
  have hD : va_D A [(a1, .inr (17, [.int 0, .ref a5, .ref a6, .int 0, .ref a7, .ref a8, .ref a9, .null, .null, .int 0, .ref a10, .ref a11, .ref a12, .int 0, .ref a13, .int 1])), (a0, .inr (18, [.ref a1, .ref a2, .int 0, .ref a3, .int 0, .ref a4, .int 1, .null, .int 0, .null, .long 0, .int 0, .null]))] := hD
  refine W.eq (g2 := F0 m 23 ls [.int 1]) rfl ?_
  refine lv_if_ne (tgt := 72) hx hb d_14_53_23 (by decide) (fun _ => ?_) (fun c9 => absurd c9 (by decide +kernel))
  refine lv_iconst (v := 0) hx hb d_14_53_72 (by decide +kernel) ?_
  refine W.widen (k := 0) (n := 0) (Nat.le_of_ble_eq_true rfl) (Nat.le_of_ble_eq_true rfl) ?_
  exact W.iret hx hb hr (fun t ht hW => qk hP hD hS [1, 0] rfl ((fun k => k), (fun _ _ => none)) rfl rfl rfl ht) hS.2.2 d_14_53_73
set_option maxRecDepth 100000 in
set_option maxHeartbeats 4000000 in
theorem c262_B_writePile (l : Launch) (z : Zz) (hl0 : l.stackTraces = false) (a0 a1 a2 a3 a4 a5 a6 a7 a8 a9 a10 a11 a12 a13 a14 a15 a16 a17 a18 : Nat) (x0 : Int32) (x1 : Int32) (h0 : ¬ x1 = (-1)) (h1 : ¬ x1 < 0) : XT l z ⟨"Ballothall", "writePile", "(II)I"⟩ prog_1_method_22_code 4 (some .int) [.ref a0, .int x0, .int x1] [(a0, .inr (11, [.ref a1, .ref a2, .ref a3, .ref a4, .ref a5, .ref a6, .ref a7, .ref a8, .ref a9, .ref a10, .int 0, .int 0, .ref a11, .int 0])), (a1, .inr (0, [.ref a12, .int 0, .int 0, .int 0, .ref a13, .ref a14, .ref a15, .ref a16, .ref a17, .ref a18]))] 7 127 1 6 "java/lang/IndexOutOfBoundsException" := by
  refine XT.of (own := "Ballothall") (by decide +kernel) (Nat.le_of_ble_eq_true rfl) rfl (fun p e s m below meth c A ls hx hb hml hr hts hown hlocks hin hA hG hZ hP hD hS hl hnt => ?_)
  have hl : lv_has ls 4 [(0, .ref a0), (1, .int x0), (2, .int x1)] := hl
  refine lv_iload_n hx hb d_1_22_0 rfl (lv_at hl 2 rfl) ?_
  refine lv_iconst (v := (-1)) hx hb d_1_22_1 (by decide +kernel) ?_
  refine lv_icmp_eq (tgt := 16) hx hb d_1_22_2 (by decide) (fun c9 => absurd c9 h0) (fun _ => ?_)
  refine lv_iload_n hx hb d_1_22_5 rfl (lv_at hl 2 rfl) ?_
  refine lv_aload_n hx hb d_1_22_6 rfl (lv_at hl 0 rfl) ?_
  refine va_get (D := z.1) (ci := 11) (v := .ref a1) (C := "Ballothall") (T := TX11) (N := 14) hx hb hts iX11 hown hG.1 hP 0 rfl rfl 0 (by decide) (hts _ w_406) (fun _ h9 => h9) rfl d_1_22_7 ?_
  refine va_getN (D := z.1) (ci := 0) (v := .int 0) (C := "Ballothall$BallotBox") (T := TX0) (N := 10) hx hb hts iX0 hown hG.1 hP 1 rfl rfl 2 (by decide) (va_Nw.use rfl (hG.2.1 _ n_57 rfl)) (fun _ h9 => h9) rfl d_1_22_10 ?_
  exact xS (As := [.int x1, .int 0]) (rest := []) (wr := [(a0, .inr (11, [.ref a1, .ref a2, .ref a3, .ref a4, .ref a5, .ref a6, .ref a7, .ref a8, .ref a9, .ref a10, .int 0, .int 0, .ref a11, .int 0])), (a1, .inr (0, [.ref a12, .int 0, .int 0, .int 0, .ref a13, .ref a14, .ref a15, .ref a16, .ref a17, .ref a18]))]) (c34_B_needIndex l z hl0 x1 h1) hx hb hml hown hts w_857 w_855 w_856 w_1 md_6cb26b ⟨Nat.le_of_ble_eq_true rfl, Nat.le_of_ble_eq_true rfl⟩ hG hZ hP hD hS hA [] [0, 1] rfl rfl rfl rfl rfl hl.1 rfl (Nat.le_of_ble_eq_true rfl) d_1_22_13 ⟨Nat.le_of_ble_eq_true rfl, Nat.le_of_ble_eq_true rfl⟩ (fun q9 ce9 H locs hP hD hS h7 h8 h9 => x_out hnt hlocks hS h7 h8 h9 (Nat.le_of_ble_eq_true rfl) (Nat.le_of_ble_eq_true rfl))
set_option maxRecDepth 100000 in
set_option maxHeartbeats 4000000 in
theorem c263_BLaw_writePile (l : Launch) (z : Zz) (hl0 : l.stackTraces = false) (a0 a1 a2 a3 a4 a5 a6 a7 a8 a9 a10 a11 a12 a13 a14 a15 a16 a17 a18 a19 : Nat) (x0 : Int32) (x1 : Int32) (h0 : ¬ x1 = (-1)) (h1 : ¬ x1 < 0) : HT l z ⟨"BallothallLaw", "writePile", "(LBallothall;II[J)I"⟩ method_20_code 5 (some .int) [(0, 10, 13, 19), (0, 10, 17, 61)] [.ref a0, .int x0, .int x1, .ref a1] [(a0, .inr (11, [.ref a2, .ref a3, .ref a4, .ref a5, .ref a6, .ref a7, .ref a8, .ref a9, .ref a10, .ref a11, .int 0, .int 0, .ref a12, .int 0])), (a2, .inr (0, [.ref a13, .int 0, .int 0, .int 0, .ref a14, .ref a15, .ref a16, .ref a17, .ref a18, .ref a19]))] 8 158 1 6 (fun u => some (.int 1)) (fun u => []) := by
  refine HT.of (own := "BallothallLaw") (by decide +kernel) (Nat.le_of_ble_eq_true rfl) rfl (fun p e s m below meth c A ls hx hb hml hr hts hown hlocks hin hA hG hZ hP hD hS hl htab => ?_)
  have hl : lv_has ls 5 [(0, .ref a0), (1, .int x0), (2, .int x1), (3, .ref a1)] := hl
  refine lv_aload_n hx hb d_L20_0 rfl (lv_at hl 3 rfl) ?_
  refine lv_iconst (v := 0) hx hb d_L20_1 (by decide +kernel) ?_
  refine lv_aload_n hx hb d_L20_2 rfl (lv_at hl 0 rfl) ?_
  refine lv_iload_n hx hb d_L20_3 rfl (lv_at hl 1 rfl) ?_
  refine lv_iload_n hx hb d_L20_4 rfl (lv_at hl 2 rfl) ?_
  refine xV (As := [.int x0, .int x1]) (rest := [.int 0, .ref a1]) (wr := []) (c262_B_writePile l z hl0 a0 a2 a3 a4 a5 a6 a7 a8 a9 a10 a11 a12 a13 a14 a15 a16 a17 a18 a19 x0 x1 h0 h1) hx hb hml hown hts w_1299 w_1296 w_1297 w_1298 w_1 md_37bd88 ⟨Nat.le_of_ble_eq_true rfl, Nat.le_of_ble_eq_true rfl⟩ hG hZ hP hD hS hA 0 rfl rfl rfl [0, 1] [] rfl rfl rfl rfl rfl hl.1 rfl (Nat.le_of_ble_eq_true rfl) d_L20_5 ⟨Nat.le_of_ble_eq_true rfl, Nat.le_of_ble_eq_true rfl⟩ (fun q0 ce9 H locs hP hD hS h7 h8 h9 => ?_)
  have hP : va_P z.1 classes [] H := hP
  have hD : va_D A [] := hD
  refine vx_catch hown [] ⟨0, 10, 13, 19⟩ [⟨0, 10, 17, 61⟩] (htab.trans rfl) (fun _ h9 => absurd h9 List.not_mem_nil) rfl (by decide) (hts _ w_849) (va_Nw.use rfl (hG.2.1 _ n_860 rfl)) h7 h8 h9 ?_
  refine lv_astore (lv' := [(4, .ref q0), (0, .ref a0), (1, .int x0), (2, .int x1), (3, .ref a1)]) hx hb d_L20_13 hl (by decide) rfl (fun ls hl => ?_)
  refine lv_iconst (v := 1) hx hb d_L20_15 (by decide +kernel) ?_
  refine W.widen (k := 1) (n := 6) (Nat.le_of_ble_eq_true rfl) (Nat.le_of_ble_eq_true rfl) ?_
  refine vx_ret ?_
  exact W.iret hx hb hr (fun t ht hW => qk hP hD hS [] rfl ((fun k => k), (fun _ _ => none)) rfl rfl rfl ht) hS.2.2 d_L20_16
set_option maxRecDepth 100000 in
set_option maxHeartbeats 4000000 in
theorem c264_BModel_writePile (l : Launch) (z : Zz) (a0 a1 a2 a3 a4 a5 a6 a7 a8 a9 a10 a11 a12 a13 : Nat) (x0 : Int32) (x1 : Int32) (h0 : ¬ x1 = (-1)) (h1 : ¬ x1 < 0) (h2 : (-1) < x1) : CT l z ⟨"BallothallModel", "writePile", "(II)I"⟩ prog_14_method_53_code 8 (some .int) [.ref a0, .int x0, .int x1] [(a0, .inr (18, [.ref a1, .ref a2, .int 0, .ref a3, .int 0, .ref a4, .int 0, .null, .int 0, .null, .long 0, .int 0, .null])), (a1, .inr (17, [.int 0, .ref a5, .ref a6, .int 0, .ref a7, .ref a8, .ref a9, .null, .null, .int 0, .ref a10, .ref a11, .ref a12, .int 0, .ref a13, .int 1]))] 2 59 0 0 (fun u => some (.int 0)) (fun u => [(a0, .inr (18, [.ref a1, .ref a2, .int 0, .ref a3, .int 0, .ref a4, .int 1, .null, .int 0, .null, .long 0, .int 0, .null])), (a1, .inr (17, [.int 0, .ref a5, .ref a6, .int 0, .ref a7, .ref a8, .ref a9, .null, .null, .int 0, .ref a10, .ref a11, .ref a12, .int 0, .ref a13, .int 1]))]) := by
  refine CT.of (own := "BallothallModel") (by decide +kernel) (Nat.le_of_ble_eq_true rfl) rfl (fun p e s m below meth c A ls hx hb hml hr hts hown hlocks hin hA hG hZ hP hD hS hl => ?_)
  have hl : lv_has ls 8 [(0, .ref a0), (1, .int x0), (2, .int x1)] := hl
  refine lv_aload_n hx hb d_14_53_0 rfl (lv_at hl 0 rfl) ?_
  refine lv_iload_n hx hb d_14_53_1 rfl (lv_at hl 2 rfl) ?_
  refine lv_iconst (v := (-1)) hx hb d_14_53_2 (by decide +kernel) ?_
  refine lv_icmp_eq (tgt := 14) hx hb d_14_53_3 (by decide) (fun c9 => absurd c9 h0) (fun _ => ?_)
  refine lv_aload_n hx hb d_14_53_6 rfl (lv_at hl 0 rfl) ?_
  refine lv_iload_n hx hb d_14_53_7 rfl (lv_at hl 2 rfl) ?_
  refine kV (As := [.int x1]) (rest := [.ref a0]) (wr := []) (c38_BModel_isCandidate l z a0 a1 a2 a3 a4 a5 a6 a7 a8 a9 a10 a11 a12 a13 x1 h1 h2) hx hb hml hown hts w_1722 w_1719 w_1721 w_s_8d307b w_12 md_521241 ⟨Nat.le_of_ble_eq_true rfl, Nat.le_of_ble_eq_true rfl⟩ hG hZ hP hD hS hA 0 rfl rfl rfl [0, 1] [] rfl rfl rfl rfl rfl hl.1 rfl (Nat.le_of_ble_eq_true rfl) d_14_53_8 ⟨Nat.le_of_ble_eq_true rfl, Nat.le_of_ble_eq_true rfl⟩ (fun u0 H locs hP hD hS => ?_)
  have hP : va_P z.1 classes [(a0, .inr (18, [.ref a1, .ref a2, .int 0, .ref a3, .int 0, .ref a4, .int 0, .null, .int 0, .null, .long 0, .int 0, .null])), (a1, .inr (17, [.int 0, .ref a5, .ref a6, .int 0, .ref a7, .ref a8, .ref a9, .null, .null, .int 0, .ref a10, .ref a11, .ref a12, .int 0, .ref a13, .int 1]))] H := hP
  have hD : va_D A [(a0, .inr (18, [.ref a1, .ref a2, .int 0, .ref a3, .int 0, .ref a4, .int 0, .null, .int 0, .null, .long 0, .int 0, .null])), (a1, .inr (17, [.int 0, .ref a5, .ref a6, .int 0, .ref a7, .ref a8, .ref a9, .null, .null, .int 0, .ref a10, .ref a11, .ref a12, .int 0, .ref a13, .int 1]))] := hD
  refine W.eq (g2 := F0 m 11 ls [.int 0, .ref a0]) rfl ?_
  refine lv_if_eq (tgt := 18) hx hb d_14_53_11 (by decide) (fun _ => ?_) (fun c9 => absurd (by decide +kernel) c9)
  refine lv_iconst (v := 0) hx hb d_14_53_18 (by decide +kernel) ?_
  refine lv_iconst (v := 1) hx hb d_14_53_19 (by decide +kernel) ?_
  refine kV (As := [.int 0, .int 1]) (rest := []) (wr := [(a1, .inr (17, [.int 0, .ref a5, .ref a6, .int 0, .ref a7, .ref a8, .ref a9, .null, .null, .int 0, .ref a10, .ref a11, .ref a12, .int 0, .ref a13, .int 1]))]) (c31_BModel_ends l z a0 a1 a2 a3 a4) hx hb hml hown hts w_1696 w_1693 w_1695 w_s_f8f2b7 w_12 md_77b0f8 ⟨Nat.le_of_ble_eq_true rfl, Nat.le_of_ble_eq_true rfl⟩ hG hZ hP hD hS hA 0 rfl rfl rfl [0] [1] rfl rfl rfl rfl rfl hl.1 rfl (Nat.le_of_ble_eq_true rfl) d_14_53_20 ⟨Nat.le_of_ble_eq_true rfl, Nat.le_of_ble_eq_true rfl⟩ (fun u1 H locs hP hD hS => ?_)
  have hP : va_P z.1 classes [(a1, .inr (17, [.int 0, .ref a5, .ref a6, .int 0, .ref a7, .ref a8, .ref a9, .null, .null, .int 0, .ref a10, .ref a11, .ref a12, .int 0, .ref a13, .int 1])), (a0, .inr (18, [.ref a1, .ref a2, .int 0, .ref a3, .int 0, .ref a4, .int 1, .null, .int 0, .null, .long 0, .int 0, .null]))] H := hP
  have hD : va_D A [(a1, .inr (17, [.int 0, .ref a5, .ref a6, .int 0, .ref a7, .ref a8, .ref a9, .null, .null, .int 0, .ref a10, .ref a11, .ref a12, .int 0, .ref a13, .int 1])), (a0, .inr (18, [.ref a1, .ref a2, .int 0, .ref a3, .int 0, .ref a4, .int 1, .null, .int 0, .null, .long 0, .int 0, .null]))] := hD
  refine W.eq (g2 := F0 m 23 ls [.int 1]) rfl ?_
  refine lv_if_ne (tgt := 72) hx hb d_14_53_23 (by decide) (fun _ => ?_) (fun c9 => absurd c9 (by decide +kernel))
  refine lv_iconst (v := 0) hx hb d_14_53_72 (by decide +kernel) ?_
  refine W.widen (k := 0) (n := 0) (Nat.le_of_ble_eq_true rfl) (Nat.le_of_ble_eq_true rfl) ?_
  exact W.iret hx hb hr (fun t ht hW => qk hP hD hS [1, 0] rfl ((fun k => k), (fun _ _ => none)) rfl rfl rfl ht) hS.2.2 d_14_53_73
set_option maxRecDepth 100000 in
set_option maxHeartbeats 4000000 in
theorem c265_B_outputByte (l : Launch) (z : Zz) (a0 : Nat) (x0 : Int32) (h0 : x0 < 0) : CT l z ⟨"Ballothall", "outputByte", "(I)I"⟩ prog_1_method_23_code 2 (some .int) [.ref a0, .int x0] [] 0 0 0 0 (fun u => some (.int (-1))) (fun u => []) := by
  refine CT.of (own := "Ballothall") (by decide +kernel) (Nat.le_of_ble_eq_true rfl) rfl (fun p e s m below meth c A ls hx hb hml hr hts hown hlocks hin hA hG hZ hP hD hS hl => ?_)
  have hl : lv_has ls 2 [(0, .ref a0), (1, .int x0)] := hl
  refine lv_iload_n hx hb d_1_23_0 rfl (lv_at hl 1 rfl) ?_
  refine lv_if_lt (tgt := 12) hx hb d_1_23_1 (by decide) (fun _ => ?_) (fun c9 => absurd h0 c9)
  refine lv_iconst (v := (-1)) hx hb d_1_23_12 (by decide +kernel) ?_
  refine lv_goto (tgt := 22) hx hb d_1_23_13 (by decide) ?_
  refine W.widen (k := 0) (n := 0) (Nat.le_of_ble_eq_true rfl) (Nat.le_of_ble_eq_true rfl) ?_
  exact W.iret hx hb hr (fun t ht hW => qk hP hD hS [] rfl ((fun k => k), (fun _ _ => none)) rfl rfl rfl ht) hS.2.2 d_1_23_22
set_option maxRecDepth 100000 in
set_option maxHeartbeats 4000000 in
theorem c266_BModel_outputByte (l : Launch) (z : Zz) (a0 a1 a2 a3 a4 : Nat) (x0 : Int32) (h0 : x0 < 0) : CT l z ⟨"BallothallModel", "outputByte", "(I)I"⟩ prog_14_method_54_code 2 (some .int) [.ref a0, .int x0] [(a0, .inr (18, [.ref a1, .ref a2, .int 0, .ref a3, .int 0, .ref a4, .int 0, .null, .int 0, .null, .long 0, .int 0, .null])), (a4, .inl (z.2 0, 0, .inl (fun _ => 0)))] 1 30 0 0 (fun u => some (.int (-1))) (fun u => [(a0, .inr (18, [.ref a1, .ref a2, .int 0, .ref a3, .int 0, .ref a4, .int 0, .null, .int 0, .null, .long 0, .int 0, .null])), (a4, .inl (z.2 0, 0, .inl (fun _ => 0)))]) := by
  refine CT.of (own := "BallothallModel") (by decide +kernel) (Nat.le_of_ble_eq_true rfl) rfl (fun p e s m below meth c A ls hx hb hml hr hts hown hlocks hin hA hG hZ hP hD hS hl => ?_)
  have hl : lv_has ls 2 [(0, .ref a0), (1, .int x0)] := hl
  refine lv_aload_n hx hb d_14_54_0 rfl (lv_at hl 0 rfl) ?_
  refine lv_iconst (v := 0) hx hb d_14_54_1 (by decide +kernel) ?_
  refine va_put (D := z.1) (ci := 18) (v := .int 0) (ty := .int) (C := "BallothallModel") (T := TX18) (N := 13) hx hb hts iX18 tyX18 tyX18_ok nmX18 hown hG.1 hP hD hS 0 rfl rfl 6 (by decide) (hts _ w_1651) (fun _ h9 => h9) rfl (by decide +kernel) rfl rfl (Nat.le_of_ble_eq_true rfl) d_14_54_2 (fun H locs hP hD hS => ?_)
  have hP : va_P z.1 classes [(a0, .inr (18, [.ref a1, .ref a2, .int 0, .ref a3, .int 0, .ref a4, .int 0, .null, .int 0, .null, .long 0, .int 0, .null])), (a4, .inl (z.2 0, 0, .inl (fun _ => 0)))] H := hP
  have hD : va_D A [(a0, .inr (18, [.ref a1, .ref a2, .int 0, .ref a3, .int 0, .ref a4, .int 0, .null, .int 0, .null, .long 0, .int 0, .null])), (a4, .inl (z.2 0, 0, .inl (fun _ => 0)))] := hD
  refine lv_iload_n hx hb d_14_54_5 rfl (lv_at hl 1 rfl) ?_
  refine lv_iconst (v := 0) hx hb d_14_54_6 (by decide +kernel) ?_
  refine lv_aload_n hx hb d_14_54_7 rfl (lv_at hl 0 rfl) ?_
  refine va_get (D := z.1) (ci := 18) (v := .ref a4) (C := "BallothallModel") (T := TX18) (N := 13) hx hb hts iX18 hown hG.1 hP 0 rfl rfl 5 (by decide) (hts _ w_1650) (fun _ h9 => h9) rfl d_14_54_8 ?_
  refine va_alen (v := 0) hx hb hG.1 hP 1 0 rfl rfl rfl d_14_54_11 ?_
  refine lv_iconst (v := 1) hx hb d_14_54_12 (by decide +kernel) ?_
  refine lv_isub hx hb d_14_54_13 ?_
  refine nrm (x1 := (-1)) (by decide +kernel) ?_
  refine kS (As := [.int x0, .int 0, .int (-1)]) (rest := []) (wr := [(a0, .inr (18, [.ref a1, .ref a2, .int 0, .ref a3, .int 0, .ref a4, .int 0, .null, .int 0, .null, .long 0, .int 0, .null])), (a4, .inl (z.2 0, 0, .inl (fun _ => 0)))]) (c29_BModel_isIn l z x0 h0) hx hb hml hown hts w_1718 w_1716 w_1717 w_12 md_bca45c ⟨Nat.le_of_ble_eq_true rfl, Nat.le_of_ble_eq_true rfl⟩ hG hZ hP hD hS hA [] [0, 1] rfl rfl rfl rfl rfl hl.1 rfl (Nat.le_of_ble_eq_true rfl) d_14_54_14 ⟨Nat.le_of_ble_eq_true rfl, Nat.le_of_ble_eq_true rfl⟩ (fun u0 H locs hP hD hS => ?_)
  have hP : va_P z.1 classes [(a0, .inr (18, [.ref a1, .ref a2, .int 0, .ref a3, .int 0, .ref a4, .int 0, .null, .int 0, .null, .long 0, .int 0, .null])), (a4, .inl (z.2 0, 0, .inl (fun _ => 0)))] H := hP
  have hD : va_D A [(a0, .inr (18, [.ref a1, .ref a2, .int 0, .ref a3, .int 0, .ref a4, .int 0, .null, .int 0, .null, .long 0, .int 0, .null])), (a4, .inl (z.2 0, 0, .inl (fun _ => 0)))] := hD
  refine W.eq (g2 := F0 m 17 ls [.int 0]) rfl ?_
  refine lv_if_eq (tgt := 29) hx hb d_14_54_17 (by decide) (fun _ => ?_) (fun c9 => absurd (by decide +kernel) c9)
  refine lv_iconst (v := (-1)) hx hb d_14_54_29 (by decide +kernel) ?_
  refine W.widen (k := 0) (n := 0) (Nat.le_of_ble_eq_true rfl) (Nat.le_of_ble_eq_true rfl) ?_
  exact W.iret hx hb hr (fun t ht hW => qk hP hD hS [0, 1] rfl ((fun k => k), (fun _ _ => none)) rfl rfl rfl ht) hS.2.2 d_14_54_30
set_option maxRecDepth 100000 in
set_option maxHeartbeats 4000000 in
theorem c267_B_outputByte (l : Launch) (z : Zz) (a0 a1 a2 a3 a4 a5 a6 a7 a8 a9 a10 a11 : Nat) (x0 : Int32) (h0 : ¬ x0 < 0) : CT l z ⟨"Ballothall", "outputByte", "(I)I"⟩ prog_1_method_23_code 2 (some .int) [.ref a0, .int x0] [(a0, .inr (11, [.ref a1, .ref a2, .ref a3, .ref a4, .ref a5, .ref a6, .ref a7, .ref a8, .ref a9, .ref a10, .int 0, .int 0, .ref a11, .int 0]))] 0 0 0 0 (fun u => some (.int (-1))) (fun u => [(a0, .inr (11, [.ref a1, .ref a2, .ref a3, .ref a4, .ref a5, .ref a6, .ref a7, .ref a8, .ref a9, .ref a10, .int 0, .int 0, .ref a11, .int 0]))]) := by
  refine CT.of (own := "Ballothall") (by decide +kernel) (Nat.le_of_ble_eq_true rfl) rfl (fun p e s m below meth c A ls hx hb hml hr hts hown hlocks hin hA hG hZ hP hD hS hl => ?_)
  have hl : lv_has ls 2 [(0, .ref a0), (1, .int x0)] := hl
  refine lv_iload_n hx hb d_1_23_0 rfl (lv_at hl 1 rfl) ?_
  refine lv_if_lt (tgt := 12) hx hb d_1_23_1 (by decide) (fun c9 => absurd c9 h0) (fun _ => ?_)
  refine lv_iload_n hx hb d_1_23_4 rfl (lv_at hl 1 rfl) ?_
  refine lv_aload_n hx hb d_1_23_5 rfl (lv_at hl 0 rfl) ?_
  refine va_get (D := z.1) (ci := 11) (v := .int 0) (C := "Ballothall") (T := TX11) (N := 14) hx hb hts iX11 hown hG.1 hP 0 rfl rfl 13 (by decide) (hts _ w_419) (fun _ h9 => h9) rfl d_1_23_6 ?_
  refine lv_icmp_lt (tgt := 16) hx hb d_1_23_9 (by decide) (fun c9 => absurd c9 h0) (fun _ => ?_)
  refine lv_iconst (v := (-1)) hx hb d_1_23_12 (by decide +kernel) ?_
  refine lv_goto (tgt := 22) hx hb d_1_23_13 (by decide) ?_
  refine W.widen (k := 0) (n := 0) (Nat.le_of_ble_eq_true rfl) (Nat.le_of_ble_eq_true rfl) ?_
  exact W.iret hx hb hr (fun t ht hW => qk hP hD hS [0] rfl ((fun k => k), (fun _ _ => none)) rfl rfl rfl ht) hS.2.2 d_1_23_22
set_option maxRecDepth 100000 in
set_option maxHeartbeats 4000000 in
theorem c268_BModel_outputByte (l : Launch) (z : Zz) (a0 a1 a2 a3 a4 : Nat) (x0 : Int32) (h0 : ¬ x0 < 0) (h1 : (-1) < x0) : CT l z ⟨"BallothallModel", "outputByte", "(I)I"⟩ prog_14_method_54_code 2 (some .int) [.ref a0, .int x0] [(a0, .inr (18, [.ref a1, .ref a2, .int 0, .ref a3, .int 0, .ref a4, .int 0, .null, .int 0, .null, .long 0, .int 0, .null])), (a4, .inl (z.2 0, 0, .inl (fun _ => 0)))] 1 30 0 0 (fun u => some (.int (-1))) (fun u => [(a0, .inr (18, [.ref a1, .ref a2, .int 0, .ref a3, .int 0, .ref a4, .int 0, .null, .int 0, .null, .long 0, .int 0, .null])), (a4, .inl (z.2 0, 0, .inl (fun _ => 0)))]) := by
  refine CT.of (own := "BallothallModel") (by decide +kernel) (Nat.le_of_ble_eq_true rfl) rfl (fun p e s m below meth c A ls hx hb hml hr hts hown hlocks hin hA hG hZ hP hD hS hl => ?_)
  have hl : lv_has ls 2 [(0, .ref a0), (1, .int x0)] := hl
  refine lv_aload_n hx hb d_14_54_0 rfl (lv_at hl 0 rfl) ?_
  refine lv_iconst (v := 0) hx hb d_14_54_1 (by decide +kernel) ?_
  refine va_put (D := z.1) (ci := 18) (v := .int 0) (ty := .int) (C := "BallothallModel") (T := TX18) (N := 13) hx hb hts iX18 tyX18 tyX18_ok nmX18 hown hG.1 hP hD hS 0 rfl rfl 6 (by decide) (hts _ w_1651) (fun _ h9 => h9) rfl (by decide +kernel) rfl rfl (Nat.le_of_ble_eq_true rfl) d_14_54_2 (fun H locs hP hD hS => ?_)
  have hP : va_P z.1 classes [(a0, .inr (18, [.ref a1, .ref a2, .int 0, .ref a3, .int 0, .ref a4, .int 0, .null, .int 0, .null, .long 0, .int 0, .null])), (a4, .inl (z.2 0, 0, .inl (fun _ => 0)))] H := hP
  have hD : va_D A [(a0, .inr (18, [.ref a1, .ref a2, .int 0, .ref a3, .int 0, .ref a4, .int 0, .null, .int 0, .null, .long 0, .int 0, .null])), (a4, .inl (z.2 0, 0, .inl (fun _ => 0)))] := hD
  refine lv_iload_n hx hb d_14_54_5 rfl (lv_at hl 1 rfl) ?_
  refine lv_iconst (v := 0) hx hb d_14_54_6 (by decide +kernel) ?_
  refine lv_aload_n hx hb d_14_54_7 rfl (lv_at hl 0 rfl) ?_
  refine va_get (D := z.1) (ci := 18) (v := .ref a4) (C := "BallothallModel") (T := TX18) (N := 13) hx hb hts iX18 hown hG.1 hP 0 rfl rfl 5 (by decide) (hts _ w_1650) (fun _ h9 => h9) rfl d_14_54_8 ?_
  refine va_alen (v := 0) hx hb hG.1 hP 1 0 rfl rfl rfl d_14_54_11 ?_
  refine lv_iconst (v := 1) hx hb d_14_54_12 (by decide +kernel) ?_
  refine lv_isub hx hb d_14_54_13 ?_
  refine nrm (x1 := (-1)) (by decide +kernel) ?_
  refine kS (As := [.int x0, .int 0, .int (-1)]) (rest := []) (wr := [(a0, .inr (18, [.ref a1, .ref a2, .int 0, .ref a3, .int 0, .ref a4, .int 0, .null, .int 0, .null, .long 0, .int 0, .null])), (a4, .inl (z.2 0, 0, .inl (fun _ => 0)))]) (c37_BModel_isIn l z x0 h0 h1) hx hb hml hown hts w_1718 w_1716 w_1717 w_12 md_bca45c ⟨Nat.le_of_ble_eq_true rfl, Nat.le_of_ble_eq_true rfl⟩ hG hZ hP hD hS hA [] [0, 1] rfl rfl rfl rfl rfl hl.1 rfl (Nat.le_of_ble_eq_true rfl) d_14_54_14 ⟨Nat.le_of_ble_eq_true rfl, Nat.le_of_ble_eq_true rfl⟩ (fun u0 H locs hP hD hS => ?_)
  have hP : va_P z.1 classes [(a0, .inr (18, [.ref a1, .ref a2, .int 0, .ref a3, .int 0, .ref a4, .int 0, .null, .int 0, .null, .long 0, .int 0, .null])), (a4, .inl (z.2 0, 0, .inl (fun _ => 0)))] H := hP
  have hD : va_D A [(a0, .inr (18, [.ref a1, .ref a2, .int 0, .ref a3, .int 0, .ref a4, .int 0, .null, .int 0, .null, .long 0, .int 0, .null])), (a4, .inl (z.2 0, 0, .inl (fun _ => 0)))] := hD
  refine W.eq (g2 := F0 m 17 ls [.int 0]) rfl ?_
  refine lv_if_eq (tgt := 29) hx hb d_14_54_17 (by decide) (fun _ => ?_) (fun c9 => absurd (by decide +kernel) c9)
  refine lv_iconst (v := (-1)) hx hb d_14_54_29 (by decide +kernel) ?_
  refine W.widen (k := 0) (n := 0) (Nat.le_of_ble_eq_true rfl) (Nat.le_of_ble_eq_true rfl) ?_
  exact W.iret hx hb hr (fun t ht hW => qk hP hD hS [0, 1] rfl ((fun k => k), (fun _ _ => none)) rfl rfl rfl ht) hS.2.2 d_14_54_30
set_option maxRecDepth 100000 in
set_option maxHeartbeats 4000000 in
theorem c269_BallotBox_everybody (l : Launch) (z : Zz) (a0 a1 a2 a3 a4 a5 a6 a7 : Nat) : CT l z ⟨"Ballothall$BallotBox", "everybody", "()I"⟩ prog_2_method_2_code 1 (some .int) [.ref a0] [(a0, .inr (0, [.ref a1, .int 0, .int 0, .int 0, .ref a2, .ref a3, .ref a4, .ref a5, .ref a6, .ref a7]))] 0 0 0 0 (fun u => some (.int 0)) (fun u => [(a0, .inr (0, [.ref a1, .int 0, .int 0, .int 0, .ref a2, .ref a3, .ref a4, .ref a5, .ref a6, .ref a7]))]) := by
  refine CT.of (own := "Ballothall$BallotBox") (by decide +kernel) (Nat.le_of_ble_eq_true rfl) rfl (fun p e s m below meth c A ls hx hb hml hr hts hown hlocks hin hA hG hZ hP hD hS hl => ?_)
  have hl : lv_has ls 1 [(0, .ref a0)] := hl
  refine lv_iconst (v := 1) hx hb d_2_2_0 (by decide +kernel) ?_
  refine lv_aload_n hx hb d_2_2_1 rfl (lv_at hl 0 rfl) ?_
  refine va_get (D := z.1) (ci := 0) (v := .int 0) (C := "Ballothall$BallotBox") (T := TX0) (N := 10) hx hb hts iX0 hown hG.1 hP 0 rfl rfl 2 (by decide) (hts _ w_56) (fun _ h9 => h9) rfl d_2_2_2 ?_
  refine lv_ishl hx hb d_2_2_5 ?_
  refine nrm (x1 := 1) (by decide +kernel) ?_
  refine lv_iconst (v := 1) hx hb d_2_2_6 (by decide +kernel) ?_
  refine lv_isub hx hb d_2_2_7 ?_
  refine nrm (x1 := 0) (by decide +kernel) ?_
  refine W.widen (k := 0) (n := 0) (Nat.le_of_ble_eq_true rfl) (Nat.le_of_ble_eq_true rfl) ?_
  exact W.iret hx hb hr (fun t ht hW => qk hP hD hS [0] rfl ((fun k => k), (fun _ _ => none)) rfl rfl rfl ht) hS.2.2 d_2_2_8
set_option maxRecDepth 100000 in
set_option maxHeartbeats 4000000 in
theorem c270_B_needRange (l : Launch) (z : Zz) (hl0 : l.stackTraces = false) (x0 : Int32) (h0 : x0 < 1) : XT l z ⟨"Ballothall", "needRange", "(III)V"⟩ prog_1_method_57_code 3 none [.int x0, .int 1, .int 0] [] 6 98 1 6 "java/lang/IllegalArgumentException" := by
  refine XT.of (own := "Ballothall") (by decide +kernel) (Nat.le_of_ble_eq_true rfl) rfl (fun p e s m below meth c A ls hx hb hml hr hts hown hlocks hin hA hG hZ hP hD hS hl hnt => ?_)
  have hl : lv_has ls 3 [(0, .int x0), (1, .int 1), (2, .int 0)] := hl
  refine lv_iload_n hx hb d_1_57_0 rfl (lv_at hl 0 rfl) ?_
  refine lv_iload_n hx hb d_1_57_1 rfl (lv_at hl 1 rfl) ?_
  refine lv_icmp_lt (tgt := 10) hx hb d_1_57_2 (by decide) (fun _ => ?_) (fun c9 => absurd h0 c9)
  exact x_newW (text := "out of range") hl0 hx hb hml hown hts hlocks hnt hG hZ hS hl.1 (by decide +kernel) w_877 w_21 (by decide) xa_310_a xa_310_b d_1_57_10 d_1_57_13 d_1_57_14 d_1_57_17 d_1_57_20 ⟨Nat.le_of_ble_eq_true rfl, Nat.le_of_ble_eq_true rfl, Nat.le_of_ble_eq_true rfl, Nat.le_of_ble_eq_true rfl⟩ (Nat.le_of_ble_eq_true rfl) (Nat.le_of_ble_eq_true rfl) (Nat.le_of_ble_eq_true rfl)
set_option maxRecDepth 100000 in
set_option maxHeartbeats 4000000 in
theorem c271_B_solidQuotas (l : Launch) (z : Zz) (hl0 : l.stackTraces = false) (a0 a1 a2 a3 a4 a5 a6 a7 a8 a9 a10 a11 a12 a13 a14 a15 a16 a17 a18 : Nat) (x0 : Int32) (h0 : x0 < 1) : XT l z ⟨"Ballothall", "solidQuotas", "(I)I"⟩ prog_1_method_24_code 3 (some .int) [.ref a0, .int x0] [(a0, .inr (11, [.ref a1, .ref a2, .ref a3, .ref a4, .ref a5, .ref a6, .ref a7, .ref a8, .ref a9, .ref a10, .int 0, .int 0, .ref a11, .int 0])), (a1, .inr (0, [.ref a12, .int 0, .int 0, .int 0, .ref a13, .ref a14, .ref a15, .ref a16, .ref a17, .ref a18]))] 7 128 1 6 "java/lang/IllegalArgumentException" := by
  refine XT.of (own := "Ballothall") (by decide +kernel) (Nat.le_of_ble_eq_true rfl) rfl (fun p e s m below meth c A ls hx hb hml hr hts hown hlocks hin hA hG hZ hP hD hS hl hnt => ?_)
  have hl : lv_has ls 3 [(0, .ref a0), (1, .int x0)] := hl
  refine lv_iload_n hx hb d_1_24_0 rfl (lv_at hl 1 rfl) ?_
  refine lv_iconst (v := 1) hx hb d_1_24_1 (by decide +kernel) ?_
  refine lv_aload_n hx hb d_1_24_2 rfl (lv_at hl 0 rfl) ?_
  refine va_get (D := z.1) (ci := 11) (v := .ref a1) (C := "Ballothall") (T := TX11) (N := 14) hx hb hts iX11 hown hG.1 hP 0 rfl rfl 0 (by decide) (hts _ w_406) (fun _ h9 => h9) rfl d_1_24_3 ?_
  refine kVN (As := []) (rest := [.int 1, .int x0]) (wr := [(a0, .inr (11, [.ref a1, .ref a2, .ref a3, .ref a4, .ref a5, .ref a6, .ref a7, .ref a8, .ref a9, .ref a10, .int 0, .int 0, .ref a11, .int 0]))]) (c269_BallotBox_everybody l z a1 a12 a13 a14 a15 a16 a17 a18) hx hb hml hown hts w_480 n_477 w_479 w_s_8b8b67 w_2 md_b59579 ⟨Nat.le_of_ble_eq_true rfl, Nat.le_of_ble_eq_true rfl⟩ hG hZ hP hD hS hA 1 rfl rfl rfl [1] [0] rfl rfl rfl rfl rfl hl.1 rfl (Nat.le_of_ble_eq_true rfl) d_1_24_6 ⟨Nat.le_of_ble_eq_true rfl, Nat.le_of_ble_eq_true rfl⟩ (fun u0 H locs hP hD hS => ?_)
  have hP : va_P z.1 classes [(a0, .inr (11, [.ref a1, .ref a2, .ref a3, .ref a4, .ref a5, .ref a6, .ref a7, .ref a8, .ref a9, .ref a10, .int 0, .int 0, .ref a11, .int 0])), (a1, .inr (0, [.ref a12, .int 0, .int 0, .int 0, .ref a13, .ref a14, .ref a15, .ref a16, .ref a17, .ref a18]))] H := hP
  have hD : va_D A [(a0, .inr (11, [.ref a1, .ref a2, .ref a3, .ref a4, .ref a5, .ref a6, .ref a7, .ref a8, .ref a9, .ref a10, .int 0, .int 0, .ref a11, .int 0])), (a1, .inr (0, [.ref a12, .int 0, .int 0, .int 0, .ref a13, .ref a14, .ref a15, .ref a16, .ref a17, .ref a18]))] := hD
  refine W.eq (g2 := F0 m 9 ls [.int 0, .int 1, .int x0]) rfl ?_
  exact xS (As := [.int x0, .int 1, .int 0]) (rest := []) (wr := [(a0, .inr (11, [.ref a1, .ref a2, .ref a3, .ref a4, .ref a5, .ref a6, .ref a7, .ref a8, .ref a9, .ref a10, .int 0, .int 0, .ref a11, .int 0])), (a1, .inr (0, [.ref a12, .int 0, .int 0, .int 0, .ref a13, .ref a14, .ref a15, .ref a16, .ref a17, .ref a18]))]) (c270_B_needRange l z hl0 x0 h0) hx hb hml hown hts w_876 w_874 w_875 w_1 md_519134 ⟨Nat.le_of_ble_eq_true rfl, Nat.le_of_ble_eq_true rfl⟩ hG hZ hP hD hS hA [] [0, 1] rfl rfl rfl rfl rfl hl.1 rfl (Nat.le_of_ble_eq_true rfl) d_1_24_9 ⟨Nat.le_of_ble_eq_true rfl, Nat.le_of_ble_eq_true rfl⟩ (fun q9 ce9 H locs hP hD hS h7 h8 h9 => x_out hnt hlocks hS h7 h8 h9 (Nat.le_of_ble_eq_true rfl) (Nat.le_of_ble_eq_true rfl))
set_option maxRecDepth 100000 in
set_option maxHeartbeats 4000000 in
theorem c272_BLaw_solidQuotas (l : Launch) (z : Zz) (hl0 : l.stackTraces = false) (a0 a1 a2 a3 a4 a5 a6 a7 a8 a9 a10 a11 a12 a13 a14 a15 a16 a17 a18 a19 : Nat) (x0 : Int32) (h0 : x0 < 1) : HT l z ⟨"BallothallLaw", "solidQuotas", "(LBallothall;I[J)I"⟩ method_21_code 4 (some .int) [(0, 9, 12, 21), (0, 9, 15, 13)] [.ref a0, .int x0, .ref a1] [(a0, .inr (11, [.ref a2, .ref a3, .ref a4, .ref a5, .ref a6, .ref a7, .ref a8, .ref a9, .ref a10, .ref a11, .int 0, .int 0, .ref a12, .int 0])), (a2, .inr (0, [.ref a13, .int 0, .int 0, .int 0, .ref a14, .ref a15, .ref a16, .ref a17, .ref a18, .ref a19]))] 8 158 1 6 (fun u => some (.int 1)) (fun u => []) := by
  refine HT.of (own := "BallothallLaw") (by decide +kernel) (Nat.le_of_ble_eq_true rfl) rfl (fun p e s m below meth c A ls hx hb hml hr hts hown hlocks hin hA hG hZ hP hD hS hl htab => ?_)
  have hl : lv_has ls 4 [(0, .ref a0), (1, .int x0), (2, .ref a1)] := hl
  refine lv_aload_n hx hb d_L21_0 rfl (lv_at hl 2 rfl) ?_
  refine lv_iconst (v := 0) hx hb d_L21_1 (by decide +kernel) ?_
  refine lv_aload_n hx hb d_L21_2 rfl (lv_at hl 0 rfl) ?_
  refine lv_iload_n hx hb d_L21_3 rfl (lv_at hl 1 rfl) ?_
  refine xV (As := [.int x0]) (rest := [.int 0, .ref a1]) (wr := []) (c271_B_solidQuotas l z hl0 a0 a2 a3 a4 a5 a6 a7 a8 a9 a10 a11 a12 a13 a14 a15 a16 a17 a18 a19 x0 h0) hx hb hml hown hts w_1319 w_1316 w_1317 w_1318 w_1 md_16e5ac ⟨Nat.le_of_ble_eq_true rfl, Nat.le_of_ble_eq_true rfl⟩ hG hZ hP hD hS hA 0 rfl rfl rfl [0, 1] [] rfl rfl rfl rfl rfl hl.1 rfl (Nat.le_of_ble_eq_true rfl) d_L21_4 ⟨Nat.le_of_ble_eq_true rfl, Nat.le_of_ble_eq_true rfl⟩ (fun q0 ce9 H locs hP hD hS h7 h8 h9 => ?_)
  have hP : va_P z.1 classes [] H := hP
  have hD : va_D A [] := hD
  refine vx_catch hown [] ⟨0, 9, 12, 21⟩ [⟨0, 9, 15, 13⟩] (htab.trans rfl) (fun _ h9 => absurd h9 List.not_mem_nil) rfl (by decide) (hts _ w_850) (va_Nw.use rfl (hG.2.1 _ n_879 rfl)) h7 h8 h9 ?_
  refine lv_astore_n (lv' := [(3, .ref q0), (0, .ref a0), (1, .int x0), (2, .ref a1)]) hx hb d_L21_12 rfl hl (by decide) rfl (fun ls hl => ?_)
  refine lv_iconst (v := 1) hx hb d_L21_13 (by decide +kernel) ?_
  refine W.widen (k := 1) (n := 6) (Nat.le_of_ble_eq_true rfl) (Nat.le_of_ble_eq_true rfl) ?_
  refine vx_ret ?_
  exact W.iret hx hb hr (fun t ht hW => qk hP hD hS [] rfl ((fun k => k), (fun _ _ => none)) rfl rfl rfl ht) hS.2.2 d_L21_14
set_option maxRecDepth 100000 in
set_option maxHeartbeats 4000000 in
theorem c273_BModel_solidQuotas (l : Launch) (z : Zz) (a0 a1 a2 a3 a4 : Nat) (x0 : Int32) (h0 : ¬ 0 < x0) : CT l z ⟨"BallothallModel", "solidQuotas", "(I)I"⟩ prog_14_method_56_code 2 (some .int) [.ref a0, .int x0] [(a0, .inr (18, [.ref a1, .ref a2, .int 0, .ref a3, .int 0, .ref a4, .int 0, .null, .int 0, .null, .long 0, .int 0, .null]))] 1 30 0 0 (fun u => some (.int 0)) (fun u => [(a0, .inr (18, [.ref a1, .ref a2, .int 0, .ref a3, .int 0, .ref a4, .int 1, .null, .int 0, .null, .long 0, .int 0, .null]))]) := by
  refine CT.of (own := "BallothallModel") (by decide +kernel) (Nat.le_of_ble_eq_true rfl) rfl (fun p e s m below meth c A ls hx hb hml hr hts hown hlocks hin hA hG hZ hP hD hS hl => ?_)
  have hl : lv_has ls 2 [(0, .ref a0), (1, .int x0)] := hl
  refine lv_aload_n hx hb d_14_56_0 rfl (lv_at hl 0 rfl) ?_
  refine lv_iload_n hx hb d_14_56_1 rfl (lv_at hl 1 rfl) ?_
  refine lv_if_le (tgt := 17) hx hb d_14_56_2 (by decide) (fun _ => ?_) (fun c9 => absurd (Int32.not_lt.mp h0) c9)
  refine lv_iconst (v := 0) hx hb d_14_56_17 (by decide +kernel) ?_
  refine lv_iconst (v := 1) hx hb d_14_56_18 (by decide +kernel) ?_
  refine kV (As := [.int 0, .int 1]) (rest := []) (wr := []) (c31_BModel_ends l z a0 a1 a2 a3 a4) hx hb hml hown hts w_1696 w_1693 w_1695 w_s_f8f2b7 w_12 md_77b0f8 ⟨Nat.le_of_ble_eq_true rfl, Nat.le_of_ble_eq_true rfl⟩ hG hZ hP hD hS hA 0 rfl rfl rfl [0] [] rfl rfl rfl rfl rfl hl.1 rfl (Nat.le_of_ble_eq_true rfl) d_14_56_19 ⟨Nat.le_of_ble_eq_true rfl, Nat.le_of_ble_eq_true rfl⟩ (fun u0 H locs hP hD hS => ?_)
  have hP : va_P z.1 classes [(a0, .inr (18, [.ref a1, .ref a2, .int 0, .ref a3, .int 0, .ref a4, .int 1, .null, .int 0, .null, .long 0, .int 0, .null]))] H := hP
  have hD : va_D A [(a0, .inr (18, [.ref a1, .ref a2, .int 0, .ref a3, .int 0, .ref a4, .int 1, .null, .int 0, .null, .long 0, .int 0, .null]))] := hD
  refine W.eq (g2 := F0 m 22 ls [.int 1]) rfl ?_
  refine lv_if_ne (tgt := 48) hx hb d_14_56_22 (by decide) (fun _ => ?_) (fun c9 => absurd c9 (by decide +kernel))
  refine lv_iconst (v := 0) hx hb d_14_56_48 (by decide +kernel) ?_
  refine W.widen (k := 0) (n := 0) (Nat.le_of_ble_eq_true rfl) (Nat.le_of_ble_eq_true rfl) ?_
  exact W.iret hx hb hr (fun t ht hW => qk hP hD hS [0] rfl ((fun k => k), (fun _ _ => none)) rfl rfl rfl ht) hS.2.2 d_14_56_49
set_option maxRecDepth 100000 in
set_option maxHeartbeats 4000000 in
theorem c274_B_needRange (l : Launch) (z : Zz) (hl0 : l.stackTraces = false) (x0 : Int32) (h0 : ¬ x0 < 1) (h1 : 0 < x0) : XT l z ⟨"Ballothall", "needRange", "(III)V"⟩ prog_1_method_57_code 3 none [.int x0, .int 1, .int 0] [] 6 98 1 6 "java/lang/IllegalArgumentException" := by
  refine XT.of (own := "Ballothall") (by decide +kernel) (Nat.le_of_ble_eq_true rfl) rfl (fun p e s m below meth c A ls hx hb hml hr hts hown hlocks hin hA hG hZ hP hD hS hl hnt => ?_)
  have hl : lv_has ls 3 [(0, .int x0), (1, .int 1), (2, .int 0)] := hl
  refine lv_iload_n hx hb d_1_57_0 rfl (lv_at hl 0 rfl) ?_
  refine lv_iload_n hx hb d_1_57_1 rfl (lv_at hl 1 rfl) ?_
  refine lv_icmp_lt (tgt := 10) hx hb d_1_57_2 (by decide) (fun c9 => absurd c9 h0) (fun _ => ?_)
  refine lv_iload_n hx hb d_1_57_5 rfl (lv_at hl 0 rfl) ?_
  refine lv_iload_n hx hb d_1_57_6 rfl (lv_at hl 2 rfl) ?_
  refine lv_icmp_le (tgt := 21) hx hb d_1_57_7 (by decide) (fun c9 => absurd c9 (Int32.not_le.mpr h1)) (fun _ => ?_)
  exact x_newW (text := "out of range") hl0 hx hb hml hown hts hlocks hnt hG hZ hS hl.1 (by decide +kernel) w_877 w_21 (by decide) xa_310_a xa_310_b d_1_57_10 d_1_57_13 d_1_57_14 d_1_57_17 d_1_57_20 ⟨Nat.le_of_ble_eq_true rfl, Nat.le_of_ble_eq_true rfl, Nat.le_of_ble_eq_true rfl, Nat.le_of_ble_eq_true rfl⟩ (Nat.le_of_ble_eq_true rfl) (Nat.le_of_ble_eq_true rfl) (Nat.le_of_ble_eq_true rfl)
set_option maxRecDepth 100000 in
set_option maxHeartbeats 4000000 in
theorem c275_B_solidQuotas (l : Launch) (z : Zz) (hl0 : l.stackTraces = false) (a0 a1 a2 a3 a4 a5 a6 a7 a8 a9 a10 a11 a12 a13 a14 a15 a16 a17 a18 : Nat) (x0 : Int32) (h0 : ¬ x0 < 1) (h1 : 0 < x0) : XT l z ⟨"Ballothall", "solidQuotas", "(I)I"⟩ prog_1_method_24_code 3 (some .int) [.ref a0, .int x0] [(a0, .inr (11, [.ref a1, .ref a2, .ref a3, .ref a4, .ref a5, .ref a6, .ref a7, .ref a8, .ref a9, .ref a10, .int 0, .int 0, .ref a11, .int 0])), (a1, .inr (0, [.ref a12, .int 0, .int 0, .int 0, .ref a13, .ref a14, .ref a15, .ref a16, .ref a17, .ref a18]))] 7 128 1 6 "java/lang/IllegalArgumentException" := by
  refine XT.of (own := "Ballothall") (by decide +kernel) (Nat.le_of_ble_eq_true rfl) rfl (fun p e s m below meth c A ls hx hb hml hr hts hown hlocks hin hA hG hZ hP hD hS hl hnt => ?_)
  have hl : lv_has ls 3 [(0, .ref a0), (1, .int x0)] := hl
  refine lv_iload_n hx hb d_1_24_0 rfl (lv_at hl 1 rfl) ?_
  refine lv_iconst (v := 1) hx hb d_1_24_1 (by decide +kernel) ?_
  refine lv_aload_n hx hb d_1_24_2 rfl (lv_at hl 0 rfl) ?_
  refine va_get (D := z.1) (ci := 11) (v := .ref a1) (C := "Ballothall") (T := TX11) (N := 14) hx hb hts iX11 hown hG.1 hP 0 rfl rfl 0 (by decide) (hts _ w_406) (fun _ h9 => h9) rfl d_1_24_3 ?_
  refine kVN (As := []) (rest := [.int 1, .int x0]) (wr := [(a0, .inr (11, [.ref a1, .ref a2, .ref a3, .ref a4, .ref a5, .ref a6, .ref a7, .ref a8, .ref a9, .ref a10, .int 0, .int 0, .ref a11, .int 0]))]) (c269_BallotBox_everybody l z a1 a12 a13 a14 a15 a16 a17 a18) hx hb hml hown hts w_480 n_477 w_479 w_s_8b8b67 w_2 md_b59579 ⟨Nat.le_of_ble_eq_true rfl, Nat.le_of_ble_eq_true rfl⟩ hG hZ hP hD hS hA 1 rfl rfl rfl [1] [0] rfl rfl rfl rfl rfl hl.1 rfl (Nat.le_of_ble_eq_true rfl) d_1_24_6 ⟨Nat.le_of_ble_eq_true rfl, Nat.le_of_ble_eq_true rfl⟩ (fun u0 H locs hP hD hS => ?_)
  have hP : va_P z.1 classes [(a0, .inr (11, [.ref a1, .ref a2, .ref a3, .ref a4, .ref a5, .ref a6, .ref a7, .ref a8, .ref a9, .ref a10, .int 0, .int 0, .ref a11, .int 0])), (a1, .inr (0, [.ref a12, .int 0, .int 0, .int 0, .ref a13, .ref a14, .ref a15, .ref a16, .ref a17, .ref a18]))] H := hP
  have hD : va_D A [(a0, .inr (11, [.ref a1, .ref a2, .ref a3, .ref a4, .ref a5, .ref a6, .ref a7, .ref a8, .ref a9, .ref a10, .int 0, .int 0, .ref a11, .int 0])), (a1, .inr (0, [.ref a12, .int 0, .int 0, .int 0, .ref a13, .ref a14, .ref a15, .ref a16, .ref a17, .ref a18]))] := hD
  refine W.eq (g2 := F0 m 9 ls [.int 0, .int 1, .int x0]) rfl ?_
  exact xS (As := [.int x0, .int 1, .int 0]) (rest := []) (wr := [(a0, .inr (11, [.ref a1, .ref a2, .ref a3, .ref a4, .ref a5, .ref a6, .ref a7, .ref a8, .ref a9, .ref a10, .int 0, .int 0, .ref a11, .int 0])), (a1, .inr (0, [.ref a12, .int 0, .int 0, .int 0, .ref a13, .ref a14, .ref a15, .ref a16, .ref a17, .ref a18]))]) (c274_B_needRange l z hl0 x0 h0 h1) hx hb hml hown hts w_876 w_874 w_875 w_1 md_519134 ⟨Nat.le_of_ble_eq_true rfl, Nat.le_of_ble_eq_true rfl⟩ hG hZ hP hD hS hA [] [0, 1] rfl rfl rfl rfl rfl hl.1 rfl (Nat.le_of_ble_eq_true rfl) d_1_24_9 ⟨Nat.le_of_ble_eq_true rfl, Nat.le_of_ble_eq_true rfl⟩ (fun q9 ce9 H locs hP hD hS h7 h8 h9 => x_out hnt hlocks hS h7 h8 h9 (Nat.le_of_ble_eq_true rfl) (Nat.le_of_ble_eq_true rfl))
set_option maxRecDepth 100000 in
set_option maxHeartbeats 4000000 in
theorem c276_BLaw_solidQuotas (l : Launch) (z : Zz) (hl0 : l.stackTraces = false) (a0 a1 a2 a3 a4 a5 a6 a7 a8 a9 a10 a11 a12 a13 a14 a15 a16 a17 a18 a19 : Nat) (x0 : Int32) (h0 : ¬ x0 < 1) (h1 : 0 < x0) : HT l z ⟨"BallothallLaw", "solidQuotas", "(LBallothall;I[J)I"⟩ method_21_code 4 (some .int) [(0, 9, 12, 21), (0, 9, 15, 13)] [.ref a0, .int x0, .ref a1] [(a0, .inr (11, [.ref a2, .ref a3, .ref a4, .ref a5, .ref a6, .ref a7, .ref a8, .ref a9, .ref a10, .ref a11, .int 0, .int 0, .ref a12, .int 0])), (a2, .inr (0, [.ref a13, .int 0, .int 0, .int 0, .ref a14, .ref a15, .ref a16, .ref a17, .ref a18, .ref a19]))] 8 158 1 6 (fun u => some (.int 1)) (fun u => []) := by
  refine HT.of (own := "BallothallLaw") (by decide +kernel) (Nat.le_of_ble_eq_true rfl) rfl (fun p e s m below meth c A ls hx hb hml hr hts hown hlocks hin hA hG hZ hP hD hS hl htab => ?_)
  have hl : lv_has ls 4 [(0, .ref a0), (1, .int x0), (2, .ref a1)] := hl
  refine lv_aload_n hx hb d_L21_0 rfl (lv_at hl 2 rfl) ?_
  refine lv_iconst (v := 0) hx hb d_L21_1 (by decide +kernel) ?_
  refine lv_aload_n hx hb d_L21_2 rfl (lv_at hl 0 rfl) ?_
  refine lv_iload_n hx hb d_L21_3 rfl (lv_at hl 1 rfl) ?_
  refine xV (As := [.int x0]) (rest := [.int 0, .ref a1]) (wr := []) (c275_B_solidQuotas l z hl0 a0 a2 a3 a4 a5 a6 a7 a8 a9 a10 a11 a12 a13 a14 a15 a16 a17 a18 a19 x0 h0 h1) hx hb hml hown hts w_1319 w_1316 w_1317 w_1318 w_1 md_16e5ac ⟨Nat.le_of_ble_eq_true rfl, Nat.le_of_ble_eq_true rfl⟩ hG hZ hP hD hS hA 0 rfl rfl rfl [0, 1] [] rfl rfl rfl rfl rfl hl.1 rfl (Nat.le_of_ble_eq_true rfl) d_L21_4 ⟨Nat.le_of_ble_eq_true rfl, Nat.le_of_ble_eq_true rfl⟩ (fun q0 ce9 H locs hP hD hS h7 h8 h9 => ?_)
  have hP : va_P z.1 classes [] H := hP
  have hD : va_D A [] := hD
  refine vx_catch hown [] ⟨0, 9, 12, 21⟩ [⟨0, 9, 15, 13⟩] (htab.trans rfl) (fun _ h9 => absurd h9 List.not_mem_nil) rfl (by decide) (hts _ w_850) (va_Nw.use rfl (hG.2.1 _ n_879 rfl)) h7 h8 h9 ?_
  refine lv_astore_n (lv' := [(3, .ref q0), (0, .ref a0), (1, .int x0), (2, .ref a1)]) hx hb d_L21_12 rfl hl (by decide) rfl (fun ls hl => ?_)
  refine lv_iconst (v := 1) hx hb d_L21_13 (by decide +kernel) ?_
  refine W.widen (k := 1) (n := 6) (Nat.le_of_ble_eq_true rfl) (Nat.le_of_ble_eq_true rfl) ?_
  refine vx_ret ?_
  exact W.iret hx hb hr (fun t ht hW => qk hP hD hS [] rfl ((fun k => k), (fun _ _ => none)) rfl rfl rfl ht) hS.2.2 d_L21_14
set_option maxRecDepth 100000 in
set_option maxHeartbeats 4000000 in
theorem c277_BModel_everybody (l : Launch) (z : Zz) (a0 a1 a2 a3 a4 a5 a6 a7 a8 a9 a10 a11 a12 a13 : Nat) : CT l z ⟨"BallothallModel", "everybody", "()I"⟩ prog_14_method_24_code 1 (some .int) [.ref a0] [(a0, .inr (18, [.ref a1, .ref a2, .int 0, .ref a3, .int 0, .ref a4, .int 0, .null, .int 0, .null, .long 0, .int 0, .null])), (a1, .inr (17, [.int 0, .ref a5, .ref a6, .int 0, .ref a7, .ref a8, .ref a9, .null, .null, .int 0, .ref a10, .ref a11, .ref a12, .int 0, .ref a13, .int 1]))] 0 0 0 0 (fun u => some (.int 0)) (fun u => [(a0, .inr (18, [.ref a1, .ref a2, .int 0, .ref a3, .int 0, .ref a4, .int 0, .null, .int 0, .null, .long 0, .int 0, .null])), (a1, .inr (17, [.int 0, .ref a5, .ref a6, .int 0, .ref a7, .ref a8, .ref a9, .null, .null, .int 0, .ref a10, .ref a11, .ref a12, .int 0, .ref a13, .int 1]))]) := by
  refine CT.of (own := "BallothallModel") (by decide +kernel) (Nat.le_of_ble_eq_true rfl) rfl (fun p e s m below meth c A ls hx hb hml hr hts hown hlocks hin hA hG hZ hP hD hS hl => ?_)
  have hl : lv_has ls 1 [(0, .ref a0)] := hl
  refine lv_iconst (v := 1) hx hb d_14_24_0 (by decide +kernel) ?_
  refine lv_aload_n hx hb d_14_24_1 rfl (lv_at hl 0 rfl) ?_
  refine va_get (D := z.1) (ci := 18) (v := .ref a1) (C := "BallothallModel") (T := TX18) (N := 13) hx hb hts iX18 hown hG.1 hP 0 rfl rfl 0 (by decide) (hts _ w_1645) (fun _ h9 => h9) rfl d_14_24_2 ?_
  refine va_getN (D := z.1) (ci := 17) (v := .int 0) (C := "BallothallModel$State") (T := TX17) (N := 16) hx hb hts iX17 hown hG.1 hP 1 rfl rfl 0 (by decide) (va_Nw.use rfl (hG.2.1 _ n_1580 rfl)) (fun _ h9 => h9) rfl d_14_24_5 ?_
  refine lv_ishl hx hb d_14_24_8 ?_
  refine nrm (x1 := 1) (by decide +kernel) ?_
  refine lv_iconst (v := 1) hx hb d_14_24_9 (by decide +kernel) ?_
  refine lv_isub hx hb d_14_24_10 ?_
  refine nrm (x1 := 0) (by decide +kernel) ?_
  refine W.widen (k := 0) (n := 0) (Nat.le_of_ble_eq_true rfl) (Nat.le_of_ble_eq_true rfl) ?_
  exact W.iret hx hb hr (fun t ht hW => qk hP hD hS [0, 1] rfl ((fun k => k), (fun _ _ => none)) rfl rfl rfl ht) hS.2.2 d_14_24_11
set_option maxRecDepth 100000 in
set_option maxHeartbeats 4000000 in
theorem c278_BModel_solidQuotas (l : Launch) (z : Zz) (a0 a1 a2 a3 a4 a5 a6 a7 a8 a9 a10 a11 a12 a13 : Nat) (x0 : Int32) (h0 : 0 < x0) : CT l z ⟨"BallothallModel", "solidQuotas", "(I)I"⟩ prog_14_method_56_code 2 (some .int) [.ref a0, .int x0] [(a0, .inr (18, [.ref a1, .ref a2, .int 0, .ref a3, .int 0, .ref a4, .int 0, .null, .int 0, .null, .long 0, .int 0, .null])), (a1, .inr (17, [.int 0, .ref a5, .ref a6, .int 0, .ref a7, .ref a8, .ref a9, .null, .null, .int 0, .ref a10, .ref a11, .ref a12, .int 0, .ref a13, .int 1]))] 1 30 0 0 (fun u => some (.int 0)) (fun u => [(a0, .inr (18, [.ref a1, .ref a2, .int 0, .ref a3, .int 0, .ref a4, .int 1, .null, .int 0, .null, .long 0, .int 0, .null])), (a1, .inr (17, [.int 0, .ref a5, .ref a6, .int 0, .ref a7, .ref a8, .ref a9, .null, .null, .int 0, .ref a10, .ref a11, .ref a12, .int 0, .ref a13, .int 1]))]) := by
  refine CT.of (own := "BallothallModel") (by decide +kernel) (Nat.le_of_ble_eq_true rfl) rfl (fun p e s m below meth c A ls hx hb hml hr hts hown hlocks hin hA hG hZ hP hD hS hl => ?_)
  have hl : lv_has ls 2 [(0, .ref a0), (1, .int x0)] := hl
  refine lv_aload_n hx hb d_14_56_0 rfl (lv_at hl 0 rfl) ?_
  refine lv_iload_n hx hb d_14_56_1 rfl (lv_at hl 1 rfl) ?_
  refine lv_if_le (tgt := 17) hx hb d_14_56_2 (by decide) (fun c9 => absurd c9 (Int32.not_le.mpr h0)) (fun _ => ?_)
  refine lv_iload_n hx hb d_14_56_5 rfl (lv_at hl 1 rfl) ?_
  refine lv_aload_n hx hb d_14_56_6 rfl (lv_at hl 0 rfl) ?_
  refine kV (As := []) (rest := [.int x0, .ref a0]) (wr := []) (c277_BModel_everybody l z a0 a1 a2 a3 a4 a5 a6 a7 a8 a9 a10 a11 a12 a13) hx hb hml hown hts w_2233 w_2230 w_2232 w_s_4b155b w_12 md_a32d0e ⟨Nat.le_of_ble_eq_true rfl, Nat.le_of_ble_eq_true rfl⟩ hG hZ hP hD hS hA 0 rfl rfl rfl [0, 1] [] rfl rfl rfl rfl rfl hl.1 rfl (Nat.le_of_ble_eq_true rfl) d_14_56_7 ⟨Nat.le_of_ble_eq_true rfl, Nat.le_of_ble_eq_true rfl⟩ (fun u0 H locs hP hD hS => ?_)
  have hP : va_P z.1 classes [(a0, .inr (18, [.ref a1, .ref a2, .int 0, .ref a3, .int 0, .ref a4, .int 0, .null, .int 0, .null, .long 0, .int 0, .null])), (a1, .inr (17, [.int 0, .ref a5, .ref a6, .int 0, .ref a7, .ref a8, .ref a9, .null, .null, .int 0, .ref a10, .ref a11, .ref a12, .int 0, .ref a13, .int 1]))] H := hP
  have hD : va_D A [(a0, .inr (18, [.ref a1, .ref a2, .int 0, .ref a3, .int 0, .ref a4, .int 0, .null, .int 0, .null, .long 0, .int 0, .null])), (a1, .inr (17, [.int 0, .ref a5, .ref a6, .int 0, .ref a7, .ref a8, .ref a9, .null, .null, .int 0, .ref a10, .ref a11, .ref a12, .int 0, .ref a13, .int 1]))] := hD
  refine W.eq (g2 := F0 m 10 ls [.int 0, .int x0, .ref a0]) rfl ?_
  refine lv_icmp_gt (tgt := 17) hx hb d_14_56_10 (by decide) (fun _ => ?_) (fun c9 => absurd h0 c9)
  refine lv_iconst (v := 0) hx hb d_14_56_17 (by decide +kernel) ?_
  refine lv_iconst (v := 1) hx hb d_14_56_18 (by decide +kernel) ?_
  refine kV (As := [.int 0, .int 1]) (rest := []) (wr := [(a1, .inr (17, [.int 0, .ref a5, .ref a6, .int 0, .ref a7, .ref a8, .ref a9, .null, .null, .int 0, .ref a10, .ref a11, .ref a12, .int 0, .ref a13, .int 1]))]) (c31_BModel_ends l z a0 a1 a2 a3 a4) hx hb hml hown hts w_1696 w_1693 w_1695 w_s_f8f2b7 w_12 md_77b0f8 ⟨Nat.le_of_ble_eq_true rfl, Nat.le_of_ble_eq_true rfl⟩ hG hZ hP hD hS hA 0 rfl rfl rfl [0] [1] rfl rfl rfl rfl rfl hl.1 rfl (Nat.le_of_ble_eq_true rfl) d_14_56_19 ⟨Nat.le_of_ble_eq_true rfl, Nat.le_of_ble_eq_true rfl⟩ (fun u1 H locs hP hD hS => ?_)
  have hP : va_P z.1 classes [(a1, .inr (17, [.int 0, .ref a5, .ref a6, .int 0, .ref a7, .ref a8, .ref a9, .null, .null, .int 0, .ref a10, .ref a11, .ref a12, .int 0, .ref a13, .int 1])), (a0, .inr (18, [.ref a1, .ref a2, .int 0, .ref a3, .int 0, .ref a4, .int 1, .null, .int 0, .null, .long 0, .int 0, .null]))] H := hP
  have hD : va_D A [(a1, .inr (17, [.int 0, .ref a5, .ref a6, .int 0, .ref a7, .ref a8, .ref a9, .null, .null, .int 0, .ref a10, .ref a11, .ref a12, .int 0, .ref a13, .int 1])), (a0, .inr (18, [.ref a1, .ref a2, .int 0, .ref a3, .int 0, .ref a4, .int 1, .null, .int 0, .null, .long 0, .int 0, .null]))] := hD
  refine W.eq (g2 := F0 m 22 ls [.int 1]) rfl ?_
  refine lv_if_ne (tgt := 48) hx hb d_14_56_22 (by decide) (fun _ => ?_) (fun c9 => absurd c9 (by decide +kernel))
  refine lv_iconst (v := 0) hx hb d_14_56_48 (by decide +kernel) ?_
  refine W.widen (k := 0) (n := 0) (Nat.le_of_ble_eq_true rfl) (Nat.le_of_ble_eq_true rfl) ?_
  exact W.iret hx hb hr (fun t ht hW => qk hP hD hS [1, 0] rfl ((fun k => k), (fun _ _ => none)) rfl rfl rfl ht) hS.2.2 d_14_56_49
set_option maxRecDepth 100000 in
set_option maxHeartbeats 4000000 in
theorem c279_B_ahead (l : Launch) (z : Zz) (hl0 : l.stackTraces = false) (a0 a1 a2 a3 a4 a5 a6 a7 a8 a9 a10 a11 a12 a13 a14 a15 a16 a17 a18 : Nat) (x0 : Int32) (x1 : Int32) (h0 : x0 < 0) : XT l z ⟨"Ballothall", "ahead", "(II)I"⟩ prog_1_method_25_code 3 (some .int) [.ref a0, .int x0, .int x1] [(a0, .inr (11, [.ref a1, .ref a2, .ref a3, .ref a4, .ref a5, .ref a6, .ref a7, .ref a8, .ref a9, .ref a10, .int 0, .int 0, .ref a11, .int 0])), (a1, .inr (0, [.ref a12, .int 0, .int 0, .int 0, .ref a13, .ref a14, .ref a15, .ref a16, .ref a17, .ref a18]))] 7 127 1 6 "java/lang/IndexOutOfBoundsException" := by
  refine XT.of (own := "Ballothall") (by decide +kernel) (Nat.le_of_ble_eq_true rfl) rfl (fun p e s m below meth c A ls hx hb hml hr hts hown hlocks hin hA hG hZ hP hD hS hl hnt => ?_)
  have hl : lv_has ls 3 [(0, .ref a0), (1, .int x0), (2, .int x1)] := hl
  refine lv_iload_n hx hb d_1_25_0 rfl (lv_at hl 1 rfl) ?_
  refine lv_aload_n hx hb d_1_25_1 rfl (lv_at hl 0 rfl) ?_
  refine va_get (D := z.1) (ci := 11) (v := .ref a1) (C := "Ballothall") (T := TX11) (N := 14) hx hb hts iX11 hown hG.1 hP 0 rfl rfl 0 (by decide) (hts _ w_406) (fun _ h9 => h9) rfl d_1_25_2 ?_
  refine va_getN (D := z.1) (ci := 0) (v := .int 0) (C := "Ballothall$BallotBox") (T := TX0) (N := 10) hx hb hts iX0 hown hG.1 hP 1 rfl rfl 2 (by decide) (va_Nw.use rfl (hG.2.1 _ n_57 rfl)) (fun _ h9 => h9) rfl d_1_25_5 ?_
  exact xS (As := [.int x0, .int 0]) (rest := []) (wr := [(a0, .inr (11, [.ref a1, .ref a2, .ref a3, .ref a4, .ref a5, .ref a6, .ref a7, .ref a8, .ref a9, .ref a10, .int 0, .int 0, .ref a11, .int 0])), (a1, .inr (0, [.ref a12, .int 0, .int 0, .int 0, .ref a13, .ref a14, .ref a15, .ref a16, .ref a17, .ref a18]))]) (c26_B_needIndex l z hl0 x0 h0) hx hb hml hown hts w_857 w_855 w_856 w_1 md_6cb26b ⟨Nat.le_of_ble_eq_true rfl, Nat.le_of_ble_eq_true rfl⟩ hG hZ hP hD hS hA [] [0, 1] rfl rfl rfl rfl rfl hl.1 rfl (Nat.le_of_ble_eq_true rfl) d_1_25_8 ⟨Nat.le_of_ble_eq_true rfl, Nat.le_of_ble_eq_true rfl⟩ (fun q9 ce9 H locs hP hD hS h7 h8 h9 => x_out hnt hlocks hS h7 h8 h9 (Nat.le_of_ble_eq_true rfl) (Nat.le_of_ble_eq_true rfl))
set_option maxRecDepth 100000 in
set_option maxHeartbeats 4000000 in
theorem c280_BLaw_ahead (l : Launch) (z : Zz) (hl0 : l.stackTraces = false) (a0 a1 a2 a3 a4 a5 a6 a7 a8 a9 a10 a11 a12 a13 a14 a15 a16 a17 a18 a19 : Nat) (x0 : Int32) (x1 : Int32) (h0 : x0 < 0) : HT l z ⟨"BallothallLaw", "ahead", "(LBallothall;II[J)I"⟩ method_22_code 5 (some .int) [(0, 10, 13, 19)] [.ref a0, .int x0, .int x1, .ref a1] [(a0, .inr (11, [.ref a2, .ref a3, .ref a4, .ref a5, .ref a6, .ref a7, .ref a8, .ref a9, .ref a10, .ref a11, .int 0, .int 0, .ref a12, .int 0])), (a2, .inr (0, [.ref a13, .int 0, .int 0, .int 0, .ref a14, .ref a15, .ref a16, .ref a17, .ref a18, .ref a19]))] 8 157 1 6 (fun u => some (.int 1)) (fun u => []) := by
  refine HT.of (own := "BallothallLaw") (by decide +kernel) (Nat.le_of_ble_eq_true rfl) rfl (fun p e s m below meth c A ls hx hb hml hr hts hown hlocks hin hA hG hZ hP hD hS hl htab => ?_)
  have hl : lv_has ls 5 [(0, .ref a0), (1, .int x0), (2, .int x1), (3, .ref a1)] := hl
  refine lv_aload_n hx hb d_L22_0 rfl (lv_at hl 3 rfl) ?_
  refine lv_iconst (v := 0) hx hb d_L22_1 (by decide +kernel) ?_
  refine lv_aload_n hx hb d_L22_2 rfl (lv_at hl 0 rfl) ?_
  refine lv_iload_n hx hb d_L22_3 rfl (lv_at hl 1 rfl) ?_
  refine lv_iload_n hx hb d_L22_4 rfl (lv_at hl 2 rfl) ?_
  refine xV (As := [.int x0, .int x1]) (rest := [.int 0, .ref a1]) (wr := []) (c279_B_ahead l z hl0 a0 a2 a3 a4 a5 a6 a7 a8 a9 a10 a11 a12 a13 a14 a15 a16 a17 a18 a19 x0 x1 h0) hx hb hml hown hts w_1327 w_1324 w_1325 w_1326 w_1 md_c1a91d ⟨Nat.le_of_ble_eq_true rfl, Nat.le_of_ble_eq_true rfl⟩ hG hZ hP hD hS hA 0 rfl rfl rfl [0, 1] [] rfl rfl rfl rfl rfl hl.1 rfl (Nat.le_of_ble_eq_true rfl) d_L22_5 ⟨Nat.le_of_ble_eq_true rfl, Nat.le_of_ble_eq_true rfl⟩ (fun q0 ce9 H locs hP hD hS h7 h8 h9 => ?_)
  have hP : va_P z.1 classes [] H := hP
  have hD : va_D A [] := hD
  refine vx_catch hown [] ⟨0, 10, 13, 19⟩ [] (htab.trans rfl) (fun _ h9 => absurd h9 List.not_mem_nil) rfl (by decide) (hts _ w_849) (va_Nw.use rfl (hG.2.1 _ n_860 rfl)) h7 h8 h9 ?_
  refine lv_astore (lv' := [(4, .ref q0), (0, .ref a0), (1, .int x0), (2, .int x1), (3, .ref a1)]) hx hb d_L22_13 hl (by decide) rfl (fun ls hl => ?_)
  refine lv_iconst (v := 1) hx hb d_L22_15 (by decide +kernel) ?_
  refine W.widen (k := 1) (n := 6) (Nat.le_of_ble_eq_true rfl) (Nat.le_of_ble_eq_true rfl) ?_
  refine vx_ret ?_
  exact W.iret hx hb hr (fun t ht hW => qk hP hD hS [] rfl ((fun k => k), (fun _ _ => none)) rfl rfl rfl ht) hS.2.2 d_L22_16
set_option maxRecDepth 100000 in
set_option maxHeartbeats 4000000 in
theorem c281_BModel_ahead (l : Launch) (z : Zz) (a0 a1 a2 a3 a4 a5 a6 a7 a8 a9 a10 a11 a12 a13 : Nat) (x0 : Int32) (x1 : Int32) (h0 : x0 < 0) : CT l z ⟨"BallothallModel", "ahead", "(II)I"⟩ prog_14_method_57_code 3 (some .int) [.ref a0, .int x0, .int x1] [(a0, .inr (18, [.ref a1, .ref a2, .int 0, .ref a3, .int 0, .ref a4, .int 0, .null, .int 0, .null, .long 0, .int 0, .null])), (a1, .inr (17, [.int 0, .ref a5, .ref a6, .int 0, .ref a7, .ref a8, .ref a9, .null, .null, .int 0, .ref a10, .ref a11, .ref a12, .int 0, .ref a13, .int 1]))] 2 59 0 0 (fun u => some (.int 0)) (fun u => [(a0, .inr (18, [.ref a1, .ref a2, .int 0, .ref a3, .int 0, .ref a4, .int 1, .null, .int 0, .null, .long 0, .int 0, .null])), (a1, .inr (17, [.int 0, .ref a5, .ref a6, .int 0, .ref a7, .ref a8, .ref a9, .null, .null, .int 0, .ref a10, .ref a11, .ref a12, .int 0, .ref a13, .int 1]))]) := by
  refine CT.of (own := "BallothallModel") (by decide +kernel) (Nat.le_of_ble_eq_true rfl) rfl (fun p e s m below meth c A ls hx hb hml hr hts hown hlocks hin hA hG hZ hP hD hS hl => ?_)
  have hl : lv_has ls 3 [(0, .ref a0), (1, .int x0), (2, .int x1)] := hl
  refine lv_aload_n hx hb d_14_57_0 rfl (lv_at hl 0 rfl) ?_
  refine lv_aload_n hx hb d_14_57_1 rfl (lv_at hl 0 rfl) ?_
  refine lv_iload_n hx hb d_14_57_2 rfl (lv_at hl 1 rfl) ?_
  refine kV (As := [.int x0]) (rest := [.ref a0]) (wr := []) (c30_BModel_isCandidate l z a0 a1 a2 a3 a4 a5 a6 a7 a8 a9 a10 a11 a12 a13 x0 h0) hx hb hml hown hts w_1722 w_1719 w_1721 w_s_8d307b w_12 md_521241 ⟨Nat.le_of_ble_eq_true rfl, Nat.le_of_ble_eq_true rfl⟩ hG hZ hP hD hS hA 0 rfl rfl rfl [0, 1] [] rfl rfl rfl rfl rfl hl.1 rfl (Nat.le_of_ble_eq_true rfl) d_14_57_3 ⟨Nat.le_of_ble_eq_true rfl, Nat.le_of_ble_eq_true rfl⟩ (fun u0 H locs hP hD hS => ?_)
  have hP : va_P z.1 classes [(a0, .inr (18, [.ref a1, .ref a2, .int 0, .ref a3, .int 0, .ref a4, .int 0, .null, .int 0, .null, .long 0, .int 0, .null])), (a1, .inr (17, [.int 0, .ref a5, .ref a6, .int 0, .ref a7, .ref a8, .ref a9, .null, .null, .int 0, .ref a10, .ref a11, .ref a12, .int 0, .ref a13, .int 1]))] H := hP
  have hD : va_D A [(a0, .inr (18, [.ref a1, .ref a2, .int 0, .ref a3, .int 0, .ref a4, .int 0, .null, .int 0, .null, .long 0, .int 0, .null])), (a1, .inr (17, [.int 0, .ref a5, .ref a6, .int 0, .ref a7, .ref a8, .ref a9, .null, .null, .int 0, .ref a10, .ref a11, .ref a12, .int 0, .ref a13, .int 1]))] := hD
  refine W.eq (g2 := F0 m 6 ls [.int 0, .ref a0]) rfl ?_
  refine lv_if_eq (tgt := 21) hx hb d_14_57_6 (by decide) (fun _ => ?_) (fun c9 => absurd (by decide +kernel) c9)
  refine lv_iconst (v := 0) hx hb d_14_57_21 (by decide +kernel) ?_
  refine lv_iconst (v := 1) hx hb d_14_57_22 (by decide +kernel) ?_
  refine kV (As := [.int 0, .int 1]) (rest := []) (wr := [(a1, .inr (17, [.int 0, .ref a5, .ref a6, .int 0, .ref a7, .ref a8, .ref a9, .null, .null, .int 0, .ref a10, .ref a11, .ref a12, .int 0, .ref a13, .int 1]))]) (c31_BModel_ends l z a0 a1 a2 a3 a4) hx hb hml hown hts w_1696 w_1693 w_1695 w_s_f8f2b7 w_12 md_77b0f8 ⟨Nat.le_of_ble_eq_true rfl, Nat.le_of_ble_eq_true rfl⟩ hG hZ hP hD hS hA 0 rfl rfl rfl [0] [1] rfl rfl rfl rfl rfl hl.1 rfl (Nat.le_of_ble_eq_true rfl) d_14_57_23 ⟨Nat.le_of_ble_eq_true rfl, Nat.le_of_ble_eq_true rfl⟩ (fun u1 H locs hP hD hS => ?_)
  have hP : va_P z.1 classes [(a1, .inr (17, [.int 0, .ref a5, .ref a6, .int 0, .ref a7, .ref a8, .ref a9, .null, .null, .int 0, .ref a10, .ref a11, .ref a12, .int 0, .ref a13, .int 1])), (a0, .inr (18, [.ref a1, .ref a2, .int 0, .ref a3, .int 0, .ref a4, .int 1, .null, .int 0, .null, .long 0, .int 0, .null]))] H := hP
  have hD : va_D A [(a1, .inr (17, [.int 0, .ref a5, .ref a6, .int 0, .ref a7, .ref a8, .ref a9, .null, .null, .int 0, .ref a10, .ref a11, .ref a12, .int 0, .ref a13, .int 1])), (a0, .inr (18, [.ref a1, .ref a2, .int 0, .ref a3, .int 0, .ref a4, .int 1, .null, .int 0, .null, .long 0, .int 0, .null]))] := hD
  refine W.eq (g2 := F0 m 26 ls [.int 1]) rfl ?_
  refine lv_if_eq (tgt := 33) hx hb d_14_57_26 (by decide) (fun c9 => absurd c9 (by decide +kernel)) (fun _ => ?_)
  refine lv_iconst (v := 0) hx hb d_14_57_29 (by decide +kernel) ?_
  refine lv_goto (tgt := 42) hx hb d_14_57_30 (by decide) ?_
  refine W.widen (k := 0) (n := 0) (Nat.le_of_ble_eq_true rfl) (Nat.le_of_ble_eq_true rfl) ?_
  exact W.iret hx hb hr (fun t ht hW => qk hP hD hS [1, 0] rfl ((fun k => k), (fun _ _ => none)) rfl rfl rfl ht) hS.2.2 d_14_57_42
set_option maxRecDepth 100000 in
set_option maxHeartbeats 4000000 in
theorem c282_B_ahead (l : Launch) (z : Zz) (hl0 : l.stackTraces = false) (a0 a1 a2 a3 a4 a5 a6 a7 a8 a9 a10 a11 a12 a13 a14 a15 a16 a17 a18 : Nat) (x0 : Int32) (x1 : Int32) (h0 : ¬ x0 < 0) : XT l z ⟨"Ballothall", "ahead", "(II)I"⟩ prog_1_method_25_code 3 (some .int) [.ref a0, .int x0, .int x1] [(a0, .inr (11, [.ref a1, .ref a2, .ref a3, .ref a4, .ref a5, .ref a6, .ref a7, .ref a8, .ref a9, .ref a10, .int 0, .int 0, .ref a11, .int 0])), (a1, .inr (0, [.ref a12, .int 0, .int 0, .int 0, .ref a13, .ref a14, .ref a15, .ref a16, .ref a17, .ref a18]))] 7 127 1 6 "java/lang/IndexOutOfBoundsException" := by
  refine XT.of (own := "Ballothall") (by decide +kernel) (Nat.le_of_ble_eq_true rfl) rfl (fun p e s m below meth c A ls hx hb hml hr hts hown hlocks hin hA hG hZ hP hD hS hl hnt => ?_)
  have hl : lv_has ls 3 [(0, .ref a0), (1, .int x0), (2, .int x1)] := hl
  refine lv_iload_n hx hb d_1_25_0 rfl (lv_at hl 1 rfl) ?_
  refine lv_aload_n hx hb d_1_25_1 rfl (lv_at hl 0 rfl) ?_
  refine va_get (D := z.1) (ci := 11) (v := .ref a1) (C := "Ballothall") (T := TX11) (N := 14) hx hb hts iX11 hown hG.1 hP 0 rfl rfl 0 (by decide) (hts _ w_406) (fun _ h9 => h9) rfl d_1_25_2 ?_
  refine va_getN (D := z.1) (ci := 0) (v := .int 0) (C := "Ballothall$BallotBox") (T := TX0) (N := 10) hx hb hts iX0 hown hG.1 hP 1 rfl rfl 2 (by decide) (va_Nw.use rfl (hG.2.1 _ n_57 rfl)) (fun _ h9 => h9) rfl d_1_25_5 ?_
  exact xS (As := [.int x0, .int 0]) (rest := []) (wr := [(a0, .inr (11, [.ref a1, .ref a2, .ref a3, .ref a4, .ref a5, .ref a6, .ref a7, .ref a8, .ref a9, .ref a10, .int 0, .int 0, .ref a11, .int 0])), (a1, .inr (0, [.ref a12, .int 0, .int 0, .int 0, .ref a13, .ref a14, .ref a15, .ref a16, .ref a17, .ref a18]))]) (c34_B_needIndex l z hl0 x0 h0) hx hb hml hown hts w_857 w_855 w_856 w_1 md_6cb26b ⟨Nat.le_of_ble_eq_true rfl, Nat.le_of_ble_eq_true rfl⟩ hG hZ hP hD hS hA [] [0, 1] rfl rfl rfl rfl rfl hl.1 rfl (Nat.le_of_ble_eq_true rfl) d_1_25_8 ⟨Nat.le_of_ble_eq_true rfl, Nat.le_of_ble_eq_true rfl⟩ (fun q9 ce9 H locs hP hD hS h7 h8 h9 => x_out hnt hlocks hS h7 h8 h9 (Nat.le_of_ble_eq_true rfl) (Nat.le_of_ble_eq_true rfl))
set_option maxRecDepth 100000 in
set_option maxHeartbeats 4000000 in
theorem c283_BLaw_ahead (l : Launch) (z : Zz) (hl0 : l.stackTraces = false) (a0 a1 a2 a3 a4 a5 a6 a7 a8 a9 a10 a11 a12 a13 a14 a15 a16 a17 a18 a19 : Nat) (x0 : Int32) (x1 : Int32) (h0 : ¬ x0 < 0) : HT l z ⟨"BallothallLaw", "ahead", "(LBallothall;II[J)I"⟩ method_22_code 5 (some .int) [(0, 10, 13, 19)] [.ref a0, .int x0, .int x1, .ref a1] [(a0, .inr (11, [.ref a2, .ref a3, .ref a4, .ref a5, .ref a6, .ref a7, .ref a8, .ref a9, .ref a10, .ref a11, .int 0, .int 0, .ref a12, .int 0])), (a2, .inr (0, [.ref a13, .int 0, .int 0, .int 0, .ref a14, .ref a15, .ref a16, .ref a17, .ref a18, .ref a19]))] 8 157 1 6 (fun u => some (.int 1)) (fun u => []) := by
  refine HT.of (own := "BallothallLaw") (by decide +kernel) (Nat.le_of_ble_eq_true rfl) rfl (fun p e s m below meth c A ls hx hb hml hr hts hown hlocks hin hA hG hZ hP hD hS hl htab => ?_)
  have hl : lv_has ls 5 [(0, .ref a0), (1, .int x0), (2, .int x1), (3, .ref a1)] := hl
  refine lv_aload_n hx hb d_L22_0 rfl (lv_at hl 3 rfl) ?_
  refine lv_iconst (v := 0) hx hb d_L22_1 (by decide +kernel) ?_
  refine lv_aload_n hx hb d_L22_2 rfl (lv_at hl 0 rfl) ?_
  refine lv_iload_n hx hb d_L22_3 rfl (lv_at hl 1 rfl) ?_
  refine lv_iload_n hx hb d_L22_4 rfl (lv_at hl 2 rfl) ?_
  refine xV (As := [.int x0, .int x1]) (rest := [.int 0, .ref a1]) (wr := []) (c282_B_ahead l z hl0 a0 a2 a3 a4 a5 a6 a7 a8 a9 a10 a11 a12 a13 a14 a15 a16 a17 a18 a19 x0 x1 h0) hx hb hml hown hts w_1327 w_1324 w_1325 w_1326 w_1 md_c1a91d ⟨Nat.le_of_ble_eq_true rfl, Nat.le_of_ble_eq_true rfl⟩ hG hZ hP hD hS hA 0 rfl rfl rfl [0, 1] [] rfl rfl rfl rfl rfl hl.1 rfl (Nat.le_of_ble_eq_true rfl) d_L22_5 ⟨Nat.le_of_ble_eq_true rfl, Nat.le_of_ble_eq_true rfl⟩ (fun q0 ce9 H locs hP hD hS h7 h8 h9 => ?_)
  have hP : va_P z.1 classes [] H := hP
  have hD : va_D A [] := hD
  refine vx_catch hown [] ⟨0, 10, 13, 19⟩ [] (htab.trans rfl) (fun _ h9 => absurd h9 List.not_mem_nil) rfl (by decide) (hts _ w_849) (va_Nw.use rfl (hG.2.1 _ n_860 rfl)) h7 h8 h9 ?_
  refine lv_astore (lv' := [(4, .ref q0), (0, .ref a0), (1, .int x0), (2, .int x1), (3, .ref a1)]) hx hb d_L22_13 hl (by decide) rfl (fun ls hl => ?_)
  refine lv_iconst (v := 1) hx hb d_L22_15 (by decide +kernel) ?_
  refine W.widen (k := 1) (n := 6) (Nat.le_of_ble_eq_true rfl) (Nat.le_of_ble_eq_true rfl) ?_
  refine vx_ret ?_
  exact W.iret hx hb hr (fun t ht hW => qk hP hD hS [] rfl ((fun k => k), (fun _ _ => none)) rfl rfl rfl ht) hS.2.2 d_L22_16
set_option maxRecDepth 100000 in
set_option maxHeartbeats 4000000 in
theorem c284_BModel_ahead (l : Launch) (z : Zz) (a0 a1 a2 a3 a4 a5 a6 a7 a8 a9 a10 a11 a12 a13 : Nat) (x0 : Int32) (x1 : Int32) (h0 : ¬ x0 < 0) (h1 : (-1) < x0) : CT l z ⟨"BallothallModel", "ahead", "(II)I"⟩ prog_14_method_57_code 3 (some .int) [.ref a0, .int x0, .int x1] [(a0, .inr (18, [.ref a1, .ref a2, .int 0, .ref a3, .int 0, .ref a4, .int 0, .null, .int 0, .null, .long 0, .int 0, .null])), (a1, .inr (17, [.int 0, .ref a5, .ref a6, .int 0, .ref a7, .ref a8, .ref a9, .null, .null, .int 0, .ref a10, .ref a11, .ref a12, .int 0, .ref a13, .int 1]))] 2 59 0 0 (fun u => some (.int 0)) (fun u => [(a0, .inr (18, [.ref a1, .ref a2, .int 0, .ref a3, .int 0, .ref a4, .int 1, .null, .int 0, .null, .long 0, .int 0, .null])), (a1, .inr (17, [.int 0, .ref a5, .ref a6, .int 0, .ref a7, .ref a8, .ref a9, .null, .null, .int 0, .ref a10, .ref a11, .ref a12, .int 0, .ref a13, .int 1]))]) := by
  refine CT.of (own := "BallothallModel") (by decide +kernel) (Nat.le_of_ble_eq_true rfl) rfl (fun p e s m below meth c A ls hx hb hml hr hts hown hlocks hin hA hG hZ hP hD hS hl => ?_)
  have hl : lv_has ls 3 [(0, .ref a0), (1, .int x0), (2, .int x1)] := hl
  refine lv_aload_n hx hb d_14_57_0 rfl (lv_at hl 0 rfl) ?_
  refine lv_aload_n hx hb d_14_57_1 rfl (lv_at hl 0 rfl) ?_
  refine lv_iload_n hx hb d_14_57_2 rfl (lv_at hl 1 rfl) ?_
  refine kV (As := [.int x0]) (rest := [.ref a0]) (wr := []) (c38_BModel_isCandidate l z a0 a1 a2 a3 a4 a5 a6 a7 a8 a9 a10 a11 a12 a13 x0 h0 h1) hx hb hml hown hts w_1722 w_1719 w_1721 w_s_8d307b w_12 md_521241 ⟨Nat.le_of_ble_eq_true rfl, Nat.le_of_ble_eq_true rfl⟩ hG hZ hP hD hS hA 0 rfl rfl rfl [0, 1] [] rfl rfl rfl rfl rfl hl.1 rfl (Nat.le_of_ble_eq_true rfl) d_14_57_3 ⟨Nat.le_of_ble_eq_true rfl, Nat.le_of_ble_eq_true rfl⟩ (fun u0 H locs hP hD hS => ?_)
  have hP : va_P z.1 classes [(a0, .inr (18, [.ref a1, .ref a2, .int 0, .ref a3, .int 0, .ref a4, .int 0, .null, .int 0, .null, .long 0, .int 0, .null])), (a1, .inr (17, [.int 0, .ref a5, .ref a6, .int 0, .ref a7, .ref a8, .ref a9, .null, .null, .int 0, .ref a10, .ref a11, .ref a12, .int 0, .ref a13, .int 1]))] H := hP
  have hD : va_D A [(a0, .inr (18, [.ref a1, .ref a2, .int 0, .ref a3, .int 0, .ref a4, .int 0, .null, .int 0, .null, .long 0, .int 0, .null])), (a1, .inr (17, [.int 0, .ref a5, .ref a6, .int 0, .ref a7, .ref a8, .ref a9, .null, .null, .int 0, .ref a10, .ref a11, .ref a12, .int 0, .ref a13, .int 1]))] := hD
  refine W.eq (g2 := F0 m 6 ls [.int 0, .ref a0]) rfl ?_
  refine lv_if_eq (tgt := 21) hx hb d_14_57_6 (by decide) (fun _ => ?_) (fun c9 => absurd (by decide +kernel) c9)
  refine lv_iconst (v := 0) hx hb d_14_57_21 (by decide +kernel) ?_
  refine lv_iconst (v := 1) hx hb d_14_57_22 (by decide +kernel) ?_
  refine kV (As := [.int 0, .int 1]) (rest := []) (wr := [(a1, .inr (17, [.int 0, .ref a5, .ref a6, .int 0, .ref a7, .ref a8, .ref a9, .null, .null, .int 0, .ref a10, .ref a11, .ref a12, .int 0, .ref a13, .int 1]))]) (c31_BModel_ends l z a0 a1 a2 a3 a4) hx hb hml hown hts w_1696 w_1693 w_1695 w_s_f8f2b7 w_12 md_77b0f8 ⟨Nat.le_of_ble_eq_true rfl, Nat.le_of_ble_eq_true rfl⟩ hG hZ hP hD hS hA 0 rfl rfl rfl [0] [1] rfl rfl rfl rfl rfl hl.1 rfl (Nat.le_of_ble_eq_true rfl) d_14_57_23 ⟨Nat.le_of_ble_eq_true rfl, Nat.le_of_ble_eq_true rfl⟩ (fun u1 H locs hP hD hS => ?_)
  have hP : va_P z.1 classes [(a1, .inr (17, [.int 0, .ref a5, .ref a6, .int 0, .ref a7, .ref a8, .ref a9, .null, .null, .int 0, .ref a10, .ref a11, .ref a12, .int 0, .ref a13, .int 1])), (a0, .inr (18, [.ref a1, .ref a2, .int 0, .ref a3, .int 0, .ref a4, .int 1, .null, .int 0, .null, .long 0, .int 0, .null]))] H := hP
  have hD : va_D A [(a1, .inr (17, [.int 0, .ref a5, .ref a6, .int 0, .ref a7, .ref a8, .ref a9, .null, .null, .int 0, .ref a10, .ref a11, .ref a12, .int 0, .ref a13, .int 1])), (a0, .inr (18, [.ref a1, .ref a2, .int 0, .ref a3, .int 0, .ref a4, .int 1, .null, .int 0, .null, .long 0, .int 0, .null]))] := hD
  refine W.eq (g2 := F0 m 26 ls [.int 1]) rfl ?_
  refine lv_if_eq (tgt := 33) hx hb d_14_57_26 (by decide) (fun c9 => absurd c9 (by decide +kernel)) (fun _ => ?_)
  refine lv_iconst (v := 0) hx hb d_14_57_29 (by decide +kernel) ?_
  refine lv_goto (tgt := 42) hx hb d_14_57_30 (by decide) ?_
  refine W.widen (k := 0) (n := 0) (Nat.le_of_ble_eq_true rfl) (Nat.le_of_ble_eq_true rfl) ?_
  exact W.iret hx hb hr (fun t ht hW => qk hP hD hS [1, 0] rfl ((fun k => k), (fun _ _ => none)) rfl rfl rfl ht) hS.2.2 d_14_57_42
set_option maxRecDepth 100000 in
set_option maxHeartbeats 4000000 in
theorem c285_Poll_open (l : Launch) (z : Zz) (a0 a1 a2 a3 a4 a5 a6 a7 a8 a9 a10 a11 a12 a13 a14 a15 a16 a17 : Nat) : CT l z ⟨"Ballothall$Poll", "open", "(I)V"⟩ prog_11_method_2_code 3 none [.ref a0, .int 0] [(a0, .inr (9, [.ref a1, .int 0, .int 0, .ref a2, .ref a3, .ref a4, .ref a5, .ref a6, .ref a7, .ref a8, .ref a9, .ref a10])), (a2, .inl (z.2 0, 31, .inl (fun _ => 0))), (a3, .inl (z.2 0, 8, .inl (fun _ => 0))), (a4, .inl (z.2 0, 8, .inl (fun _ => 0))), (a5, .inl (z.2 0, 64, .inl (fun _ => 0))), (a1, .inr (0, [.ref a11, .int 0, .int 0, .int 0, .ref a12, .ref a13, .ref a14, .ref a15, .ref a16, .ref a17]))] 2 51 0 0 (fun u => none) (fun u => [(a0, .inr (9, [.ref a1, .int 0, .int 0, .ref a2, .ref a3, .ref a4, .ref a5, .ref a6, .ref a7, .ref a8, .ref a9, .ref a10])), (a2, .inl (z.2 0, 31, .inl (fun _ => 0))), (a3, .inl (z.2 0, 8, .inl (fun _ => 0))), (a4, .inl (z.2 0, 8, .inl (fun _ => 0))), (a5, .inl (z.2 0, 64, .inl (fun _ => 0))), (a1, .inr (0, [.ref a11, .int 0, .int 0, .int 0, .ref a12, .ref a13, .ref a14, .ref a15, .ref a16, .ref a17]))]) := by
  refine CT.of (own := "Ballothall$Poll") (by decide +kernel) (Nat.le_of_ble_eq_true rfl) rfl (fun p e s m below meth c A ls hx hb hml hr hts hown hlocks hin hA hG hZ hP hD hS hl => ?_)
  have hl : lv_has ls 3 [(0, .ref a0), (1, .int 0)] := hl
  refine lv_aload_n hx hb d_11_2_0 rfl (lv_at hl 0 rfl) ?_
  refine lv_iload_n hx hb d_11_2_1 rfl (lv_at hl 1 rfl) ?_
  refine va_put (D := z.1) (ci := 9) (v := .int 0) (ty := .int) (C := "Ballothall$Poll") (T := TX9) (N := 12) hx hb hts iX9 tyX9 tyX9_ok nmX9 hown hG.1 hP hD hS 0 rfl rfl 1 (by decide) (hts _ w_113) (fun _ h9 => h9) rfl (by decide +kernel) rfl rfl (Nat.le_of_ble_eq_true rfl) d_11_2_2 (fun H locs hP hD hS => ?_)
  have hP : va_P z.1 classes [(a0, .inr (9, [.ref a1, .int 0, .int 0, .ref a2, .ref a3, .ref a4, .ref a5, .ref a6, .ref a7, .ref a8, .ref a9, .ref a10])), (a2, .inl (z.2 0, 31, .inl (fun _ => 0))), (a3, .inl (z.2 0, 8, .inl (fun _ => 0))), (a4, .inl (z.2 0, 8, .inl (fun _ => 0))), (a5, .inl (z.2 0, 64, .inl (fun _ => 0))), (a1, .inr (0, [.ref a11, .int 0, .int 0, .int 0, .ref a12, .ref a13, .ref a14, .ref a15, .ref a16, .ref a17]))] H := hP
  have hD : va_D A [(a0, .inr (9, [.ref a1, .int 0, .int 0, .ref a2, .ref a3, .ref a4, .ref a5, .ref a6, .ref a7, .ref a8, .ref a9, .ref a10])), (a2, .inl (z.2 0, 31, .inl (fun _ => 0))), (a3, .inl (z.2 0, 8, .inl (fun _ => 0))), (a4, .inl (z.2 0, 8, .inl (fun _ => 0))), (a5, .inl (z.2 0, 64, .inl (fun _ => 0))), (a1, .inr (0, [.ref a11, .int 0, .int 0, .int 0, .ref a12, .ref a13, .ref a14, .ref a15, .ref a16, .ref a17]))] := hD
  refine lv_aload_n hx hb d_11_2_5 rfl (lv_at hl 0 rfl) ?_
  refine lv_iconst (v := 0) hx hb d_11_2_6 (by decide +kernel) ?_
  refine va_put (D := z.1) (ci := 9) (v := .int 0) (ty := .int) (C := "Ballothall$Poll") (T := TX9) (N := 12) hx hb hts iX9 tyX9 tyX9_ok nmX9 hown hG.1 hP hD hS 0 rfl rfl 2 (by decide) (hts _ w_114) (fun _ h9 => h9) rfl (by decide +kernel) rfl rfl (Nat.le_of_ble_eq_true rfl) d_11_2_7 (fun H locs hP hD hS => ?_)
  have hP : va_P z.1 classes [(a0, .inr (9, [.ref a1, .int 0, .int 0, .ref a2, .ref a3, .ref a4, .ref a5, .ref a6, .ref a7, .ref a8, .ref a9, .ref a10])), (a2, .inl (z.2 0, 31, .inl (fun _ => 0))), (a3, .inl (z.2 0, 8, .inl (fun _ => 0))), (a4, .inl (z.2 0, 8, .inl (fun _ => 0))), (a5, .inl (z.2 0, 64, .inl (fun _ => 0))), (a1, .inr (0, [.ref a11, .int 0, .int 0, .int 0, .ref a12, .ref a13, .ref a14, .ref a15, .ref a16, .ref a17]))] H := hP
  have hD : va_D A [(a0, .inr (9, [.ref a1, .int 0, .int 0, .ref a2, .ref a3, .ref a4, .ref a5, .ref a6, .ref a7, .ref a8, .ref a9, .ref a10])), (a2, .inl (z.2 0, 31, .inl (fun _ => 0))), (a3, .inl (z.2 0, 8, .inl (fun _ => 0))), (a4, .inl (z.2 0, 8, .inl (fun _ => 0))), (a5, .inl (z.2 0, 64, .inl (fun _ => 0))), (a1, .inr (0, [.ref a11, .int 0, .int 0, .int 0, .ref a12, .ref a13, .ref a14, .ref a15, .ref a16, .ref a17]))] := hD
  refine lv_aload_n hx hb d_11_2_10 rfl (lv_at hl 0 rfl) ?_
  refine va_get (D := z.1) (ci := 9) (v := .ref a2) (C := "Ballothall$Poll") (T := TX9) (N := 12) hx hb hts iX9 hown hG.1 hP 0 rfl rfl 3 (by decide) (hts _ w_115) (fun _ h9 => h9) rfl d_11_2_11 ?_
  refine lv_iconst (v := 0) hx hb d_11_2_14 (by decide +kernel) ?_
  refine kS (As := [.ref a2, .int 0]) (rest := []) (wr := [(a0, .inr (9, [.ref a1, .int 0, .int 0, .ref a2, .ref a3, .ref a4, .ref a5, .ref a6, .ref a7, .ref a8, .ref a9, .ref a10])), (a3, .inl (z.2 0, 8, .inl (fun _ => 0))), (a4, .inl (z.2 0, 8, .inl (fun _ => 0))), (a5, .inl (z.2 0, 64, .inl (fun _ => 0))), (a1, .inr (0, [.ref a11, .int 0, .int 0, .int 0, .ref a12, .ref a13, .ref a14, .ref a15, .ref a16, .ref a17]))]) (c_fill0 l z a2 31 (by decide)) hx hb hml hown hts w_487 w_485 w_486 w_22 md_e8f65d ⟨Nat.le_of_ble_eq_true rfl, Nat.le_of_ble_eq_true rfl⟩ hG hZ hP hD hS hA [1] [0, 2, 3, 4, 5] rfl rfl rfl rfl rfl hl.1 rfl (Nat.le_of_ble_eq_true rfl) d_11_2_15 ⟨Nat.le_of_ble_eq_true rfl, Nat.le_of_ble_eq_true rfl⟩ (fun u0 H locs hP hD hS => ?_)
  have hP : va_P z.1 classes [(a0, .inr (9, [.ref a1, .int 0, .int 0, .ref a2, .ref a3, .ref a4, .ref a5, .ref a6, .ref a7, .ref a8, .ref a9, .ref a10])), (a3, .inl (z.2 0, 8, .inl (fun _ => 0))), (a4, .inl (z.2 0, 8, .inl (fun _ => 0))), (a5, .inl (z.2 0, 64, .inl (fun _ => 0))), (a1, .inr (0, [.ref a11, .int 0, .int 0, .int 0, .ref a12, .ref a13, .ref a14, .ref a15, .ref a16, .ref a17])), (a2, .inl (z.2 0, 31, .inl (fun _ => 0)))] H := hP
  have hD : va_D A [(a0, .inr (9, [.ref a1, .int 0, .int 0, .ref a2, .ref a3, .ref a4, .ref a5, .ref a6, .ref a7, .ref a8, .ref a9, .ref a10])), (a3, .inl (z.2 0, 8, .inl (fun _ => 0))), (a4, .inl (z.2 0, 8, .inl (fun _ => 0))), (a5, .inl (z.2 0, 64, .inl (fun _ => 0))), (a1, .inr (0, [.ref a11, .int 0, .int 0, .int 0, .ref a12, .ref a13, .ref a14, .ref a15, .ref a16, .ref a17])), (a2, .inl (z.2 0, 31, .inl (fun _ => 0)))] := hD
  refine W.eq (g2 := F0 m 18 ls []) rfl ?_
  refine lv_aload_n hx hb d_11_2_18 rfl (lv_at hl 0 rfl) ?_
  refine va_get (D := z.1) (ci := 9) (v := .ref a3) (C := "Ballothall$Poll") (T := TX9) (N := 12) hx hb hts iX9 hown hG.1 hP 0 rfl rfl 4 (by decide) (hts _ w_116) (fun _ h9 => h9) rfl d_11_2_19 ?_
  refine lv_iconst (v := 0) hx hb d_11_2_22 (by decide +kernel) ?_
  refine kS (As := [.ref a3, .int 0]) (rest := []) (wr := [(a0, .inr (9, [.ref a1, .int 0, .int 0, .ref a2, .ref a3, .ref a4, .ref a5, .ref a6, .ref a7, .ref a8, .ref a9, .ref a10])), (a4, .inl (z.2 0, 8, .inl (fun _ => 0))), (a5, .inl (z.2 0, 64, .inl (fun _ => 0))), (a1, .inr (0, [.ref a11, .int 0, .int 0, .int 0, .ref a12, .ref a13, .ref a14, .ref a15, .ref a16, .ref a17])), (a2, .inl (z.2 0, 31, .inl (fun _ => 0)))]) (c_fill0 l z a3 8 (by decide)) hx hb hml hown hts w_487 w_485 w_486 w_22 md_e8f65d ⟨Nat.le_of_ble_eq_true rfl, Nat.le_of_ble_eq_true rfl⟩ hG hZ hP hD hS hA [1] [0, 2, 3, 4, 5] rfl rfl rfl rfl rfl hl.1 rfl (Nat.le_of_ble_eq_true rfl) d_11_2_23 ⟨Nat.le_of_ble_eq_true rfl, Nat.le_of_ble_eq_true rfl⟩ (fun u1 H locs hP hD hS => ?_)
  have hP : va_P z.1 classes [(a0, .inr (9, [.ref a1, .int 0, .int 0, .ref a2, .ref a3, .ref a4, .ref a5, .ref a6, .ref a7, .ref a8, .ref a9, .ref a10])), (a4, .inl (z.2 0, 8, .inl (fun _ => 0))), (a5, .inl (z.2 0, 64, .inl (fun _ => 0))), (a1, .inr (0, [.ref a11, .int 0, .int 0, .int 0, .ref a12, .ref a13, .ref a14, .ref a15, .ref a16, .ref a17])), (a2, .inl (z.2 0, 31, .inl (fun _ => 0))), (a3, .inl (z.2 0, 8, .inl (fun _ => 0)))] H := hP
  have hD : va_D A [(a0, .inr (9, [.ref a1, .int 0, .int 0, .ref a2, .ref a3, .ref a4, .ref a5, .ref a6, .ref a7, .ref a8, .ref a9, .ref a10])), (a4, .inl (z.2 0, 8, .inl (fun _ => 0))), (a5, .inl (z.2 0, 64, .inl (fun _ => 0))), (a1, .inr (0, [.ref a11, .int 0, .int 0, .int 0, .ref a12, .ref a13, .ref a14, .ref a15, .ref a16, .ref a17])), (a2, .inl (z.2 0, 31, .inl (fun _ => 0))), (a3, .inl (z.2 0, 8, .inl (fun _ => 0)))] := hD
  refine W.eq (g2 := F0 m 26 ls []) rfl ?_
  refine lv_aload_n hx hb d_11_2_26 rfl (lv_at hl 0 rfl) ?_
  refine va_get (D := z.1) (ci := 9) (v := .ref a4) (C := "Ballothall$Poll") (T := TX9) (N := 12) hx hb hts iX9 hown hG.1 hP 0 rfl rfl 5 (by decide) (hts _ w_117) (fun _ h9 => h9) rfl d_11_2_27 ?_
  refine lv_iconst (v := 0) hx hb d_11_2_30 (by decide +kernel) ?_
  refine kS (As := [.ref a4, .int 0]) (rest := []) (wr := [(a0, .inr (9, [.ref a1, .int 0, .int 0, .ref a2, .ref a3, .ref a4, .ref a5, .ref a6, .ref a7, .ref a8, .ref a9, .ref a10])), (a5, .inl (z.2 0, 64, .inl (fun _ => 0))), (a1, .inr (0, [.ref a11, .int 0, .int 0, .int 0, .ref a12, .ref a13, .ref a14, .ref a15, .ref a16, .ref a17])), (a2, .inl (z.2 0, 31, .inl (fun _ => 0))), (a3, .inl (z.2 0, 8, .inl (fun _ => 0)))]) (c_fill0 l z a4 8 (by decide)) hx hb hml hown hts w_487 w_485 w_486 w_22 md_e8f65d ⟨Nat.le_of_ble_eq_true rfl, Nat.le_of_ble_eq_true rfl⟩ hG hZ hP hD hS hA [1] [0, 2, 3, 4, 5] rfl rfl rfl rfl rfl hl.1 rfl (Nat.le_of_ble_eq_true rfl) d_11_2_31 ⟨Nat.le_of_ble_eq_true rfl, Nat.le_of_ble_eq_true rfl⟩ (fun u2 H locs hP hD hS => ?_)
  have hP : va_P z.1 classes [(a0, .inr (9, [.ref a1, .int 0, .int 0, .ref a2, .ref a3, .ref a4, .ref a5, .ref a6, .ref a7, .ref a8, .ref a9, .ref a10])), (a5, .inl (z.2 0, 64, .inl (fun _ => 0))), (a1, .inr (0, [.ref a11, .int 0, .int 0, .int 0, .ref a12, .ref a13, .ref a14, .ref a15, .ref a16, .ref a17])), (a2, .inl (z.2 0, 31, .inl (fun _ => 0))), (a3, .inl (z.2 0, 8, .inl (fun _ => 0))), (a4, .inl (z.2 0, 8, .inl (fun _ => 0)))] H := hP
  have hD : va_D A [(a0, .inr (9, [.ref a1, .int 0, .int 0, .ref a2, .ref a3, .ref a4, .ref a5, .ref a6, .ref a7, .ref a8, .ref a9, .ref a10])), (a5, .inl (z.2 0, 64, .inl (fun _ => 0))), (a1, .inr (0, [.ref a11, .int 0, .int 0, .int 0, .ref a12, .ref a13, .ref a14, .ref a15, .ref a16, .ref a17])), (a2, .inl (z.2 0, 31, .inl (fun _ => 0))), (a3, .inl (z.2 0, 8, .inl (fun _ => 0))), (a4, .inl (z.2 0, 8, .inl (fun _ => 0)))] := hD
  refine W.eq (g2 := F0 m 34 ls []) rfl ?_
  refine lv_aload_n hx hb d_11_2_34 rfl (lv_at hl 0 rfl) ?_
  refine va_get (D := z.1) (ci := 9) (v := .ref a5) (C := "Ballothall$Poll") (T := TX9) (N := 12) hx hb hts iX9 hown hG.1 hP 0 rfl rfl 6 (by decide) (hts _ w_118) (fun _ h9 => h9) rfl d_11_2_35 ?_
  refine lv_iconst (v := 0) hx hb d_11_2_38 (by decide +kernel) ?_
  refine kS (As := [.ref a5, .int 0]) (rest := []) (wr := [(a0, .inr (9, [.ref a1, .int 0, .int 0, .ref a2, .ref a3, .ref a4, .ref a5, .ref a6, .ref a7, .ref a8, .ref a9, .ref a10])), (a1, .inr (0, [.ref a11, .int 0, .int 0, .int 0, .ref a12, .ref a13, .ref a14, .ref a15, .ref a16, .ref a17])), (a2, .inl (z.2 0, 31, .inl (fun _ => 0))), (a3, .inl (z.2 0, 8, .inl (fun _ => 0))), (a4, .inl (z.2 0, 8, .inl (fun _ => 0)))]) (c_fill0 l z a5 64 (by decide)) hx hb hml hown hts w_487 w_485 w_486 w_22 md_e8f65d ⟨Nat.le_of_ble_eq_true rfl, Nat.le_of_ble_eq_true rfl⟩ hG hZ hP hD hS hA [1] [0, 2, 3, 4, 5] rfl rfl rfl rfl rfl hl.1 rfl (Nat.le_of_ble_eq_true rfl) d_11_2_39 ⟨Nat.le_of_ble_eq_true rfl, Nat.le_of_ble_eq_true rfl⟩ (fun u3 H locs hP hD hS => ?_)
  have hP : va_P z.1 classes [(a0, .inr (9, [.ref a1, .int 0, .int 0, .ref a2, .ref a3, .ref a4, .ref a5, .ref a6, .ref a7, .ref a8, .ref a9, .ref a10])), (a1, .inr (0, [.ref a11, .int 0, .int 0, .int 0, .ref a12, .ref a13, .ref a14, .ref a15, .ref a16, .ref a17])), (a2, .inl (z.2 0, 31, .inl (fun _ => 0))), (a3, .inl (z.2 0, 8, .inl (fun _ => 0))), (a4, .inl (z.2 0, 8, .inl (fun _ => 0))), (a5, .inl (z.2 0, 64, .inl (fun _ => 0)))] H := hP
  have hD : va_D A [(a0, .inr (9, [.ref a1, .int 0, .int 0, .ref a2, .ref a3, .ref a4, .ref a5, .ref a6, .ref a7, .ref a8, .ref a9, .ref a10])), (a1, .inr (0, [.ref a11, .int 0, .int 0, .int 0, .ref a12, .ref a13, .ref a14, .ref a15, .ref a16, .ref a17])), (a2, .inl (z.2 0, 31, .inl (fun _ => 0))), (a3, .inl (z.2 0, 8, .inl (fun _ => 0))), (a4, .inl (z.2 0, 8, .inl (fun _ => 0))), (a5, .inl (z.2 0, 64, .inl (fun _ => 0)))] := hD
  refine W.eq (g2 := F0 m 42 ls []) rfl ?_
  refine lv_iconst (v := 0) hx hb d_11_2_42 (by decide +kernel) ?_
  refine lv_istore_n (lv' := [(2, .int 0), (0, .ref a0), (1, .int 0)]) hx hb d_11_2_43 rfl hl (by decide) rfl (fun ls hl => ?_)
  refine lv_iload_n hx hb d_11_2_44 rfl (lv_at hl 0 rfl) ?_
  refine lv_aload_n hx hb d_11_2_45 rfl (lv_at hl 1 rfl) ?_
  refine va_get (D := z.1) (ci := 9) (v := .ref a1) (C := "Ballothall$Poll") (T := TX9) (N := 12) hx hb hts iX9 hown hG.1 hP 0 rfl rfl 0 (by decide) (hts _ w_112) (fun _ h9 => h9) rfl d_11_2_46 ?_
  refine va_getN (D := z.1) (ci := 0) (v := .int 0) (C := "Ballothall$BallotBox") (T := TX0) (N := 10) hx hb hts iX0 hown hG.1 hP 1 rfl rfl 3 (by decide) (va_Nw.use rfl (hG.2.1 _ n_62 rfl)) (fun _ h9 => h9) rfl d_11_2_49 ?_
  refine lv_icmp_ge (tgt := 75) hx hb d_11_2_52 (by decide) (fun _ => ?_) (fun c9 => absurd (by decide +kernel) c9)
  refine W.widen (k := 0) (n := 0) (Nat.le_of_ble_eq_true rfl) (Nat.le_of_ble_eq_true rfl) ?_
  exact W.vret hx hb hr (fun t ht hW => qk hP hD hS [0, 2, 3, 4, 5, 1] rfl ((fun k => k), (fun _ _ => none)) rfl rfl rfl ht) hS.2.2 d_11_2_75
set_option maxRecDepth 100000 in
set_option maxHeartbeats 4000000 in
theorem c286_Poll_findBeaten (l : Launch) (z : Zz) (a0 a1 a2 a3 a4 a5 a6 a7 a8 a9 a10 a11 a12 a13 a14 a15 a16 a17 : Nat) : CT l z ⟨"Ballothall$Poll", "findBeaten", "()V"⟩ prog_11_method_8_code 3 none [.ref a0] [(a0, .inr (9, [.ref a1, .int 0, .int 0, .ref a2, .ref a3, .ref a4, .ref a5, .ref a6, .ref a7, .ref a8, .ref a9, .ref a10])), (a6, .inl (z.2 0, 8, .inl (fun _ => 0))), (a1, .inr (0, [.ref a11, .int 0, .int 0, .int 0, .ref a12, .ref a13, .ref a14, .ref a15, .ref a16, .ref a17]))] 2 51 0 0 (fun u => none) (fun u => [(a0, .inr (9, [.ref a1, .int 0, .int 0, .ref a2, .ref a3, .ref a4, .ref a5, .ref a6, .ref a7, .ref a8, .ref a9, .ref a10])), (a6, .inl (z.2 0, 8, .inl (fun _ => 0))), (a1, .inr (0, [.ref a11, .int 0, .int 0, .int 0, .ref a12, .ref a13, .ref a14, .ref a15, .ref a16, .ref a17]))]) := by
  refine CT.of (own := "Ballothall$Poll") (by decide +kernel) (Nat.le_of_ble_eq_true rfl) rfl (fun p e s m below meth c A ls hx hb hml hr hts hown hlocks hin hA hG hZ hP hD hS hl => ?_)
  have hl : lv_has ls 3 [(0, .ref a0)] := hl
  refine lv_aload_n hx hb d_11_8_0 rfl (lv_at hl 0 rfl) ?_
  refine va_get (D := z.1) (ci := 9) (v := .ref a6) (C := "Ballothall$Poll") (T := TX9) (N := 12) hx hb hts iX9 hown hG.1 hP 0 rfl rfl 7 (by decide) (hts _ w_119) (fun _ h9 => h9) rfl d_11_8_1 ?_
  refine lv_iconst (v := 0) hx hb d_11_8_4 (by decide +kernel) ?_
  refine kS (As := [.ref a6, .int 0]) (rest := []) (wr := [(a0, .inr (9, [.ref a1, .int 0, .int 0, .ref a2, .ref a3, .ref a4, .ref a5, .ref a6, .ref a7, .ref a8, .ref a9, .ref a10])), (a1, .inr (0, [.ref a11, .int 0, .int 0, .int 0, .ref a12, .ref a13, .ref a14, .ref a15, .ref a16, .ref a17]))]) (c_fill0 l z a6 8 (by decide)) hx hb hml hown hts w_487 w_485 w_486 w_22 md_e8f65d ⟨Nat.le_of_ble_eq_true rfl, Nat.le_of_ble_eq_true rfl⟩ hG hZ hP hD hS hA [1] [0, 2] rfl rfl rfl rfl rfl hl.1 rfl (Nat.le_of_ble_eq_true rfl) d_11_8_5 ⟨Nat.le_of_ble_eq_true rfl, Nat.le_of_ble_eq_true rfl⟩ (fun u0 H locs hP hD hS => ?_)
  have hP : va_P z.1 classes [(a0, .inr (9, [.ref a1, .int 0, .int 0, .ref a2, .ref a3, .ref a4, .ref a5, .ref a6, .ref a7, .ref a8, .ref a9, .ref a10])), (a1, .inr (0, [.ref a11, .int 0, .int 0, .int 0, .ref a12, .ref a13, .ref a14, .ref a15, .ref a16, .ref a17])), (a6, .inl (z.2 0, 8, .inl (fun _ => 0)))] H := hP
  have hD : va_D A [(a0, .inr (9, [.ref a1, .int 0, .int 0, .ref a2, .ref a3, .ref a4, .ref a5, .ref a6, .ref a7, .ref a8, .ref a9, .ref a10])), (a1, .inr (0, [.ref a11, .int 0, .int 0, .int 0, .ref a12, .ref a13, .ref a14, .ref a15, .ref a16, .ref a17])), (a6, .inl (z.2 0, 8, .inl (fun _ => 0)))] := hD
  refine W.eq (g2 := F0 m 8 ls []) rfl ?_
  refine lv_iconst (v := 0) hx hb d_11_8_8 (by decide +kernel) ?_
  refine lv_istore_n (lv' := [(1, .int 0), (0, .ref a0)]) hx hb d_11_8_9 rfl hl (by decide) rfl (fun ls hl => ?_)
  refine lv_iload_n hx hb d_11_8_10 rfl (lv_at hl 0 rfl) ?_
  refine lv_aload_n hx hb d_11_8_11 rfl (lv_at hl 1 rfl) ?_
  refine va_get (D := z.1) (ci := 9) (v := .ref a1) (C := "Ballothall$Poll") (T := TX9) (N := 12) hx hb hts iX9 hown hG.1 hP 0 rfl rfl 0 (by decide) (hts _ w_112) (fun _ h9 => h9) rfl d_11_8_12 ?_
  refine va_getN (D := z.1) (ci := 0) (v := .int 0) (C := "Ballothall$BallotBox") (T := TX0) (N := 10) hx hb hts iX0 hown hG.1 hP 1 rfl rfl 2 (by decide) (va_Nw.use rfl (hG.2.1 _ n_58 rfl)) (fun _ h9 => h9) rfl d_11_8_15 ?_
  refine lv_icmp_ge (tgt := 67) hx hb d_11_8_18 (by decide) (fun _ => ?_) (fun c9 => absurd (by decide +kernel) c9)
  refine W.widen (k := 0) (n := 0) (Nat.le_of_ble_eq_true rfl) (Nat.le_of_ble_eq_true rfl) ?_
  exact W.vret hx hb hr (fun t ht hW => qk hP hD hS [0, 2, 1] rfl ((fun k => k), (fun _ _ => none)) rfl rfl rfl ht) hS.2.2 d_11_8_67
set_option maxRecDepth 100000 in
set_option maxHeartbeats 4000000 in
theorem c287_Poll_beaterOfAll (l : Launch) (z : Zz) (a0 a1 a2 a3 a4 a5 a6 a7 a8 a9 a10 a11 a12 a13 a14 a15 a16 a17 : Nat) : CT l z ⟨"Ballothall$Poll", "beaterOfAll", "()I"⟩ prog_11_method_9_code 2 (some .int) [.ref a0] [(a0, .inr (9, [.ref a1, .int 0, .int 0, .ref a2, .ref a3, .ref a4, .ref a5, .ref a6, .ref a7, .ref a8, .ref a9, .ref a10])), (a6, .inl (z.2 0, 8, .inl (fun _ => 0))), (a1, .inr (0, [.ref a11, .int 0, .int 0, .int 0, .ref a12, .ref a13, .ref a14, .ref a15, .ref a16, .ref a17]))] 3 81 0 0 (fun u => some (.int (-1))) (fun u => [(a0, .inr (9, [.ref a1, .int 0, .int 0, .ref a2, .ref a3, .ref a4, .ref a5, .ref a6, .ref a7, .ref a8, .ref a9, .ref a10])), (a6, .inl (z.2 0, 8, .inl (fun _ => 0))), (a1, .inr (0, [.ref a11, .int 0, .int 0, .int 0, .ref a12, .ref a13, .ref a14, .ref a15, .ref a16, .ref a17]))]) := by
  refine CT.of (own := "Ballothall$Poll") (by decide +kernel) (Nat.le_of_ble_eq_true rfl) rfl (fun p e s m below meth c A ls hx hb hml hr hts hown hlocks hin hA hG hZ hP hD hS hl => ?_)
  have hl : lv_has ls 2 [(0, .ref a0)] := hl
  refine lv_aload_n hx hb d_11_9_0 rfl (lv_at hl 0 rfl) ?_
  refine kV (As := []) (rest := []) (wr := []) (c286_Poll_findBeaten l z a0 a1 a2 a3 a4 a5 a6 a7 a8 a9 a10 a11 a12 a13 a14 a15 a16 a17) hx hb hml hown hts w_520 w_517 w_519 w_s_e198c6 w_3 md_a5c5f2 ⟨Nat.le_of_ble_eq_true rfl, Nat.le_of_ble_eq_true rfl⟩ hG hZ hP hD hS hA 0 rfl rfl rfl [0, 1, 2] [] rfl rfl rfl rfl rfl hl.1 rfl (Nat.le_of_ble_eq_true rfl) d_11_9_1 ⟨Nat.le_of_ble_eq_true rfl, Nat.le_of_ble_eq_true rfl⟩ (fun u0 H locs hP hD hS => ?_)
  have hP : va_P z.1 classes [(a0, .inr (9, [.ref a1, .int 0, .int 0, .ref a2, .ref a3, .ref a4, .ref a5, .ref a6, .ref a7, .ref a8, .ref a9, .ref a10])), (a6, .inl (z.2 0, 8, .inl (fun _ => 0))), (a1, .inr (0, [.ref a11, .int 0, .int 0, .int 0, .ref a12, .ref a13, .ref a14, .ref a15, .ref a16, .ref a17]))] H := hP
  have hD : va_D A [(a0, .inr (9, [.ref a1, .int 0, .int 0, .ref a2, .ref a3, .ref a4, .ref a5, .ref a6, .ref a7, .ref a8, .ref a9, .ref a10])), (a6, .inl (z.2 0, 8, .inl (fun _ => 0))), (a1, .inr (0, [.ref a11, .int 0, .int 0, .int 0, .ref a12, .ref a13, .ref a14, .ref a15, .ref a16, .ref a17]))] := hD
  refine W.eq (g2 := F0 m 4 ls []) rfl ?_
  refine lv_iconst (v := 0) hx hb d_11_9_4 (by decide +kernel) ?_
  refine lv_istore_n (lv' := [(1, .int 0), (0, .ref a0)]) hx hb d_11_9_5 rfl hl (by decide) rfl (fun ls hl => ?_)
  refine lv_iload_n hx hb d_11_9_6 rfl (lv_at hl 0 rfl) ?_
  refine lv_aload_n hx hb d_11_9_7 rfl (lv_at hl 1 rfl) ?_
  refine va_get (D := z.1) (ci := 9) (v := .ref a1) (C := "Ballothall$Poll") (T := TX9) (N := 12) hx hb hts iX9 hown hG.1 hP 0 rfl rfl 0 (by decide) (hts _ w_112) (fun _ h9 => h9) rfl d_11_9_8 ?_
  refine va_getN (D := z.1) (ci := 0) (v := .int 0) (C := "Ballothall$BallotBox") (T := TX0) (N := 10) hx hb hts iX0 hown hG.1 hP 2 rfl rfl 2 (by decide) (va_Nw.use rfl (hG.2.1 _ n_58 rfl)) (fun _ h9 => h9) rfl d_11_9_11 ?_
  refine lv_icmp_ge (tgt := 44) hx hb d_11_9_14 (by decide) (fun _ => ?_) (fun c9 => absurd (by decide +kernel) c9)
  refine lv_iconst (v := (-1)) hx hb d_11_9_44 (by decide +kernel) ?_
  refine W.widen (k := 0) (n := 0) (Nat.le_of_ble_eq_true rfl) (Nat.le_of_ble_eq_true rfl) ?_
  exact W.iret hx hb hr (fun t ht hW => qk hP hD hS [0, 1, 2] rfl ((fun k => k), (fun _ _ => none)) rfl rfl rfl ht) hS.2.2 d_11_9_45
set_option maxRecDepth 100000 in
set_option maxHeartbeats 4000000 in
theorem c288_B_beatsAll (l : Launch) (z : Zz) (a0 a1 a2 a3 a4 a5 a6 a7 a8 a9 a10 a11 a12 a13 a14 a15 a16 a17 a18 a19 a20 a21 a22 a23 a24 a25 a26 a27 : Nat) : CT l z ⟨"Ballothall", "beatsAll", "()I"⟩ prog_1_method_26_code 1 (some .int) [.ref a0] [(a0, .inr (11, [.ref a1, .ref a2, .ref a3, .ref a4, .ref a5, .ref a6, .ref a7, .ref a8, .ref a9, .ref a10, .int 0, .int 0, .ref a11, .int 0])), (a1, .inr (0, [.ref a12, .int 0, .int 0, .int 0, .ref a13, .ref a14, .ref a15, .ref a16, .ref a17, .ref a18])), (a2, .inr (9, [.ref a1, .int 0, .int 0, .ref a19, .ref a20, .ref a21, .ref a22, .ref a23, .ref a24, .ref a25, .ref a26, .ref a27])), (a19, .inl (z.2 0, 31, .inl (fun _ => 0))), (a20, .inl (z.2 0, 8, .inl (fun _ => 0))), (a21, .inl (z.2 0, 8, .inl (fun _ => 0))), (a22, .inl (z.2 0, 64, .inl (fun _ => 0))), (a23, .inl (z.2 0, 8, .inl (fun _ => 0)))] 4 110 0 0 (fun u => some (.int (-1))) (fun u => [(a0, .inr (11, [.ref a1, .ref a2, .ref a3, .ref a4, .ref a5, .ref a6, .ref a7, .ref a8, .ref a9, .ref a10, .int 0, .int 0, .ref a11, .int 0])), (a1, .inr (0, [.ref a12, .int 0, .int 0, .int 0, .ref a13, .ref a14, .ref a15, .ref a16, .ref a17, .ref a18])), (a2, .inr (9, [.ref a1, .int 0, .int 0, .ref a19, .ref a20, .ref a21, .ref a22, .ref a23, .ref a24, .ref a25, .ref a26, .ref a27])), (a19, .inl (z.2 0, 31, .inl (fun _ => 0))), (a20, .inl (z.2 0, 8, .inl (fun _ => 0))), (a21, .inl (z.2 0, 8, .inl (fun _ => 0))), (a22, .inl (z.2 0, 64, .inl (fun _ => 0))), (a23, .inl (z.2 0, 8, .inl (fun _ => 0)))]) := by
  refine CT.of (own := "Ballothall") (by decide +kernel) (Nat.le_of_ble_eq_true rfl) rfl (fun p e s m below meth c A ls hx hb hml hr hts hown hlocks hin hA hG hZ hP hD hS hl => ?_)
  have hl : lv_has ls 1 [(0, .ref a0)] := hl
  refine lv_aload_n hx hb d_1_26_0 rfl (lv_at hl 0 rfl) ?_
  refine va_get (D := z.1) (ci := 11) (v := .ref a2) (C := "Ballothall") (T := TX11) (N := 14) hx hb hts iX11 hown hG.1 hP 0 rfl rfl 1 (by decide) (hts _ w_407) (fun _ h9 => h9) rfl d_1_26_1 ?_
  refine lv_aload_n hx hb d_1_26_4 rfl (lv_at hl 0 rfl) ?_
  refine va_get (D := z.1) (ci := 11) (v := .ref a1) (C := "Ballothall") (T := TX11) (N := 14) hx hb hts iX11 hown hG.1 hP 0 rfl rfl 0 (by decide) (hts _ w_406) (fun _ h9 => h9) rfl d_1_26_5 ?_
  refine kVN (As := []) (rest := [.ref a2]) (wr := [(a0, .inr (11, [.ref a1, .ref a2, .ref a3, .ref a4, .ref a5, .ref a6, .ref a7, .ref a8, .ref a9, .ref a10, .int 0, .int 0, .ref a11, .int 0])), (a2, .inr (9, [.ref a1, .int 0, .int 0, .ref a19, .ref a20, .ref a21, .ref a22, .ref a23, .ref a24, .ref a25, .ref a26, .ref a27])), (a19, .inl (z.2 0, 31, .inl (fun _ => 0))), (a20, .inl (z.2 0, 8, .inl (fun _ => 0))), (a21, .inl (z.2 0, 8, .inl (fun _ => 0))), (a22, .inl (z.2 0, 64, .inl (fun _ => 0))), (a23, .inl (z.2 0, 8, .inl (fun _ => 0)))]) (c269_BallotBox_everybody l z a1 a12 a13 a14 a15 a16 a17 a18) hx hb hml hown hts w_480 n_477 w_479 w_s_8b8b67 w_2 md_b59579 ⟨Nat.le_of_ble_eq_true rfl, Nat.le_of_ble_eq_true rfl⟩ hG hZ hP hD hS hA 1 rfl rfl rfl [1] [0, 2, 3, 4, 5, 6, 7] rfl rfl rfl rfl rfl hl.1 rfl (Nat.le_of_ble_eq_true rfl) d_1_26_8 ⟨Nat.le_of_ble_eq_true rfl, Nat.le_of_ble_eq_true rfl⟩ (fun u0 H locs hP hD hS => ?_)
  have hP : va_P z.1 classes [(a0, .inr (11, [.ref a1, .ref a2, .ref a3, .ref a4, .ref a5, .ref a6, .ref a7, .ref a8, .ref a9, .ref a10, .int 0, .int 0, .ref a11, .int 0])), (a2, .inr (9, [.ref a1, .int 0, .int 0, .ref a19, .ref a20, .ref a21, .ref a22, .ref a23, .ref a24, .ref a25, .ref a26, .ref a27])), (a19, .inl (z.2 0, 31, .inl (fun _ => 0))), (a20, .inl (z.2 0, 8, .inl (fun _ => 0))), (a21, .inl (z.2 0, 8, .inl (fun _ => 0))), (a22, .inl (z.2 0, 64, .inl (fun _ => 0))), (a23, .inl (z.2 0, 8, .inl (fun _ => 0))), (a1, .inr (0, [.ref a12, .int 0, .int 0, .int 0, .ref a13, .ref a14, .ref a15, .ref a16, .ref a17, .ref a18]))] H := hP
  have hD : va_D A [(a0, .inr (11, [.ref a1, .ref a2, .ref a3, .ref a4, .ref a5, .ref a6, .ref a7, .ref a8, .ref a9, .ref a10, .int 0, .int 0, .ref a11, .int 0])), (a2, .inr (9, [.ref a1, .int 0, .int 0, .ref a19, .ref a20, .ref a21, .ref a22, .ref a23, .ref a24, .ref a25, .ref a26, .ref a27])), (a19, .inl (z.2 0, 31, .inl (fun _ => 0))), (a20, .inl (z.2 0, 8, .inl (fun _ => 0))), (a21, .inl (z.2 0, 8, .inl (fun _ => 0))), (a22, .inl (z.2 0, 64, .inl (fun _ => 0))), (a23, .inl (z.2 0, 8, .inl (fun _ => 0))), (a1, .inr (0, [.ref a12, .int 0, .int 0, .int 0, .ref a13, .ref a14, .ref a15, .ref a16, .ref a17, .ref a18]))] := hD
  refine W.eq (g2 := F0 m 11 ls [.int 0, .ref a2]) rfl ?_
  refine kVN (As := [.int 0]) (rest := []) (wr := [(a0, .inr (11, [.ref a1, .ref a2, .ref a3, .ref a4, .ref a5, .ref a6, .ref a7, .ref a8, .ref a9, .ref a10, .int 0, .int 0, .ref a11, .int 0])), (a23, .inl (z.2 0, 8, .inl (fun _ => 0)))]) (c285_Poll_open l z a2 a1 a19 a20 a21 a22 a23 a24 a25 a26 a27 a12 a13 a14 a15 a16 a17 a18) hx hb hml hown hts w_484 n_481 w_483 w_s_229dc4 w_3 md_60bc9b ⟨Nat.le_of_ble_eq_true rfl, Nat.le_of_ble_eq_true rfl⟩ hG hZ hP hD hS hA 1 rfl rfl rfl [1, 2, 3, 4, 5, 7] [0, 6] rfl rfl rfl rfl rfl hl.1 rfl (Nat.le_of_ble_eq_true rfl) d_1_26_11 ⟨Nat.le_of_ble_eq_true rfl, Nat.le_of_ble_eq_true rfl⟩ (fun u1 H locs hP hD hS => ?_)
  have hP : va_P z.1 classes [(a0, .inr (11, [.ref a1, .ref a2, .ref a3, .ref a4, .ref a5, .ref a6, .ref a7, .ref a8, .ref a9, .ref a10, .int 0, .int 0, .ref a11, .int 0])), (a23, .inl (z.2 0, 8, .inl (fun _ => 0))), (a2, .inr (9, [.ref a1, .int 0, .int 0, .ref a19, .ref a20, .ref a21, .ref a22, .ref a23, .ref a24, .ref a25, .ref a26, .ref a27])), (a19, .inl (z.2 0, 31, .inl (fun _ => 0))), (a20, .inl (z.2 0, 8, .inl (fun _ => 0))), (a21, .inl (z.2 0, 8, .inl (fun _ => 0))), (a22, .inl (z.2 0, 64, .inl (fun _ => 0))), (a1, .inr (0, [.ref a12, .int 0, .int 0, .int 0, .ref a13, .ref a14, .ref a15, .ref a16, .ref a17, .ref a18]))] H := hP
  have hD : va_D A [(a0, .inr (11, [.ref a1, .ref a2, .ref a3, .ref a4, .ref a5, .ref a6, .ref a7, .ref a8, .ref a9, .ref a10, .int 0, .int 0, .ref a11, .int 0])), (a23, .inl (z.2 0, 8, .inl (fun _ => 0))), (a2, .inr (9, [.ref a1, .int 0, .int 0, .ref a19, .ref a20, .ref a21, .ref a22, .ref a23, .ref a24, .ref a25, .ref a26, .ref a27])), (a19, .inl (z.2 0, 31, .inl (fun _ => 0))), (a20, .inl (z.2 0, 8, .inl (fun _ => 0))), (a21, .inl (z.2 0, 8, .inl (fun _ => 0))), (a22, .inl (z.2 0, 64, .inl (fun _ => 0))), (a1, .inr (0, [.ref a12, .int 0, .int 0, .int 0, .ref a13, .ref a14, .ref a15, .ref a16, .ref a17, .ref a18]))] := hD
  refine W.eq (g2 := F0 m 14 ls []) rfl ?_
  refine lv_aload_n hx hb d_1_26_14 rfl (lv_at hl 0 rfl) ?_
  refine va_get (D := z.1) (ci := 11) (v := .ref a2) (C := "Ballothall") (T := TX11) (N := 14) hx hb hts iX11 hown hG.1 hP 0 rfl rfl 1 (by decide) (hts _ w_407) (fun _ h9 => h9) rfl d_1_26_15 ?_
  refine kVN (As := []) (rest := []) (wr := [(a0, .inr (11, [.ref a1, .ref a2, .ref a3, .ref a4, .ref a5, .ref a6, .ref a7, .ref a8, .ref a9, .ref a10, .int 0, .int 0, .ref a11, .int 0])), (a19, .inl (z.2 0, 31, .inl (fun _ => 0))), (a20, .inl (z.2 0, 8, .inl (fun _ => 0))), (a21, .inl (z.2 0, 8, .inl (fun _ => 0))), (a22, .inl (z.2 0, 64, .inl (fun _ => 0)))]) (c287_Poll_beaterOfAll l z a2 a1 a19 a20 a21 a22 a23 a24 a25 a26 a27 a12 a13 a14 a15 a16 a17 a18) hx hb hml hown hts w_516 n_513 w_515 w_s_516c18 w_3 md_056ea1 ⟨Nat.le_of_ble_eq_true rfl, Nat.le_of_ble_eq_true rfl⟩ hG hZ hP hD hS hA 2 rfl rfl rfl [2, 1, 7] [0, 3, 4, 5, 6] rfl rfl rfl rfl rfl hl.1 rfl (Nat.le_of_ble_eq_true rfl) d_1_26_18 ⟨Nat.le_of_ble_eq_true rfl, Nat.le_of_ble_eq_true rfl⟩ (fun u2 H locs hP hD hS => ?_)
  have hP : va_P z.1 classes [(a0, .inr (11, [.ref a1, .ref a2, .ref a3, .ref a4, .ref a5, .ref a6, .ref a7, .ref a8, .ref a9, .ref a10, .int 0, .int 0, .ref a11, .int 0])), (a19, .inl (z.2 0, 31, .inl (fun _ => 0))), (a20, .inl (z.2 0, 8, .inl (fun _ => 0))), (a21, .inl (z.2 0, 8, .inl (fun _ => 0))), (a22, .inl (z.2 0, 64, .inl (fun _ => 0))), (a2, .inr (9, [.ref a1, .int 0, .int 0, .ref a19, .ref a20, .ref a21, .ref a22, .ref a23, .ref a24, .ref a25, .ref a26, .ref a27])), (a23, .inl (z.2 0, 8, .inl (fun _ => 0))), (a1, .inr (0, [.ref a12, .int 0, .int 0, .int 0, .ref a13, .ref a14, .ref a15, .ref a16, .ref a17, .ref a18]))] H := hP
  have hD : va_D A [(a0, .inr (11, [.ref a1, .ref a2, .ref a3, .ref a4, .ref a5, .ref a6, .ref a7, .ref a8, .ref a9, .ref a10, .int 0, .int 0, .ref a11, .int 0])), (a19, .inl (z.2 0, 31, .inl (fun _ => 0))), (a20, .inl (z.2 0, 8, .inl (fun _ => 0))), (a21, .inl (z.2 0, 8, .inl (fun _ => 0))), (a22, .inl (z.2 0, 64, .inl (fun _ => 0))), (a2, .inr (9, [.ref a1, .int 0, .int 0, .ref a19, .ref a20, .ref a21, .ref a22, .ref a23, .ref a24, .ref a25, .ref a26, .ref a27])), (a23, .inl (z.2 0, 8, .inl (fun _ => 0))), (a1, .inr (0, [.ref a12, .int 0, .int 0, .int 0, .ref a13, .ref a14, .ref a15, .ref a16, .ref a17, .ref a18]))] := hD
  refine W.eq (g2 := F0 m 21 ls [.int (-1)]) rfl ?_
  refine W.widen (k := 0) (n := 0) (Nat.le_of_ble_eq_true rfl) (Nat.le_of_ble_eq_true rfl) ?_
  exact W.iret hx hb hr (fun t ht hW => qk hP hD hS [0, 7, 5, 1, 2, 3, 4, 6] rfl ((fun k => k), (fun _ _ => none)) rfl rfl rfl ht) hS.2.2 d_1_26_21
set_option maxRecDepth 100000 in
set_option maxHeartbeats 4000000 in
theorem c289_Poll_init (l : Launch) (z : Zz) (a0 a1 a2 : Nat) : CT l z ⟨"BallothallModel$Poll", "<init>", "([LBallothallModel$Kind;I[I)V"⟩ prog_17_method_1_code 4 none [.ref a0, .ref a1, .int 0, .ref a2] [(a0, .inr (14, [.null, .int 0, .null, .null, .int 0, .null, .null]))] 1 20 2 16 (fun u => none) (fun u => [(a0, .inr (14, [.ref a1, .int 0, .ref a2, .ref (u.1 0), .int 0, .ref (u.1 1), .null]))]) := by
  refine CT.of (own := "BallothallModel$Poll") (by decide +kernel) (Nat.le_of_ble_eq_true rfl) rfl (fun p e s m below meth c A ls hx hb hml hr hts hown hlocks hin hA hG hZ hP hD hS hl => ?_)
  have hl : lv_has ls 4 [(0, .ref a0), (1, .ref a1), (2, .int 0), (3, .ref a2)] := hl
  refine lv_aload_n hx hb d_17_1_0 rfl (lv_at hl 0 rfl) ?_
  refine W.objInit hx hb hown (hts _ w_2252) (hts _ w_43) (hts _ w_obj) rfl (by rw [hml]; exact hl.1) rfl d_17_1_1 (Nat.le_of_ble_eq_true rfl) (Nat.le_of_ble_eq_true rfl) ?_
  refine W.eq (g2 := F0 m 4 ls []) rfl ?_
  refine lv_aload_n hx hb d_17_1_4 rfl (lv_at hl 0 rfl) ?_
  refine lv_bipush (v := 8) hx hb d_17_1_5 (by decide +kernel) ?_
  refine va_newa (atype := .int) (N' := 8) (a0 := (8, .inl (fun _ => 0))) hx hb (hts _ w_105) rfl hG.1 hP hD hS hA (fun _ => rfl) (by decide +kernel) (by decide +kernel) (Nat.le_of_ble_eq_true rfl) (Nat.le_of_ble_eq_true rfl) (Nat.le_of_ble_eq_true rfl) d_17_1_7 (fun q0 cA9 H hK9 hP hD hS => ?_)
  obtain rfl := ty_eq0 hK9
  clear hK9
  have hP : va_P z.1 classes [(a0, .inr (14, [.null, .int 0, .null, .null, .int 0, .null, .null])), (q0, .inl (z.2 0, 8, .inl (fun _ => 0)))] H := hP
  have hD : va_D A [(a0, .inr (14, [.null, .int 0, .null, .null, .int 0, .null, .null])), (q0, .inl (z.2 0, 8, .inl (fun _ => 0)))] := hD
  refine va_putF (D := z.1) (ci := 14) (v := .ref q0) (ty := .array .int) (C := "BallothallModel$Poll") (T := TX14) (N := 7) hx hb hts iX14 tyX14 tyX14_ok nmX14 hown hG.1 hP hD hS 0 rfl rfl 3 (by decide) (hts _ w_2257) (fun _ h9 => h9) rfl hin rfl (by decide +kernel) rfl rfl (Nat.le_of_ble_eq_true rfl) d_17_1_9 (fun H locs hP hD hS => ?_)
  have hP : va_P z.1 classes [(a0, .inr (14, [.null, .int 0, .null, .ref q0, .int 0, .null, .null])), (q0, .inl (z.2 0, 8, .inl (fun _ => 0)))] H := hP
  have hD : va_D A [(a0, .inr (14, [.null, .int 0, .null, .ref q0, .int 0, .null, .null])), (q0, .inl (z.2 0, 8, .inl (fun _ => 0)))] := hD
  refine lv_aload_n hx hb d_17_1_12 rfl (lv_at hl 0 rfl) ?_
  refine lv_bipush (v := 8) hx hb d_17_1_13 (by decide +kernel) ?_
  refine va_newa (atype := .int) (N' := 8) (a0 := (8, .inl (fun _ => 0))) hx hb (hts _ w_105) rfl hG.1 hP hD hS hA (fun _ => rfl) (by decide +kernel) (by decide +kernel) (Nat.le_of_ble_eq_true rfl) (Nat.le_of_ble_eq_true rfl) (Nat.le_of_ble_eq_true rfl) d_17_1_15 (fun q1 cA9 H hK9 hP hD hS => ?_)
  obtain rfl := ty_eq0 hK9
  clear hK9
  have hP : va_P z.1 classes [(a0, .inr (14, [.null, .int 0, .null, .ref q0, .int 0, .null, .null])), (q0, .inl (z.2 0, 8, .inl (fun _ => 0))), (q1, .inl (z.2 0, 8, .inl (fun _ => 0)))] H := hP
  have hD : va_D A [(a0, .inr (14, [.null, .int 0, .null, .ref q0, .int 0, .null, .null])), (q0, .inl (z.2 0, 8, .inl (fun _ => 0))), (q1, .inl (z.2 0, 8, .inl (fun _ => 0)))] := hD
  refine va_putF (D := z.1) (ci := 14) (v := .ref q1) (ty := .array .int) (C := "BallothallModel$Poll") (T := TX14) (N := 7) hx hb hts iX14 tyX14 tyX14_ok nmX14 hown hG.1 hP hD hS 0 rfl rfl 5 (by decide) (hts _ w_2261) (fun _ h9 => h9) rfl hin rfl (by decide +kernel) rfl rfl (Nat.le_of_ble_eq_true rfl) d_17_1_17 (fun H locs hP hD hS => ?_)
  have hP : va_P z.1 classes [(a0, .inr (14, [.null, .int 0, .null, .ref q0, .int 0, .ref q1, .null])), (q0, .inl (z.2 0, 8, .inl (fun _ => 0))), (q1, .inl (z.2 0, 8, .inl (fun _ => 0)))] H := hP
  have hD : va_D A [(a0, .inr (14, [.null, .int 0, .null, .ref q0, .int 0, .ref q1, .null])), (q0, .inl (z.2 0, 8, .inl (fun _ => 0))), (q1, .inl (z.2 0, 8, .inl (fun _ => 0)))] := hD
  refine lv_aload_n hx hb d_17_1_20 rfl (lv_at hl 0 rfl) ?_
  refine lv_aload_n hx hb d_17_1_21 rfl (lv_at hl 1 rfl) ?_
  refine va_putF (D := z.1) (ci := 14) (v := .ref a1) (ty := .array (.object "BallothallModel$Kind")) (C := "BallothallModel$Poll") (T := TX14) (N := 7) hx hb hts iX14 tyX14 tyX14_ok nmX14 hown hG.1 hP hD hS 0 rfl rfl 0 (by decide) (hts _ w_2253) (fun _ h9 => h9) rfl hin rfl (by decide +kernel) rfl rfl (Nat.le_of_ble_eq_true rfl) d_17_1_22 (fun H locs hP hD hS => ?_)
  have hP : va_P z.1 classes [(a0, .inr (14, [.ref a1, .int 0, .null, .ref q0, .int 0, .ref q1, .null])), (q0, .inl (z.2 0, 8, .inl (fun _ => 0))), (q1, .inl (z.2 0, 8, .inl (fun _ => 0)))] H := hP
  have hD : va_D A [(a0, .inr (14, [.ref a1, .int 0, .null, .ref q0, .int 0, .ref q1, .null])), (q0, .inl (z.2 0, 8, .inl (fun _ => 0))), (q1, .inl (z.2 0, 8, .inl (fun _ => 0)))] := hD
  refine lv_aload_n hx hb d_17_1_25 rfl (lv_at hl 0 rfl) ?_
  refine lv_iload_n hx hb d_17_1_26 rfl (lv_at hl 2 rfl) ?_
  refine va_putF (D := z.1) (ci := 14) (v := .int 0) (ty := .int) (C := "BallothallModel$Poll") (T := TX14) (N := 7) hx hb hts iX14 tyX14 tyX14_ok nmX14 hown hG.1 hP hD hS 0 rfl rfl 1 (by decide) (hts _ w_2255) (fun _ h9 => h9) rfl hin rfl (by decide +kernel) rfl rfl (Nat.le_of_ble_eq_true rfl) d_17_1_27 (fun H locs hP hD hS => ?_)
  have hP : va_P z.1 classes [(a0, .inr (14, [.ref a1, .int 0, .null, .ref q0, .int 0, .ref q1, .null])), (q0, .inl (z.2 0, 8, .inl (fun _ => 0))), (q1, .inl (z.2 0, 8, .inl (fun _ => 0)))] H := hP
  have hD : va_D A [(a0, .inr (14, [.ref a1, .int 0, .null, .ref q0, .int 0, .ref q1, .null])), (q0, .inl (z.2 0, 8, .inl (fun _ => 0))), (q1, .inl (z.2 0, 8, .inl (fun _ => 0)))] := hD
  refine lv_aload_n hx hb d_17_1_30 rfl (lv_at hl 0 rfl) ?_
  refine lv_aload_n hx hb d_17_1_31 rfl (lv_at hl 3 rfl) ?_
  refine va_putF (D := z.1) (ci := 14) (v := .ref a2) (ty := .array .int) (C := "BallothallModel$Poll") (T := TX14) (N := 7) hx hb hts iX14 tyX14 tyX14_ok nmX14 hown hG.1 hP hD hS 0 rfl rfl 2 (by decide) (hts _ w_2256) (fun _ h9 => h9) rfl hin rfl (by decide +kernel) rfl rfl (Nat.le_of_ble_eq_true rfl) d_17_1_32 (fun H locs hP hD hS => ?_)
  have hP : va_P z.1 classes [(a0, .inr (14, [.ref a1, .int 0, .ref a2, .ref q0, .int 0, .ref q1, .null])), (q0, .inl (z.2 0, 8, .inl (fun _ => 0))), (q1, .inl (z.2 0, 8, .inl (fun _ => 0)))] H := hP
  have hD : va_D A [(a0, .inr (14, [.ref a1, .int 0, .ref a2, .ref q0, .int 0, .ref q1, .null])), (q0, .inl (z.2 0, 8, .inl (fun _ => 0))), (q1, .inl (z.2 0, 8, .inl (fun _ => 0)))] := hD
  refine W.widen (k := 2) (n := 16) (Nat.le_of_ble_eq_true rfl) (Nat.le_of_ble_eq_true rfl) ?_
  exact W.vret hx hb hr (fun t ht hW => qk hP hD hS [0] rfl ((fun k => ([q0, q1] : List Nat).getD k 0), (fun _ _ => none)) rfl rfl rfl ht) hS.2.2 d_17_1_35
set_option maxRecDepth 100000 in
set_option maxHeartbeats 4000000 in
theorem c290_BModel_poll (l : Launch) (z : Zz) (a0 a1 a2 a3 a4 a5 a6 a7 a8 a9 a10 a11 a12 a13 : Nat) : CT l z ⟨"BallothallModel", "poll", "()LBallothallModel$Poll;"⟩ prog_14_method_25_code 1 (some (.object "BallothallModel$Poll")) [.ref a0] [(a0, .inr (18, [.ref a1, .ref a2, .int 0, .ref a3, .int 0, .ref a4, .int 0, .null, .int 0, .null, .long 0, .int 0, .null])), (a1, .inr (17, [.int 0, .ref a5, .ref a6, .int 0, .ref a7, .ref a8, .ref a9, .null, .null, .int 0, .ref a10, .ref a11, .ref a12, .int 0, .ref a13, .int 1]))] 2 51 3 23 (fun u => some (.ref (u.1 0))) (fun u => [(a0, .inr (18, [.ref a1, .ref a2, .int 0, .ref a3, .int 0, .ref a4, .int 0, .null, .int 0, .null, .long 0, .int 0, .null])), (a1, .inr (17, [.int 0, .ref a5, .ref a6, .int 0, .ref a7, .ref a8, .ref a9, .null, .null, .int 0, .ref a10, .ref a11, .ref a12, .int 0, .ref a13, .int 1]))]) := by
  refine CT.of (own := "BallothallModel") (by decide +kernel) (Nat.le_of_ble_eq_true rfl) rfl (fun p e s m below meth c A ls hx hb hml hr hts hown hlocks hin hA hG hZ hP hD hS hl => ?_)
  have hl : lv_has ls 1 [(0, .ref a0)] := hl
  refine va_new (ci := 14) (fs := [.null, .int 0, .null, .null, .int 0, .null, .null]) (C := "BallothallModel$Poll") (T := TX14) (N := 7) hx hb hts iX14 tyX14 tyX14_ok hown (hts _ w_2247) (hts _ w_2248) (hts _ w_36) hG.1 hP hD hS hA rfl fsX14 (Nat.le_of_ble_eq_true rfl) (Nat.le_of_ble_eq_true rfl) d_14_25_0 (fun q0 H hP hD hS => ?_)
  have hP : va_P z.1 classes [(a0, .inr (18, [.ref a1, .ref a2, .int 0, .ref a3, .int 0, .ref a4, .int 0, .null, .int 0, .null, .long 0, .int 0, .null])), (a1, .inr (17, [.int 0, .ref a5, .ref a6, .int 0, .ref a7, .ref a8, .ref a9, .null, .null, .int 0, .ref a10, .ref a11, .ref a12, .int 0, .ref a13, .int 1])), (q0, .inr (14, [.null, .int 0, .null, .null, .int 0, .null, .null]))] H := hP
  have hD : va_D A [(a0, .inr (18, [.ref a1, .ref a2, .int 0, .ref a3, .int 0, .ref a4, .int 0, .null, .int 0, .null, .long 0, .int 0, .null])), (a1, .inr (17, [.int 0, .ref a5, .ref a6, .int 0, .ref a7, .ref a8, .ref a9, .null, .null, .int 0, .ref a10, .ref a11, .ref a12, .int 0, .ref a13, .int 1])), (q0, .inr (14, [.null, .int 0, .null, .null, .int 0, .null, .null]))] := hD
  refine lv_dup hx hb d_14_25_3 rfl ?_
  refine lv_aload_n hx hb d_14_25_4 rfl (lv_at hl 0 rfl) ?_
  refine va_get (D := z.1) (ci := 18) (v := .ref a1) (C := "BallothallModel") (T := TX18) (N := 13) hx hb hts iX18 hown hG.1 hP 0 rfl rfl 0 (by decide) (hts _ w_1645) (fun _ h9 => h9) rfl d_14_25_5 ?_
  refine va_getN (D := z.1) (ci := 17) (v := .ref a6) (C := "BallothallModel$State") (T := TX17) (N := 16) hx hb hts iX17 hown hG.1 hP 1 rfl rfl 2 (by decide) (va_Nw.use rfl (hG.2.1 _ n_1584 rfl)) (fun _ h9 => h9) rfl d_14_25_8 ?_
  refine lv_aload_n hx hb d_14_25_11 rfl (lv_at hl 0 rfl) ?_
  refine kV (As := []) (rest := [.ref a6, .ref q0, .ref q0]) (wr := [(q0, .inr (14, [.null, .int 0, .null, .null, .int 0, .null, .null]))]) (c277_BModel_everybody l z a0 a1 a2 a3 a4 a5 a6 a7 a8 a9 a10 a11 a12 a13) hx hb hml hown hts w_2233 w_2230 w_2232 w_s_4b155b w_12 md_a32d0e ⟨Nat.le_of_ble_eq_true rfl, Nat.le_of_ble_eq_true rfl⟩ hG hZ hP hD hS hA 0 rfl rfl rfl [0, 1] [2] rfl rfl rfl rfl rfl hl.1 rfl (Nat.le_of_ble_eq_true rfl) d_14_25_12 ⟨Nat.le_of_ble_eq_true rfl, Nat.le_of_ble_eq_true rfl⟩ (fun u0 H locs hP hD hS => ?_)
  have hP : va_P z.1 classes [(q0, .inr (14, [.null, .int 0, .null, .null, .int 0, .null, .null])), (a0, .inr (18, [.ref a1, .ref a2, .int 0, .ref a3, .int 0, .ref a4, .int 0, .null, .int 0, .null, .long 0, .int 0, .null])), (a1, .inr (17, [.int 0, .ref a5, .ref a6, .int 0, .ref a7, .ref a8, .ref a9, .null, .null, .int 0, .ref a10, .ref a11, .ref a12, .int 0, .ref a13, .int 1]))] H := hP
  have hD : va_D A [(q0, .inr (14, [.null, .int 0, .null, .null, .int 0, .null, .null])), (a0, .inr (18, [.ref a1, .ref a2, .int 0, .ref a3, .int 0, .ref a4, .int 0, .null, .int 0, .null, .long 0, .int 0, .null])), (a1, .inr (17, [.int 0, .ref a5, .ref a6, .int 0, .ref a7, .ref a8, .ref a9, .null, .null, .int 0, .ref a10, .ref a11, .ref a12, .int 0, .ref a13, .int 1]))] := hD
  refine W.eq (g2 := F0 m 15 ls [.int 0, .ref a6, .ref q0, .ref q0]) rfl ?_
  refine lv_aload_n hx hb d_14_25_15 rfl (lv_at hl 0 rfl) ?_
  refine va_get (D := z.1) (ci := 18) (v := .ref a1) (C := "BallothallModel") (T := TX18) (N := 13) hx hb hts iX18 hown hG.1 hP 1 rfl rfl 0 (by decide) (hts _ w_1645) (fun _ h9 => h9) rfl d_14_25_16 ?_
  refine va_getN (D := z.1) (ci := 17) (v := .ref a5) (C := "BallothallModel$State") (T := TX17) (N := 16) hx hb hts iX17 hown hG.1 hP 2 rfl rfl 1 (by decide) (va_Nw.use rfl (hG.2.1 _ n_1582 rfl)) (fun _ h9 => h9) rfl d_14_25_19 ?_
  refine kI (As := [.ref a6, .int 0, .ref a5]) (rest := [.ref q0]) (wr := [(a0, .inr (18, [.ref a1, .ref a2, .int 0, .ref a3, .int 0, .ref a4, .int 0, .null, .int 0, .null, .long 0, .int 0, .null])), (a1, .inr (17, [.int 0, .ref a5, .ref a6, .int 0, .ref a7, .ref a8, .ref a9, .null, .null, .int 0, .ref a10, .ref a11, .ref a12, .int 0, .ref a13, .int 1]))]) (c289_Poll_init l z q0 a6 a5) hx hb hml hown hts w_2251 w_2249 w_2250 rfl w_36 md_7c5b4a ⟨Nat.le_of_ble_eq_true rfl, Nat.le_of_ble_eq_true rfl⟩ hG hZ hP hD hS hA [0] [1, 2] rfl rfl rfl rfl rfl hl.1 rfl (Nat.le_of_ble_eq_true rfl) d_14_25_22 ⟨Nat.le_of_ble_eq_true rfl, Nat.le_of_ble_eq_true rfl⟩ (fun u1 H locs hP hD hS => ?_)
  have hP : va_P z.1 classes [(a0, .inr (18, [.ref a1, .ref a2, .int 0, .ref a3, .int 0, .ref a4, .int 0, .null, .int 0, .null, .long 0, .int 0, .null])), (a1, .inr (17, [.int 0, .ref a5, .ref a6, .int 0, .ref a7, .ref a8, .ref a9, .null, .null, .int 0, .ref a10, .ref a11, .ref a12, .int 0, .ref a13, .int 1])), (q0, .inr (14, [.ref a6, .int 0, .ref a5, .ref (u1.1 0), .int 0, .ref (u1.1 1), .null]))] H := hP
  have hD : va_D A [(a0, .inr (18, [.ref a1, .ref a2, .int 0, .ref a3, .int 0, .ref a4, .int 0, .null, .int 0, .null, .long 0, .int 0, .null])), (a1, .inr (17, [.int 0, .ref a5, .ref a6, .int 0, .ref a7, .ref a8, .ref a9, .null, .null, .int 0, .ref a10, .ref a11, .ref a12, .int 0, .ref a13, .int 1])), (q0, .inr (14, [.ref a6, .int 0, .ref a5, .ref (u1.1 0), .int 0, .ref (u1.1 1), .null]))] := hD
  refine W.eq (g2 := F0 m 25 ls [.ref q0]) rfl ?_
  refine W.widen (k := 3) (n := 23) (Nat.le_of_ble_eq_true rfl) (Nat.le_of_ble_eq_true rfl) ?_
  exact W.aret hx hb hr (Or.inl ⟨_, rfl⟩) (Or.inr ⟨_, rfl⟩) (fun t ht hW => qk hP hD hS [0, 1] rfl ((fun k => ([q0] : List Nat).getD k 0), (fun _ _ => none)) rfl rfl rfl ht) hS.2.2 d_14_25_25
set_option maxRecDepth 100000 in
set_option maxHeartbeats 4000000 in
theorem c291_BModel_beatsAll (l : Launch) (z : Zz) (a0 a1 a2 a3 a4 a5 a6 a7 a8 a9 a10 a11 a12 a13 : Nat) : CT l z ⟨"BallothallModel", "beatsAll", "()I"⟩ prog_14_method_59_code 5 (some .int) [.ref a0] [(a0, .inr (18, [.ref a1, .ref a2, .int 0, .ref a3, .int 0, .ref a4, .int 0, .null, .int 0, .null, .long 0, .int 0, .null])), (a1, .inr (17, [.int 0, .ref a5, .ref a6, .int 0, .ref a7, .ref a8, .ref a9, .null, .null, .int 0, .ref a10, .ref a11, .ref a12, .int 0, .ref a13, .int 1]))] 3 79 3 23 (fun u => some (.int (-1))) (fun u => [(a0, .inr (18, [.ref a1, .ref a2, .int 0, .ref a3, .int 0, .ref a4, .int 0, .null, .int 0, .null, .long 0, .int 0, .null])), (a1, .inr (17, [.int 0, .ref a5, .ref a6, .int 0, .ref a7, .ref a8, .ref a9, .null, .null, .int 0, .ref a10, .ref a11, .ref a12, .int 0, .ref a13, .int 1]))]) := by
  refine CT.of (own := "BallothallModel") (by decide +kernel) (Nat.le_of_ble_eq_true rfl) rfl (fun p e s m below meth c A ls hx hb hml hr hts hown hlocks hin hA hG hZ hP hD hS hl => ?_)
  have hl : lv_has ls 5 [(0, .ref a0)] := hl
  refine lv_aload_n hx hb d_14_59_0 rfl (lv_at hl 0 rfl) ?_
  refine lv_iconst (v := 0) hx hb d_14_59_1 (by decide +kernel) ?_
  refine va_put (D := z.1) (ci := 18) (v := .int 0) (ty := .int) (C := "BallothallModel") (T := TX18) (N := 13) hx hb hts iX18 tyX18 tyX18_ok nmX18 hown hG.1 hP hD hS 0 rfl rfl 6 (by decide) (hts _ w_1651) (fun _ h9 => h9) rfl (by decide +kernel) rfl rfl (Nat.le_of_ble_eq_true rfl) d_14_59_2 (fun H locs hP hD hS => ?_)
  have hP : va_P z.1 classes [(a0, .inr (18, [.ref a1, .ref a2, .int 0, .ref a3, .int 0, .ref a4, .int 0, .null, .int 0, .null, .long 0, .int 0, .null])), (a1, .inr (17, [.int 0, .ref a5, .ref a6, .int 0, .ref a7, .ref a8, .ref a9, .null, .null, .int 0, .ref a10, .ref a11, .ref a12, .int 0, .ref a13, .int 1]))] H := hP
  have hD : va_D A [(a0, .inr (18, [.ref a1, .ref a2, .int 0, .ref a3, .int 0, .ref a4, .int 0, .null, .int 0, .null, .long 0, .int 0, .null])), (a1, .inr (17, [.int 0, .ref a5, .ref a6, .int 0, .ref a7, .ref a8, .ref a9, .null, .null, .int 0, .ref a10, .ref a11, .ref a12, .int 0, .ref a13, .int 1]))] := hD
  refine lv_aload_n hx hb d_14_59_5 rfl (lv_at hl 0 rfl) ?_
  refine kV (As := []) (rest := []) (wr := []) (c290_BModel_poll l z a0 a1 a2 a3 a4 a5 a6 a7 a8 a9 a10 a11 a12 a13) hx hb hml hown hts w_2246 w_2243 w_2245 w_s_14a2f1 w_12 md_55febb ⟨Nat.le_of_ble_eq_true rfl, Nat.le_of_ble_eq_true rfl⟩ hG hZ hP hD hS hA 0 rfl rfl rfl [0, 1] [] rfl rfl rfl rfl rfl hl.1 rfl (Nat.le_of_ble_eq_true rfl) d_14_59_6 ⟨Nat.le_of_ble_eq_true rfl, Nat.le_of_ble_eq_true rfl⟩ (fun u0 H locs hP hD hS => ?_)
  have hP : va_P z.1 classes [(a0, .inr (18, [.ref a1, .ref a2, .int 0, .ref a3, .int 0, .ref a4, .int 0, .null, .int 0, .null, .long 0, .int 0, .null])), (a1, .inr (17, [.int 0, .ref a5, .ref a6, .int 0, .ref a7, .ref a8, .ref a9, .null, .null, .int 0, .ref a10, .ref a11, .ref a12, .int 0, .ref a13, .int 1]))] H := hP
  have hD : va_D A [(a0, .inr (18, [.ref a1, .ref a2, .int 0, .ref a3, .int 0, .ref a4, .int 0, .null, .int 0, .null, .long 0, .int 0, .null])), (a1, .inr (17, [.int 0, .ref a5, .ref a6, .int 0, .ref a7, .ref a8, .ref a9, .null, .null, .int 0, .ref a10, .ref a11, .ref a12, .int 0, .ref a13, .int 1]))] := hD
  refine W.eq (g2 := F0 m 9 ls [.ref (u0.1 0)]) rfl ?_
  refine lv_astore_n (lv' := [(1, .ref (u0.1 0)), (0, .ref a0)]) hx hb d_14_59_9 rfl hl (by decide) rfl (fun ls hl => ?_)
  refine lv_iconst (v := 0) hx hb d_14_59_10 (by decide +kernel) ?_
  refine lv_istore_n (lv' := [(2, .int 0), (1, .ref (u0.1 0)), (0, .ref a0)]) hx hb d_14_59_11 rfl hl (by decide) rfl (fun ls hl => ?_)
  refine lv_iload_n hx hb d_14_59_12 rfl (lv_at hl 0 rfl) ?_
  refine lv_aload_n hx hb d_14_59_13 rfl (lv_at hl 2 rfl) ?_
  refine va_get (D := z.1) (ci := 18) (v := .ref a1) (C := "BallothallModel") (T := TX18) (N := 13) hx hb hts iX18 hown hG.1 hP 0 rfl rfl 0 (by decide) (hts _ w_1645) (fun _ h9 => h9) rfl d_14_59_14 ?_
  refine va_getN (D := z.1) (ci := 17) (v := .int 0) (C := "BallothallModel$State") (T := TX17) (N := 16) hx hb hts iX17 hown hG.1 hP 1 rfl rfl 0 (by decide) (va_Nw.use rfl (hG.2.1 _ n_1580 rfl)) (fun _ h9 => h9) rfl d_14_59_17 ?_
  refine lv_icmp_ge (tgt := 84) hx hb d_14_59_20 (by decide) (fun _ => ?_) (fun c9 => absurd (by decide +kernel) c9)
  refine lv_iconst (v := (-1)) hx hb d_14_59_84 (by decide +kernel) ?_
  refine W.widen (k := 3) (n := 23) (Nat.le_of_ble_eq_true rfl) (Nat.le_of_ble_eq_true rfl) ?_
  exact W.iret hx hb hr (fun t ht hW => qk hP hD hS [0, 1] rfl ((fun k => k), (fun _ _ => none)) rfl rfl rfl ht) hS.2.2 d_14_59_85
set_option maxRecDepth 100000 in
set_option maxHeartbeats 4000000 in
theorem c292_B_strongestPath (l : Launch) (z : Zz) (hl0 : l.stackTraces = false) (a0 a1 a2 a3 a4 a5 a6 a7 a8 a9 a10 a11 a12 a13 a14 a15 a16 a17 a18 : Nat) (x0 : Int32) (x1 : Int32) (h0 : x0 < 0) : XT l z ⟨"Ballothall", "strongestPath", "(II)I"⟩ prog_1_method_27_code 3 (some .int) [.ref a0, .int x0, .int x1] [(a0, .inr (11, [.ref a1, .ref a2, .ref a3, .ref a4, .ref a5, .ref a6, .ref a7, .ref a8, .ref a9, .ref a10, .int 0, .int 0, .ref a11, .int 0])), (a1, .inr (0, [.ref a12, .int 0, .int 0, .int 0, .ref a13, .ref a14, .ref a15, .ref a16, .ref a17, .ref a18]))] 7 127 1 6 "java/lang/IndexOutOfBoundsException" := by
  refine XT.of (own := "Ballothall") (by decide +kernel) (Nat.le_of_ble_eq_true rfl) rfl (fun p e s m below meth c A ls hx hb hml hr hts hown hlocks hin hA hG hZ hP hD hS hl hnt => ?_)
  have hl : lv_has ls 3 [(0, .ref a0), (1, .int x0), (2, .int x1)] := hl
  refine lv_iload_n hx hb d_1_27_0 rfl (lv_at hl 1 rfl) ?_
  refine lv_aload_n hx hb d_1_27_1 rfl (lv_at hl 0 rfl) ?_
  refine va_get (D := z.1) (ci := 11) (v := .ref a1) (C := "Ballothall") (T := TX11) (N := 14) hx hb hts iX11 hown hG.1 hP 0 rfl rfl 0 (by decide) (hts _ w_406) (fun _ h9 => h9) rfl d_1_27_2 ?_
  refine va_getN (D := z.1) (ci := 0) (v := .int 0) (C := "Ballothall$BallotBox") (T := TX0) (N := 10) hx hb hts iX0 hown hG.1 hP 1 rfl rfl 2 (by decide) (va_Nw.use rfl (hG.2.1 _ n_57 rfl)) (fun _ h9 => h9) rfl d_1_27_5 ?_
  exact xS (As := [.int x0, .int 0]) (rest := []) (wr := [(a0, .inr (11, [.ref a1, .ref a2, .ref a3, .ref a4, .ref a5, .ref a6, .ref a7, .ref a8, .ref a9, .ref a10, .int 0, .int 0, .ref a11, .int 0])), (a1, .inr (0, [.ref a12, .int 0, .int 0, .int 0, .ref a13, .ref a14, .ref a15, .ref a16, .ref a17, .ref a18]))]) (c26_B_needIndex l z hl0 x0 h0) hx hb hml hown hts w_857 w_855 w_856 w_1 md_6cb26b ⟨Nat.le_of_ble_eq_true rfl, Nat.le_of_ble_eq_true rfl⟩ hG hZ hP hD hS hA [] [0, 1] rfl rfl rfl rfl rfl hl.1 rfl (Nat.le_of_ble_eq_true rfl) d_1_27_8 ⟨Nat.le_of_ble_eq_true rfl, Nat.le_of_ble_eq_true rfl⟩ (fun q9 ce9 H locs hP hD hS h7 h8 h9 => x_out hnt hlocks hS h7 h8 h9 (Nat.le_of_ble_eq_true rfl) (Nat.le_of_ble_eq_true rfl))
set_option maxRecDepth 100000 in
set_option maxHeartbeats 4000000 in
theorem c293_BLaw_strongestPath (l : Launch) (z : Zz) (hl0 : l.stackTraces = false) (a0 a1 a2 a3 a4 a5 a6 a7 a8 a9 a10 a11 a12 a13 a14 a15 a16 a17 a18 a19 : Nat) (x0 : Int32) (x1 : Int32) (h0 : x0 < 0) : HT l z ⟨"BallothallLaw", "strongestPath", "(LBallothall;II[J)I"⟩ method_23_code 5 (some .int) [(0, 10, 13, 19)] [.ref a0, .int x0, .int x1, .ref a1] [(a0, .inr (11, [.ref a2, .ref a3, .ref a4, .ref a5, .ref a6, .ref a7, .ref a8, .ref a9, .ref a10, .ref a11, .int 0, .int 0, .ref a12, .int 0])), (a2, .inr (0, [.ref a13, .int 0, .int 0, .int 0, .ref a14, .ref a15, .ref a16, .ref a17, .ref a18, .ref a19]))] 8 157 1 6 (fun u => some (.int 1)) (fun u => []) := by
  refine HT.of (own := "BallothallLaw") (by decide +kernel) (Nat.le_of_ble_eq_true rfl) rfl (fun p e s m below meth c A ls hx hb hml hr hts hown hlocks hin hA hG hZ hP hD hS hl htab => ?_)
  have hl : lv_has ls 5 [(0, .ref a0), (1, .int x0), (2, .int x1), (3, .ref a1)] := hl
  refine lv_aload_n hx hb d_L23_0 rfl (lv_at hl 3 rfl) ?_
  refine lv_iconst (v := 0) hx hb d_L23_1 (by decide +kernel) ?_
  refine lv_aload_n hx hb d_L23_2 rfl (lv_at hl 0 rfl) ?_
  refine lv_iload_n hx hb d_L23_3 rfl (lv_at hl 1 rfl) ?_
  refine lv_iload_n hx hb d_L23_4 rfl (lv_at hl 2 rfl) ?_
  refine xV (As := [.int x0, .int x1]) (rest := [.int 0, .ref a1]) (wr := []) (c292_B_strongestPath l z hl0 a0 a2 a3 a4 a5 a6 a7 a8 a9 a10 a11 a12 a13 a14 a15 a16 a17 a18 a19 x0 x1 h0) hx hb hml hown hts w_1335 w_1332 w_1333 w_1334 w_1 md_8882e3 ⟨Nat.le_of_ble_eq_true rfl, Nat.le_of_ble_eq_true rfl⟩ hG hZ hP hD hS hA 0 rfl rfl rfl [0, 1] [] rfl rfl rfl rfl rfl hl.1 rfl (Nat.le_of_ble_eq_true rfl) d_L23_5 ⟨Nat.le_of_ble_eq_true rfl, Nat.le_of_ble_eq_true rfl⟩ (fun q0 ce9 H locs hP hD hS h7 h8 h9 => ?_)
  have hP : va_P z.1 classes [] H := hP
  have hD : va_D A [] := hD
  refine vx_catch hown [] ⟨0, 10, 13, 19⟩ [] (htab.trans rfl) (fun _ h9 => absurd h9 List.not_mem_nil) rfl (by decide) (hts _ w_849) (va_Nw.use rfl (hG.2.1 _ n_860 rfl)) h7 h8 h9 ?_
  refine lv_astore (lv' := [(4, .ref q0), (0, .ref a0), (1, .int x0), (2, .int x1), (3, .ref a1)]) hx hb d_L23_13 hl (by decide) rfl (fun ls hl => ?_)
  refine lv_iconst (v := 1) hx hb d_L23_15 (by decide +kernel) ?_
  refine W.widen (k := 1) (n := 6) (Nat.le_of_ble_eq_true rfl) (Nat.le_of_ble_eq_true rfl) ?_
  refine vx_ret ?_
  exact W.iret hx hb hr (fun t ht hW => qk hP hD hS [] rfl ((fun k => k), (fun _ _ => none)) rfl rfl rfl ht) hS.2.2 d_L23_16
set_option maxRecDepth 100000 in
set_option maxHeartbeats 4000000 in
theorem c294_BModel_strongestPath (l : Launch) (z : Zz) (a0 a1 a2 a3 a4 a5 a6 a7 a8 a9 a10 a11 a12 a13 : Nat) (x0 : Int32) (x1 : Int32) (h0 : x0 < 0) : CT l z ⟨"BallothallModel", "strongestPath", "(II)I"⟩ prog_14_method_60_code 3 (some .int) [.ref a0, .int x0, .int x1] [(a0, .inr (18, [.ref a1, .ref a2, .int 0, .ref a3, .int 0, .ref a4, .int 0, .null, .int 0, .null, .long 0, .int 0, .null])), (a1, .inr (17, [.int 0, .ref a5, .ref a6, .int 0, .ref a7, .ref a8, .ref a9, .null, .null, .int 0, .ref a10, .ref a11, .ref a12, .int 0, .ref a13, .int 1]))] 2 59 0 0 (fun u => some (.int 0)) (fun u => [(a0, .inr (18, [.ref a1, .ref a2, .int 0, .ref a3, .int 0, .ref a4, .int 1, .null, .int 0, .null, .long 0, .int 0, .null])), (a1, .inr (17, [.int 0, .ref a5, .ref a6, .int 0, .ref a7, .ref a8, .ref a9, .null, .null, .int 0, .ref a10, .ref a11, .ref a12, .int 0, .ref a13, .int 1]))]) := by
  refine CT.of (own := "BallothallModel") (by decide +kernel) (Nat.le_of_ble_eq_true rfl) rfl (fun p e s m below meth c A ls hx hb hml hr hts hown hlocks hin hA hG hZ hP hD hS hl => ?_)
  have hl : lv_has ls 3 [(0, .ref a0), (1, .int x0), (2, .int x1)] := hl
  refine lv_aload_n hx hb d_14_60_0 rfl (lv_at hl 0 rfl) ?_
  refine lv_aload_n hx hb d_14_60_1 rfl (lv_at hl 0 rfl) ?_
  refine lv_iload_n hx hb d_14_60_2 rfl (lv_at hl 1 rfl) ?_
  refine kV (As := [.int x0]) (rest := [.ref a0]) (wr := []) (c30_BModel_isCandidate l z a0 a1 a2 a3 a4 a5 a6 a7 a8 a9 a10 a11 a12 a13 x0 h0) hx hb hml hown hts w_1722 w_1719 w_1721 w_s_8d307b w_12 md_521241 ⟨Nat.le_of_ble_eq_true rfl, Nat.le_of_ble_eq_true rfl⟩ hG hZ hP hD hS hA 0 rfl rfl rfl [0, 1] [] rfl rfl rfl rfl rfl hl.1 rfl (Nat.le_of_ble_eq_true rfl) d_14_60_3 ⟨Nat.le_of_ble_eq_true rfl, Nat.le_of_ble_eq_true rfl⟩ (fun u0 H locs hP hD hS => ?_)
  have hP : va_P z.1 classes [(a0, .inr (18, [.ref a1, .ref a2, .int 0, .ref a3, .int 0, .ref a4, .int 0, .null, .int 0, .null, .long 0, .int 0, .null])), (a1, .inr (17, [.int 0, .ref a5, .ref a6, .int 0, .ref a7, .ref a8, .ref a9, .null, .null, .int 0, .ref a10, .ref a11, .ref a12, .int 0, .ref a13, .int 1]))] H := hP
  have hD : va_D A [(a0, .inr (18, [.ref a1, .ref a2, .int 0, .ref a3, .int 0, .ref a4, .int 0, .null, .int 0, .null, .long 0, .int 0, .null])), (a1, .inr (17, [.int 0, .ref a5, .ref a6, .int 0, .ref a7, .ref a8, .ref a9, .null, .null, .int 0, .ref a10, .ref a11, .ref a12, .int 0, .ref a13, .int 1]))] := hD
  refine W.eq (g2 := F0 m 6 ls [.int 0, .ref a0]) rfl ?_
  refine lv_if_eq (tgt := 21) hx hb d_14_60_6 (by decide) (fun _ => ?_) (fun c9 => absurd (by decide +kernel) c9)
  refine lv_iconst (v := 0) hx hb d_14_60_21 (by decide +kernel) ?_
  refine lv_iconst (v := 1) hx hb d_14_60_22 (by decide +kernel) ?_
  refine kV (As := [.int 0, .int 1]) (rest := []) (wr := [(a1, .inr (17, [.int 0, .ref a5, .ref a6, .int 0, .ref a7, .ref a8, .ref a9, .null, .null, .int 0, .ref a10, .ref a11, .ref a12, .int 0, .ref a13, .int 1]))]) (c31_BModel_ends l z a0 a1 a2 a3 a4) hx hb hml hown hts w_1696 w_1693 w_1695 w_s_f8f2b7 w_12 md_77b0f8 ⟨Nat.le_of_ble_eq_true rfl, Nat.le_of_ble_eq_true rfl⟩ hG hZ hP hD hS hA 0 rfl rfl rfl [0] [1] rfl rfl rfl rfl rfl hl.1 rfl (Nat.le_of_ble_eq_true rfl) d_14_60_23 ⟨Nat.le_of_ble_eq_true rfl, Nat.le_of_ble_eq_true rfl⟩ (fun u1 H locs hP hD hS => ?_)
  have hP : va_P z.1 classes [(a1, .inr (17, [.int 0, .ref a5, .ref a6, .int 0, .ref a7, .ref a8, .ref a9, .null, .null, .int 0, .ref a10, .ref a11, .ref a12, .int 0, .ref a13, .int 1])), (a0, .inr (18, [.ref a1, .ref a2, .int 0, .ref a3, .int 0, .ref a4, .int 1, .null, .int 0, .null, .long 0, .int 0, .null]))] H := hP
  have hD : va_D A [(a1, .inr (17, [.int 0, .ref a5, .ref a6, .int 0, .ref a7, .ref a8, .ref a9, .null, .null, .int 0, .ref a10, .ref a11, .ref a12, .int 0, .ref a13, .int 1])), (a0, .inr (18, [.ref a1, .ref a2, .int 0, .ref a3, .int 0, .ref a4, .int 1, .null, .int 0, .null, .long 0, .int 0, .null]))] := hD
  refine W.eq (g2 := F0 m 26 ls [.int 1]) rfl ?_
  refine lv_if_eq (tgt := 33) hx hb d_14_60_26 (by decide) (fun c9 => absurd c9 (by decide +kernel)) (fun _ => ?_)
  refine lv_iconst (v := 0) hx hb d_14_60_29 (by decide +kernel) ?_
  refine lv_goto (tgt := 44) hx hb d_14_60_30 (by decide) ?_
  refine W.widen (k := 0) (n := 0) (Nat.le_of_ble_eq_true rfl) (Nat.le_of_ble_eq_true rfl) ?_
  exact W.iret hx hb hr (fun t ht hW => qk hP hD hS [1, 0] rfl ((fun k => k), (fun _ _ => none)) rfl rfl rfl ht) hS.2.2 d_14_60_44
set_option maxRecDepth 100000 in
set_option maxHeartbeats 4000000 in
theorem c295_B_strongestPath (l : Launch) (z : Zz) (hl0 : l.stackTraces = false) (a0 a1 a2 a3 a4 a5 a6 a7 a8 a9 a10 a11 a12 a13 a14 a15 a16 a17 a18 : Nat) (x0 : Int32) (x1 : Int32) (h0 : ¬ x0 < 0) : XT l z ⟨"Ballothall", "strongestPath", "(II)I"⟩ prog_1_method_27_code 3 (some .int) [.ref a0, .int x0, .int x1] [(a0, .inr (11, [.ref a1, .ref a2, .ref a3, .ref a4, .ref a5, .ref a6, .ref a7, .ref a8, .ref a9, .ref a10, .int 0, .int 0, .ref a11, .int 0])), (a1, .inr (0, [.ref a12, .int 0, .int 0, .int 0, .ref a13, .ref a14, .ref a15, .ref a16, .ref a17, .ref a18]))] 7 127 1 6 "java/lang/IndexOutOfBoundsException" := by
  refine XT.of (own := "Ballothall") (by decide +kernel) (Nat.le_of_ble_eq_true rfl) rfl (fun p e s m below meth c A ls hx hb hml hr hts hown hlocks hin hA hG hZ hP hD hS hl hnt => ?_)
  have hl : lv_has ls 3 [(0, .ref a0), (1, .int x0), (2, .int x1)] := hl
  refine lv_iload_n hx hb d_1_27_0 rfl (lv_at hl 1 rfl) ?_
  refine lv_aload_n hx hb d_1_27_1 rfl (lv_at hl 0 rfl) ?_
  refine va_get (D := z.1) (ci := 11) (v := .ref a1) (C := "Ballothall") (T := TX11) (N := 14) hx hb hts iX11 hown hG.1 hP 0 rfl rfl 0 (by decide) (hts _ w_406) (fun _ h9 => h9) rfl d_1_27_2 ?_
  refine va_getN (D := z.1) (ci := 0) (v := .int 0) (C := "Ballothall$BallotBox") (T := TX0) (N := 10) hx hb hts iX0 hown hG.1 hP 1 rfl rfl 2 (by decide) (va_Nw.use rfl (hG.2.1 _ n_57 rfl)) (fun _ h9 => h9) rfl d_1_27_5 ?_
  exact xS (As := [.int x0, .int 0]) (rest := []) (wr := [(a0, .inr (11, [.ref a1, .ref a2, .ref a3, .ref a4, .ref a5, .ref a6, .ref a7, .ref a8, .ref a9, .ref a10, .int 0, .int 0, .ref a11, .int 0])), (a1, .inr (0, [.ref a12, .int 0, .int 0, .int 0, .ref a13, .ref a14, .ref a15, .ref a16, .ref a17, .ref a18]))]) (c34_B_needIndex l z hl0 x0 h0) hx hb hml hown hts w_857 w_855 w_856 w_1 md_6cb26b ⟨Nat.le_of_ble_eq_true rfl, Nat.le_of_ble_eq_true rfl⟩ hG hZ hP hD hS hA [] [0, 1] rfl rfl rfl rfl rfl hl.1 rfl (Nat.le_of_ble_eq_true rfl) d_1_27_8 ⟨Nat.le_of_ble_eq_true rfl, Nat.le_of_ble_eq_true rfl⟩ (fun q9 ce9 H locs hP hD hS h7 h8 h9 => x_out hnt hlocks hS h7 h8 h9 (Nat.le_of_ble_eq_true rfl) (Nat.le_of_ble_eq_true rfl))
set_option maxRecDepth 100000 in
set_option maxHeartbeats 4000000 in
theorem c296_BLaw_strongestPath (l : Launch) (z : Zz) (hl0 : l.stackTraces = false) (a0 a1 a2 a3 a4 a5 a6 a7 a8 a9 a10 a11 a12 a13 a14 a15 a16 a17 a18 a19 : Nat) (x0 : Int32) (x1 : Int32) (h0 : ¬ x0 < 0) : HT l z ⟨"BallothallLaw", "strongestPath", "(LBallothall;II[J)I"⟩ method_23_code 5 (some .int) [(0, 10, 13, 19)] [.ref a0, .int x0, .int x1, .ref a1] [(a0, .inr (11, [.ref a2, .ref a3, .ref a4, .ref a5, .ref a6, .ref a7, .ref a8, .ref a9, .ref a10, .ref a11, .int 0, .int 0, .ref a12, .int 0])), (a2, .inr (0, [.ref a13, .int 0, .int 0, .int 0, .ref a14, .ref a15, .ref a16, .ref a17, .ref a18, .ref a19]))] 8 157 1 6 (fun u => some (.int 1)) (fun u => []) := by
  refine HT.of (own := "BallothallLaw") (by decide +kernel) (Nat.le_of_ble_eq_true rfl) rfl (fun p e s m below meth c A ls hx hb hml hr hts hown hlocks hin hA hG hZ hP hD hS hl htab => ?_)
  have hl : lv_has ls 5 [(0, .ref a0), (1, .int x0), (2, .int x1), (3, .ref a1)] := hl
  refine lv_aload_n hx hb d_L23_0 rfl (lv_at hl 3 rfl) ?_
  refine lv_iconst (v := 0) hx hb d_L23_1 (by decide +kernel) ?_
  refine lv_aload_n hx hb d_L23_2 rfl (lv_at hl 0 rfl) ?_
  refine lv_iload_n hx hb d_L23_3 rfl (lv_at hl 1 rfl) ?_
  refine lv_iload_n hx hb d_L23_4 rfl (lv_at hl 2 rfl) ?_
  refine xV (As := [.int x0, .int x1]) (rest := [.int 0, .ref a1]) (wr := []) (c295_B_strongestPath l z hl0 a0 a2 a3 a4 a5 a6 a7 a8 a9 a10 a11 a12 a13 a14 a15 a16 a17 a18 a19 x0 x1 h0) hx hb hml hown hts w_1335 w_1332 w_1333 w_1334 w_1 md_8882e3 ⟨Nat.le_of_ble_eq_true rfl, Nat.le_of_ble_eq_true rfl⟩ hG hZ hP hD hS hA 0 rfl rfl rfl [0, 1] [] rfl rfl rfl rfl rfl hl.1 rfl (Nat.le_of_ble_eq_true rfl) d_L23_5 ⟨Nat.le_of_ble_eq_true rfl, Nat.le_of_ble_eq_true rfl⟩ (fun q0 ce9 H locs hP hD hS h7 h8 h9 => ?_)
  have hP : va_P z.1 classes [] H := hP
  have hD : va_D A [] := hD
  refine vx_catch hown [] ⟨0, 10, 13, 19⟩ [] (htab.trans rfl) (fun _ h9 => absurd h9 List.not_mem_nil) rfl (by decide) (hts _ w_849) (va_Nw.use rfl (hG.2.1 _ n_860 rfl)) h7 h8 h9 ?_
  refine lv_astore (lv' := [(4, .ref q0), (0, .ref a0), (1, .int x0), (2, .int x1), (3, .ref a1)]) hx hb d_L23_13 hl (by decide) rfl (fun ls hl => ?_)
  refine lv_iconst (v := 1) hx hb d_L23_15 (by decide +kernel) ?_
  refine W.widen (k := 1) (n := 6) (Nat.le_of_ble_eq_true rfl) (Nat.le_of_ble_eq_true rfl) ?_
  refine vx_ret ?_
  exact W.iret hx hb hr (fun t ht hW => qk hP hD hS [] rfl ((fun k => k), (fun _ _ => none)) rfl rfl rfl ht) hS.2.2 d_L23_16
set_option maxRecDepth 100000 in
set_option maxHeartbeats 4000000 in
theorem c297_BModel_strongestPath (l : Launch) (z : Zz) (a0 a1 a2 a3 a4 a5 a6 a7 a8 a9 a10 a11 a12 a13 : Nat) (x0 : Int32) (x1 : Int32) (h0 : ¬ x0 < 0) (h1 : (-1) < x0) : CT l z ⟨"BallothallModel", "strongestPath", "(II)I"⟩ prog_14_method_60_code 3 (some .int) [.ref a0, .int x0, .int x1] [(a0, .inr (18, [.ref a1, .ref a2, .int 0, .ref a3, .int 0, .ref a4, .int 0, .null, .int 0, .null, .long 0, .int 0, .null])), (a1, .inr (17, [.int 0, .ref a5, .ref a6, .int 0, .ref a7, .ref a8, .ref a9, .null, .null, .int 0, .ref a10, .ref a11, .ref a12, .int 0, .ref a13, .int 1]))] 2 59 0 0 (fun u => some (.int 0)) (fun u => [(a0, .inr (18, [.ref a1, .ref a2, .int 0, .ref a3, .int 0, .ref a4, .int 1, .null, .int 0, .null, .long 0, .int 0, .null])), (a1, .inr (17, [.int 0, .ref a5, .ref a6, .int 0, .ref a7, .ref a8, .ref a9, .null, .null, .int 0, .ref a10, .ref a11, .ref a12, .int 0, .ref a13, .int 1]))]) := by
  refine CT.of (own := "BallothallModel") (by decide +kernel) (Nat.le_of_ble_eq_true rfl) rfl (fun p e s m below meth c A ls hx hb hml hr hts hown hlocks hin hA hG hZ hP hD hS hl => ?_)
  have hl : lv_has ls 3 [(0, .ref a0), (1, .int x0), (2, .int x1)] := hl
  refine lv_aload_n hx hb d_14_60_0 rfl (lv_at hl 0 rfl) ?_
  refine lv_aload_n hx hb d_14_60_1 rfl (lv_at hl 0 rfl) ?_
  refine lv_iload_n hx hb d_14_60_2 rfl (lv_at hl 1 rfl) ?_
  refine kV (As := [.int x0]) (rest := [.ref a0]) (wr := []) (c38_BModel_isCandidate l z a0 a1 a2 a3 a4 a5 a6 a7 a8 a9 a10 a11 a12 a13 x0 h0 h1) hx hb hml hown hts w_1722 w_1719 w_1721 w_s_8d307b w_12 md_521241 ⟨Nat.le_of_ble_eq_true rfl, Nat.le_of_ble_eq_true rfl⟩ hG hZ hP hD hS hA 0 rfl rfl rfl [0, 1] [] rfl rfl rfl rfl rfl hl.1 rfl (Nat.le_of_ble_eq_true rfl) d_14_60_3 ⟨Nat.le_of_ble_eq_true rfl, Nat.le_of_ble_eq_true rfl⟩ (fun u0 H locs hP hD hS => ?_)
  have hP : va_P z.1 classes [(a0, .inr (18, [.ref a1, .ref a2, .int 0, .ref a3, .int 0, .ref a4, .int 0, .null, .int 0, .null, .long 0, .int 0, .null])), (a1, .inr (17, [.int 0, .ref a5, .ref a6, .int 0, .ref a7, .ref a8, .ref a9, .null, .null, .int 0, .ref a10, .ref a11, .ref a12, .int 0, .ref a13, .int 1]))] H := hP
  have hD : va_D A [(a0, .inr (18, [.ref a1, .ref a2, .int 0, .ref a3, .int 0, .ref a4, .int 0, .null, .int 0, .null, .long 0, .int 0, .null])), (a1, .inr (17, [.int 0, .ref a5, .ref a6, .int 0, .ref a7, .ref a8, .ref a9, .null, .null, .int 0, .ref a10, .ref a11, .ref a12, .int 0, .ref a13, .int 1]))] := hD
  refine W.eq (g2 := F0 m 6 ls [.int 0, .ref a0]) rfl ?_
  refine lv_if_eq (tgt := 21) hx hb d_14_60_6 (by decide) (fun _ => ?_) (fun c9 => absurd (by decide +kernel) c9)
  refine lv_iconst (v := 0) hx hb d_14_60_21 (by decide +kernel) ?_
  refine lv_iconst (v := 1) hx hb d_14_60_22 (by decide +kernel) ?_
  refine kV (As := [.int 0, .int 1]) (rest := []) (wr := [(a1, .inr (17, [.int 0, .ref a5, .ref a6, .int 0, .ref a7, .ref a8, .ref a9, .null, .null, .int 0, .ref a10, .ref a11, .ref a12, .int 0, .ref a13, .int 1]))]) (c31_BModel_ends l z a0 a1 a2 a3 a4) hx hb hml hown hts w_1696 w_1693 w_1695 w_s_f8f2b7 w_12 md_77b0f8 ⟨Nat.le_of_ble_eq_true rfl, Nat.le_of_ble_eq_true rfl⟩ hG hZ hP hD hS hA 0 rfl rfl rfl [0] [1] rfl rfl rfl rfl rfl hl.1 rfl (Nat.le_of_ble_eq_true rfl) d_14_60_23 ⟨Nat.le_of_ble_eq_true rfl, Nat.le_of_ble_eq_true rfl⟩ (fun u1 H locs hP hD hS => ?_)
  have hP : va_P z.1 classes [(a1, .inr (17, [.int 0, .ref a5, .ref a6, .int 0, .ref a7, .ref a8, .ref a9, .null, .null, .int 0, .ref a10, .ref a11, .ref a12, .int 0, .ref a13, .int 1])), (a0, .inr (18, [.ref a1, .ref a2, .int 0, .ref a3, .int 0, .ref a4, .int 1, .null, .int 0, .null, .long 0, .int 0, .null]))] H := hP
  have hD : va_D A [(a1, .inr (17, [.int 0, .ref a5, .ref a6, .int 0, .ref a7, .ref a8, .ref a9, .null, .null, .int 0, .ref a10, .ref a11, .ref a12, .int 0, .ref a13, .int 1])), (a0, .inr (18, [.ref a1, .ref a2, .int 0, .ref a3, .int 0, .ref a4, .int 1, .null, .int 0, .null, .long 0, .int 0, .null]))] := hD
  refine W.eq (g2 := F0 m 26 ls [.int 1]) rfl ?_
  refine lv_if_eq (tgt := 33) hx hb d_14_60_26 (by decide) (fun c9 => absurd c9 (by decide +kernel)) (fun _ => ?_)
  refine lv_iconst (v := 0) hx hb d_14_60_29 (by decide +kernel) ?_
  refine lv_goto (tgt := 44) hx hb d_14_60_30 (by decide) ?_
  refine W.widen (k := 0) (n := 0) (Nat.le_of_ble_eq_true rfl) (Nat.le_of_ble_eq_true rfl) ?_
  exact W.iret hx hb hr (fun t ht hW => qk hP hD hS [1, 0] rfl ((fun k => k), (fun _ _ => none)) rfl rfl rfl ht) hS.2.2 d_14_60_44
set_option maxRecDepth 100000 in
set_option maxHeartbeats 4000000 in
theorem c298_Poll_findPaths (l : Launch) (z : Zz) (a0 a1 a2 a3 a4 a5 a6 a7 a8 a9 a10 a11 a12 a13 a14 a15 a16 a17 : Nat) : CT l z ⟨"Ballothall$Poll", "findPaths", "()V"⟩ prog_11_method_12_code 3 none [.ref a0] [(a0, .inr (9, [.ref a1, .int 0, .int 0, .ref a2, .ref a3, .ref a4, .ref a5, .ref a6, .ref a7, .ref a8, .ref a9, .ref a10])), (a1, .inr (0, [.ref a11, .int 0, .int 0, .int 0, .ref a12, .ref a13, .ref a14, .ref a15, .ref a16, .ref a17]))] 0 0 0 0 (fun u => none) (fun u => [(a0, .inr (9, [.ref a1, .int 0, .int 0, .ref a2, .ref a3, .ref a4, .ref a5, .ref a6, .ref a7, .ref a8, .ref a9, .ref a10])), (a1, .inr (0, [.ref a11, .int 0, .int 0, .int 0, .ref a12, .ref a13, .ref a14, .ref a15, .ref a16, .ref a17]))]) := by
  refine CT.of (own := "Ballothall$Poll") (by decide +kernel) (Nat.le_of_ble_eq_true rfl) rfl (fun p e s m below meth c A ls hx hb hml hr hts hown hlocks hin hA hG hZ hP hD hS hl => ?_)
  have hl : lv_has ls 3 [(0, .ref a0)] := hl
  refine lv_iconst (v := 0) hx hb d_11_12_0 (by decide +kernel) ?_
  refine lv_istore_n (lv' := [(1, .int 0), (0, .ref a0)]) hx hb d_11_12_1 rfl hl (by decide) rfl (fun ls hl => ?_)
  refine lv_iload_n hx hb d_11_12_2 rfl (lv_at hl 0 rfl) ?_
  refine lv_aload_n hx hb d_11_12_3 rfl (lv_at hl 1 rfl) ?_
  refine va_get (D := z.1) (ci := 9) (v := .ref a1) (C := "Ballothall$Poll") (T := TX9) (N := 12) hx hb hts iX9 hown hG.1 hP 0 rfl rfl 0 (by decide) (hts _ w_112) (fun _ h9 => h9) rfl d_11_12_4 ?_
  refine va_getN (D := z.1) (ci := 0) (v := .int 0) (C := "Ballothall$BallotBox") (T := TX0) (N := 10) hx hb hts iX0 hown hG.1 hP 1 rfl rfl 2 (by decide) (va_Nw.use rfl (hG.2.1 _ n_58 rfl)) (fun _ h9 => h9) rfl d_11_12_7 ?_
  refine lv_icmp_ge (tgt := 68) hx hb d_11_12_10 (by decide) (fun _ => ?_) (fun c9 => absurd (by decide +kernel) c9)
  refine lv_iconst (v := 0) hx hb d_11_12_68 (by decide +kernel) ?_
  refine lv_istore_n (lv' := [(1, .int 0), (0, .ref a0)]) hx hb d_11_12_69 rfl hl (by decide) rfl (fun ls hl => ?_)
  refine lv_iload_n hx hb d_11_12_70 rfl (lv_at hl 0 rfl) ?_
  refine lv_aload_n hx hb d_11_12_71 rfl (lv_at hl 1 rfl) ?_
  refine va_get (D := z.1) (ci := 9) (v := .ref a1) (C := "Ballothall$Poll") (T := TX9) (N := 12) hx hb hts iX9 hown hG.1 hP 0 rfl rfl 0 (by decide) (hts _ w_112) (fun _ h9 => h9) rfl d_11_12_72 ?_
  refine va_getN (D := z.1) (ci := 0) (v := .int 0) (C := "Ballothall$BallotBox") (T := TX0) (N := 10) hx hb hts iX0 hown hG.1 hP 1 rfl rfl 2 (by decide) (va_Nw.use rfl (hG.2.1 _ n_58 rfl)) (fun _ h9 => h9) rfl d_11_12_75 ?_
  refine lv_icmp_ge (tgt := 126) hx hb d_11_12_78 (by decide) (fun _ => ?_) (fun c9 => absurd (by decide +kernel) c9)
  refine W.widen (k := 0) (n := 0) (Nat.le_of_ble_eq_true rfl) (Nat.le_of_ble_eq_true rfl) ?_
  exact W.vret hx hb hr (fun t ht hW => qk hP hD hS [0, 1] rfl ((fun k => k), (fun _ _ => none)) rfl rfl rfl ht) hS.2.2 d_11_12_126
set_option maxRecDepth 100000 in
set_option maxHeartbeats 4000000 in
theorem c299_Poll_winnersByPaths (l : Launch) (z : Zz) (a0 a1 a2 a3 a4 a5 a6 a7 a8 a9 a10 a11 a12 a13 a14 a15 a16 a17 : Nat) : CT l z ⟨"Ballothall$Poll", "winnersByPaths", "()I"⟩ prog_11_method_14_code 4 (some .int) [.ref a0] [(a0, .inr (9, [.ref a1, .int 0, .int 0, .ref a2, .ref a3, .ref a4, .ref a5, .ref a6, .ref a7, .ref a8, .ref a9, .ref a10])), (a1, .inr (0, [.ref a11, .int 0, .int 0, .int 0, .ref a12, .ref a13, .ref a14, .ref a15, .ref a16, .ref a17]))] 1 30 0 0 (fun u => some (.int 0)) (fun u => [(a0, .inr (9, [.ref a1, .int 0, .int 0, .ref a2, .ref a3, .ref a4, .ref a5, .ref a6, .ref a7, .ref a8, .ref a9, .ref a10])), (a1, .inr (0, [.ref a11, .int 0, .int 0, .int 0, .ref a12, .ref a13, .ref a14, .ref a15, .ref a16, .ref a17]))]) := by
  refine CT.of (own := "Ballothall$Poll") (by decide +kernel) (Nat.le_of_ble_eq_true rfl) rfl (fun p e s m below meth c A ls hx hb hml hr hts hown hlocks hin hA hG hZ hP hD hS hl => ?_)
  have hl : lv_has ls 4 [(0, .ref a0)] := hl
  refine lv_aload_n hx hb d_11_14_0 rfl (lv_at hl 0 rfl) ?_
  refine kV (As := []) (rest := []) (wr := []) (c298_Poll_findPaths l z a0 a1 a2 a3 a4 a5 a6 a7 a8 a9 a10 a11 a12 a13 a14 a15 a16 a17) hx hb hml hown hts w_540 w_537 w_539 w_s_3d2a4d w_3 md_b5f468 ⟨Nat.le_of_ble_eq_true rfl, Nat.le_of_ble_eq_true rfl⟩ hG hZ hP hD hS hA 0 rfl rfl rfl [0, 1] [] rfl rfl rfl rfl rfl hl.1 rfl (Nat.le_of_ble_eq_true rfl) d_11_14_1 ⟨Nat.le_of_ble_eq_true rfl, Nat.le_of_ble_eq_true rfl⟩ (fun u0 H locs hP hD hS => ?_)
  have hP : va_P z.1 classes [(a0, .inr (9, [.ref a1, .int 0, .int 0, .ref a2, .ref a3, .ref a4, .ref a5, .ref a6, .ref a7, .ref a8, .ref a9, .ref a10])), (a1, .inr (0, [.ref a11, .int 0, .int 0, .int 0, .ref a12, .ref a13, .ref a14, .ref a15, .ref a16, .ref a17]))] H := hP
  have hD : va_D A [(a0, .inr (9, [.ref a1, .int 0, .int 0, .ref a2, .ref a3, .ref a4, .ref a5, .ref a6, .ref a7, .ref a8, .ref a9, .ref a10])), (a1, .inr (0, [.ref a11, .int 0, .int 0, .int 0, .ref a12, .ref a13, .ref a14, .ref a15, .ref a16, .ref a17]))] := hD
  refine W.eq (g2 := F0 m 4 ls []) rfl ?_
  refine lv_aload_n hx hb d_11_14_4 rfl (lv_at hl 0 rfl) ?_
  refine va_get (D := z.1) (ci := 9) (v := .int 0) (C := "Ballothall$Poll") (T := TX9) (N := 12) hx hb hts iX9 hown hG.1 hP 0 rfl rfl 1 (by decide) (hts _ w_113) (fun _ h9 => h9) rfl d_11_14_5 ?_
  refine lv_istore_n (lv' := [(1, .int 0), (0, .ref a0)]) hx hb d_11_14_8 rfl hl (by decide) rfl (fun ls hl => ?_)
  refine lv_iconst (v := 0) hx hb d_11_14_9 (by decide +kernel) ?_
  refine lv_istore_n (lv' := [(2, .int 0), (1, .int 0), (0, .ref a0)]) hx hb d_11_14_10 rfl hl (by decide) rfl (fun ls hl => ?_)
  refine lv_iload_n hx hb d_11_14_11 rfl (lv_at hl 0 rfl) ?_
  refine lv_aload_n hx hb d_11_14_12 rfl (lv_at hl 2 rfl) ?_
  refine va_get (D := z.1) (ci := 9) (v := .ref a1) (C := "Ballothall$Poll") (T := TX9) (N := 12) hx hb hts iX9 hown hG.1 hP 0 rfl rfl 0 (by decide) (hts _ w_112) (fun _ h9 => h9) rfl d_11_14_13 ?_
  refine va_getN (D := z.1) (ci := 0) (v := .int 0) (C := "Ballothall$BallotBox") (T := TX0) (N := 10) hx hb hts iX0 hown hG.1 hP 1 rfl rfl 2 (by decide) (va_Nw.use rfl (hG.2.1 _ n_58 rfl)) (fun _ h9 => h9) rfl d_11_14_16 ?_
  refine lv_icmp_ge (tgt := 70) hx hb d_11_14_19 (by decide) (fun _ => ?_) (fun c9 => absurd (by decide +kernel) c9)
  refine lv_iload_n hx hb d_11_14_70 rfl (lv_at hl 1 rfl) ?_
  refine W.widen (k := 0) (n := 0) (Nat.le_of_ble_eq_true rfl) (Nat.le_of_ble_eq_true rfl) ?_
  exact W.iret hx hb hr (fun t ht hW => qk hP hD hS [0, 1] rfl ((fun k => k), (fun _ _ => none)) rfl rfl rfl ht) hS.2.2 d_11_14_71
set_option maxRecDepth 100000 in
set_option maxHeartbeats 4000000 in
theorem c300_B_pathWinners (l : Launch) (z : Zz) (a0 a1 a2 a3 a4 a5 a6 a7 a8 a9 a10 a11 a12 a13 a14 a15 a16 a17 a18 a19 a20 a21 a22 a23 a24 a25 a26 a27 : Nat) : CT l z ⟨"Ballothall", "pathWinners", "()I"⟩ prog_1_method_28_code 1 (some .int) [.ref a0] [(a0, .inr (11, [.ref a1, .ref a2, .ref a3, .ref a4, .ref a5, .ref a6, .ref a7, .ref a8, .ref a9, .ref a10, .int 0, .int 0, .ref a11, .int 0])), (a1, .inr (0, [.ref a12, .int 0, .int 0, .int 0, .ref a13, .ref a14, .ref a15, .ref a16, .ref a17, .ref a18])), (a2, .inr (9, [.ref a1, .int 0, .int 0, .ref a19, .ref a20, .ref a21, .ref a22, .ref a23, .ref a24, .ref a25, .ref a26, .ref a27])), (a19, .inl (z.2 0, 31, .inl (fun _ => 0))), (a20, .inl (z.2 0, 8, .inl (fun _ => 0))), (a21, .inl (z.2 0, 8, .inl (fun _ => 0))), (a22, .inl (z.2 0, 64, .inl (fun _ => 0)))] 3 81 0 0 (fun u => some (.int 0)) (fun u => [(a0, .inr (11, [.ref a1, .ref a2, .ref a3, .ref a4, .ref a5, .ref a6, .ref a7, .ref a8, .ref a9, .ref a10, .int 0, .int 0, .ref a11, .int 0])), (a1, .inr (0, [.ref a12, .int 0, .int 0, .int 0, .ref a13, .ref a14, .ref a15, .ref a16, .ref a17, .ref a18])), (a2, .inr (9, [.ref a1, .int 0, .int 0, .ref a19, .ref a20, .ref a21, .ref a22, .ref a23, .ref a24, .ref a25, .ref a26, .ref a27])), (a19, .inl (z.2 0, 31, .inl (fun _ => 0))), (a20, .inl (z.2 0, 8, .inl (fun _ => 0))), (a21, .inl (z.2 0, 8, .inl (fun _ => 0))), (a22, .inl (z.2 0, 64, .inl (fun _ => 0)))]) := by
  refine CT.of (own := "Ballothall") (by decide +kernel) (Nat.le_of_ble_eq_true rfl) rfl (fun p e s m below meth c A ls hx hb hml hr hts hown hlocks hin hA hG hZ hP hD hS hl => ?_)
  have hl : lv_has ls 1 [(0, .ref a0)] := hl
  refine lv_aload_n hx hb d_1_28_0 rfl (lv_at hl 0 rfl) ?_
  refine va_get (D := z.1) (ci := 11) (v := .ref a2) (C := "Ballothall") (T := TX11) (N := 14) hx hb hts iX11 hown hG.1 hP 0 rfl rfl 1 (by decide) (hts _ w_407) (fun _ h9 => h9) rfl d_1_28_1 ?_
  refine lv_aload_n hx hb d_1_28_4 rfl (lv_at hl 0 rfl) ?_
  refine va_get (D := z.1) (ci := 11) (v := .ref a1) (C := "Ballothall") (T := TX11) (N := 14) hx hb hts iX11 hown hG.1 hP 0 rfl rfl 0 (by decide) (hts _ w_406) (fun _ h9 => h9) rfl d_1_28_5 ?_
  refine kVN (As := []) (rest := [.ref a2]) (wr := [(a0, .inr (11, [.ref a1, .ref a2, .ref a3, .ref a4, .ref a5, .ref a6, .ref a7, .ref a8, .ref a9, .ref a10, .int 0, .int 0, .ref a11, .int 0])), (a2, .inr (9, [.ref a1, .int 0, .int 0, .ref a19, .ref a20, .ref a21, .ref a22, .ref a23, .ref a24, .ref a25, .ref a26, .ref a27])), (a19, .inl (z.2 0, 31, .inl (fun _ => 0))), (a20, .inl (z.2 0, 8, .inl (fun _ => 0))), (a21, .inl (z.2 0, 8, .inl (fun _ => 0))), (a22, .inl (z.2 0, 64, .inl (fun _ => 0)))]) (c269_BallotBox_everybody l z a1 a12 a13 a14 a15 a16 a17 a18) hx hb hml hown hts w_480 n_477 w_479 w_s_8b8b67 w_2 md_b59579 ⟨Nat.le_of_ble_eq_true rfl, Nat.le_of_ble_eq_true rfl⟩ hG hZ hP hD hS hA 1 rfl rfl rfl [1] [0, 2, 3, 4, 5, 6] rfl rfl rfl rfl rfl hl.1 rfl (Nat.le_of_ble_eq_true rfl) d_1_28_8 ⟨Nat.le_of_ble_eq_true rfl, Nat.le_of_ble_eq_true rfl⟩ (fun u0 H locs hP hD hS => ?_)
  have hP : va_P z.1 classes [(a0, .inr (11, [.ref a1, .ref a2, .ref a3, .ref a4, .ref a5, .ref a6, .ref a7, .ref a8, .ref a9, .ref a10, .int 0, .int 0, .ref a11, .int 0])), (a2, .inr (9, [.ref a1, .int 0, .int 0, .ref a19, .ref a20, .ref a21, .ref a22, .ref a23, .ref a24, .ref a25, .ref a26, .ref a27])), (a19, .inl (z.2 0, 31, .inl (fun _ => 0))), (a20, .inl (z.2 0, 8, .inl (fun _ => 0))), (a21, .inl (z.2 0, 8, .inl (fun _ => 0))), (a22, .inl (z.2 0, 64, .inl (fun _ => 0))), (a1, .inr (0, [.ref a12, .int 0, .int 0, .int 0, .ref a13, .ref a14, .ref a15, .ref a16, .ref a17, .ref a18]))] H := hP
  have hD : va_D A [(a0, .inr (11, [.ref a1, .ref a2, .ref a3, .ref a4, .ref a5, .ref a6, .ref a7, .ref a8, .ref a9, .ref a10, .int 0, .int 0, .ref a11, .int 0])), (a2, .inr (9, [.ref a1, .int 0, .int 0, .ref a19, .ref a20, .ref a21, .ref a22, .ref a23, .ref a24, .ref a25, .ref a26, .ref a27])), (a19, .inl (z.2 0, 31, .inl (fun _ => 0))), (a20, .inl (z.2 0, 8, .inl (fun _ => 0))), (a21, .inl (z.2 0, 8, .inl (fun _ => 0))), (a22, .inl (z.2 0, 64, .inl (fun _ => 0))), (a1, .inr (0, [.ref a12, .int 0, .int 0, .int 0, .ref a13, .ref a14, .ref a15, .ref a16, .ref a17, .ref a18]))] := hD
  refine W.eq (g2 := F0 m 11 ls [.int 0, .ref a2]) rfl ?_
  refine kVN (As := [.int 0]) (rest := []) (wr := [(a0, .inr (11, [.ref a1, .ref a2, .ref a3, .ref a4, .ref a5, .ref a6, .ref a7, .ref a8, .ref a9, .ref a10, .int 0, .int 0, .ref a11, .int 0]))]) (c285_Poll_open l z a2 a1 a19 a20 a21 a22 a23 a24 a25 a26 a27 a12 a13 a14 a15 a16 a17 a18) hx hb hml hown hts w_484 n_481 w_483 w_s_229dc4 w_3 md_60bc9b ⟨Nat.le_of_ble_eq_true rfl, Nat.le_of_ble_eq_true rfl⟩ hG hZ hP hD hS hA 1 rfl rfl rfl [1, 2, 3, 4, 5, 6] [0] rfl rfl rfl rfl rfl hl.1 rfl (Nat.le_of_ble_eq_true rfl) d_1_28_11 ⟨Nat.le_of_ble_eq_true rfl, Nat.le_of_ble_eq_true rfl⟩ (fun u1 H locs hP hD hS => ?_)
  have hP : va_P z.1 classes [(a0, .inr (11, [.ref a1, .ref a2, .ref a3, .ref a4, .ref a5, .ref a6, .ref a7, .ref a8, .ref a9, .ref a10, .int 0, .int 0, .ref a11, .int 0])), (a2, .inr (9, [.ref a1, .int 0, .int 0, .ref a19, .ref a20, .ref a21, .ref a22, .ref a23, .ref a24, .ref a25, .ref a26, .ref a27])), (a19, .inl (z.2 0, 31, .inl (fun _ => 0))), (a20, .inl (z.2 0, 8, .inl (fun _ => 0))), (a21, .inl (z.2 0, 8, .inl (fun _ => 0))), (a22, .inl (z.2 0, 64, .inl (fun _ => 0))), (a1, .inr (0, [.ref a12, .int 0, .int 0, .int 0, .ref a13, .ref a14, .ref a15, .ref a16, .ref a17, .ref a18]))] H := hP
  have hD : va_D A [(a0, .inr (11, [.ref a1, .ref a2, .ref a3, .ref a4, .ref a5, .ref a6, .ref a7, .ref a8, .ref a9, .ref a10, .int 0, .int 0, .ref a11, .int 0])), (a2, .inr (9, [.ref a1, .int 0, .int 0, .ref a19, .ref a20, .ref a21, .ref a22, .ref a23, .ref a24, .ref a25, .ref a26, .ref a27])), (a19, .inl (z.2 0, 31, .inl (fun _ => 0))), (a20, .inl (z.2 0, 8, .inl (fun _ => 0))), (a21, .inl (z.2 0, 8, .inl (fun _ => 0))), (a22, .inl (z.2 0, 64, .inl (fun _ => 0))), (a1, .inr (0, [.ref a12, .int 0, .int 0, .int 0, .ref a13, .ref a14, .ref a15, .ref a16, .ref a17, .ref a18]))] := hD
  refine W.eq (g2 := F0 m 14 ls []) rfl ?_
  refine lv_aload_n hx hb d_1_28_14 rfl (lv_at hl 0 rfl) ?_
  refine va_get (D := z.1) (ci := 11) (v := .ref a2) (C := "Ballothall") (T := TX11) (N := 14) hx hb hts iX11 hown hG.1 hP 0 rfl rfl 1 (by decide) (hts _ w_407) (fun _ h9 => h9) rfl d_1_28_15 ?_
  refine kVN (As := []) (rest := []) (wr := [(a0, .inr (11, [.ref a1, .ref a2, .ref a3, .ref a4, .ref a5, .ref a6, .ref a7, .ref a8, .ref a9, .ref a10, .int 0, .int 0, .ref a11, .int 0])), (a19, .inl (z.2 0, 31, .inl (fun _ => 0))), (a20, .inl (z.2 0, 8, .inl (fun _ => 0))), (a21, .inl (z.2 0, 8, .inl (fun _ => 0))), (a22, .inl (z.2 0, 64, .inl (fun _ => 0)))]) (c299_Poll_winnersByPaths l z a2 a1 a19 a20 a21 a22 a23 a24 a25 a26 a27 a12 a13 a14 a15 a16 a17 a18) hx hb hml hown hts w_536 n_533 w_535 w_s_87a59c w_3 md_114b2c ⟨Nat.le_of_ble_eq_true rfl, Nat.le_of_ble_eq_true rfl⟩ hG hZ hP hD hS hA 1 rfl rfl rfl [1, 6] [0, 2, 3, 4, 5] rfl rfl rfl rfl rfl hl.1 rfl (Nat.le_of_ble_eq_true rfl) d_1_28_18 ⟨Nat.le_of_ble_eq_true rfl, Nat.le_of_ble_eq_true rfl⟩ (fun u2 H locs hP hD hS => ?_)
  have hP : va_P z.1 classes [(a0, .inr (11, [.ref a1, .ref a2, .ref a3, .ref a4, .ref a5, .ref a6, .ref a7, .ref a8, .ref a9, .ref a10, .int 0, .int 0, .ref a11, .int 0])), (a19, .inl (z.2 0, 31, .inl (fun _ => 0))), (a20, .inl (z.2 0, 8, .inl (fun _ => 0))), (a21, .inl (z.2 0, 8, .inl (fun _ => 0))), (a22, .inl (z.2 0, 64, .inl (fun _ => 0))), (a2, .inr (9, [.ref a1, .int 0, .int 0, .ref a19, .ref a20, .ref a21, .ref a22, .ref a23, .ref a24, .ref a25, .ref a26, .ref a27])), (a1, .inr (0, [.ref a12, .int 0, .int 0, .int 0, .ref a13, .ref a14, .ref a15, .ref a16, .ref a17, .ref a18]))] H := hP
  have hD : va_D A [(a0, .inr (11, [.ref a1, .ref a2, .ref a3, .ref a4, .ref a5, .ref a6, .ref a7, .ref a8, .ref a9, .ref a10, .int 0, .int 0, .ref a11, .int 0])), (a19, .inl (z.2 0, 31, .inl (fun _ => 0))), (a20, .inl (z.2 0, 8, .inl (fun _ => 0))), (a21, .inl (z.2 0, 8, .inl (fun _ => 0))), (a22, .inl (z.2 0, 64, .inl (fun _ => 0))), (a2, .inr (9, [.ref a1, .int 0, .int 0, .ref a19, .ref a20, .ref a21, .ref a22, .ref a23, .ref a24, .ref a25, .ref a26, .ref a27])), (a1, .inr (0, [.ref a12, .int 0, .int 0, .int 0, .ref a13, .ref a14, .ref a15, .ref a16, .ref a17, .ref a18]))] := hD
  refine W.eq (g2 := F0 m 21 ls [.int 0]) rfl ?_
  refine W.widen (k := 0) (n := 0) (Nat.le_of_ble_eq_true rfl) (Nat.le_of_ble_eq_true rfl) ?_
  exact W.iret hx hb hr (fun t ht hW => qk hP hD hS [0, 6, 5, 1, 2, 3, 4] rfl ((fun k => k), (fun _ _ => none)) rfl rfl rfl ht) hS.2.2 d_1_28_21
set_option maxRecDepth 100000 in
set_option maxHeartbeats 4000000 in
theorem c301_BModel_poll (l : Launch) (z : Zz) (a0 a1 a2 a3 a4 a5 a6 a7 a8 a9 a10 a11 a12 a13 : Nat) : CT l z ⟨"BallothallModel", "poll", "()LBallothallModel$Poll;"⟩ prog_14_method_25_code 1 (some (.object "BallothallModel$Poll")) [.ref a0] [(a0, .inr (18, [.ref a1, .ref a2, .int 0, .ref a3, .int 0, .ref a4, .int 0, .null, .int 0, .null, .long 0, .int 0, .null])), (a1, .inr (17, [.int 0, .ref a5, .ref a6, .int 0, .ref a7, .ref a8, .ref a9, .null, .null, .int 0, .ref a10, .ref a11, .ref a12, .int 0, .ref a13, .int 1]))] 2 51 3 23 (fun u => some (.ref (u.1 0))) (fun u => [(a0, .inr (18, [.ref a1, .ref a2, .int 0, .ref a3, .int 0, .ref a4, .int 0, .null, .int 0, .null, .long 0, .int 0, .null])), (a1, .inr (17, [.int 0, .ref a5, .ref a6, .int 0, .ref a7, .ref a8, .ref a9, .null, .null, .int 0, .ref a10, .ref a11, .ref a12, .int 0, .ref a13, .int 1])), ((u.1 0), .inr (14, [.ref a6, .int 0, .ref a5, .ref (u.1 1), .int 0, .ref (u.1 2), .null]))]) := by
  refine CT.of (own := "BallothallModel") (by decide +kernel) (Nat.le_of_ble_eq_true rfl) rfl (fun p e s m below meth c A ls hx hb hml hr hts hown hlocks hin hA hG hZ hP hD hS hl => ?_)
  have hl : lv_has ls 1 [(0, .ref a0)] := hl
  refine va_new (ci := 14) (fs := [.null, .int 0, .null, .null, .int 0, .null, .null]) (C := "BallothallModel$Poll") (T := TX14) (N := 7) hx hb hts iX14 tyX14 tyX14_ok hown (hts _ w_2247) (hts _ w_2248) (hts _ w_36) hG.1 hP hD hS hA rfl fsX14 (Nat.le_of_ble_eq_true rfl) (Nat.le_of_ble_eq_true rfl) d_14_25_0 (fun q0 H hP hD hS => ?_)
  have hP : va_P z.1 classes [(a0, .inr (18, [.ref a1, .ref a2, .int 0, .ref a3, .int 0, .ref a4, .int 0, .null, .int 0, .null, .long 0, .int 0, .null])), (a1, .inr (17, [.int 0, .ref a5, .ref a6, .int 0, .ref a7, .ref a8, .ref a9, .null, .null, .int 0, .ref a10, .ref a11, .ref a12, .int 0, .ref a13, .int 1])), (q0, .inr (14, [.null, .int 0, .null, .null, .int 0, .null, .null]))] H := hP
  have hD : va_D A [(a0, .inr (18, [.ref a1, .ref a2, .int 0, .ref a3, .int 0, .ref a4, .int 0, .null, .int 0, .null, .long 0, .int 0, .null])), (a1, .inr (17, [.int 0, .ref a5, .ref a6, .int 0, .ref a7, .ref a8, .ref a9, .null, .null, .int 0, .ref a10, .ref a11, .ref a12, .int 0, .ref a13, .int 1])), (q0, .inr (14, [.null, .int 0, .null, .null, .int 0, .null, .null]))] := hD
  refine lv_dup hx hb d_14_25_3 rfl ?_
  refine lv_aload_n hx hb d_14_25_4 rfl (lv_at hl 0 rfl) ?_
  refine va_get (D := z.1) (ci := 18) (v := .ref a1) (C := "BallothallModel") (T := TX18) (N := 13) hx hb hts iX18 hown hG.1 hP 0 rfl rfl 0 (by decide) (hts _ w_1645) (fun _ h9 => h9) rfl d_14_25_5 ?_
  refine va_getN (D := z.1) (ci := 17) (v := .ref a6) (C := "BallothallModel$State") (T := TX17) (N := 16) hx hb hts iX17 hown hG.1 hP 1 rfl rfl 2 (by decide) (va_Nw.use rfl (hG.2.1 _ n_1584 rfl)) (fun _ h9 => h9) rfl d_14_25_8 ?_
  refine lv_aload_n hx hb d_14_25_11 rfl (lv_at hl 0 rfl) ?_
  refine kV (As := []) (rest := [.ref a6, .ref q0, .ref q0]) (wr := [(q0, .inr (14, [.null, .int 0, .null, .null, .int 0, .null, .null]))]) (c277_BModel_everybody l z a0 a1 a2 a3 a4 a5 a6 a7 a8 a9 a10 a11 a12 a13) hx hb hml hown hts w_2233 w_2230 w_2232 w_s_4b155b w_12 md_a32d0e ⟨Nat.le_of_ble_eq_true rfl, Nat.le_of_ble_eq_true rfl⟩ hG hZ hP hD hS hA 0 rfl rfl rfl [0, 1] [2] rfl rfl rfl rfl rfl hl.1 rfl (Nat.le_of_ble_eq_true rfl) d_14_25_12 ⟨Nat.le_of_ble_eq_true rfl, Nat.le_of_ble_eq_true rfl⟩ (fun u0 H locs hP hD hS => ?_)
  have hP : va_P z.1 classes [(q0, .inr (14, [.null, .int 0, .null, .null, .int 0, .null, .null])), (a0, .inr (18, [.ref a1, .ref a2, .int 0, .ref a3, .int 0, .ref a4, .int 0, .null, .int 0, .null, .long 0, .int 0, .null])), (a1, .inr (17, [.int 0, .ref a5, .ref a6, .int 0, .ref a7, .ref a8, .ref a9, .null, .null, .int 0, .ref a10, .ref a11, .ref a12, .int 0, .ref a13, .int 1]))] H := hP
  have hD : va_D A [(q0, .inr (14, [.null, .int 0, .null, .null, .int 0, .null, .null])), (a0, .inr (18, [.ref a1, .ref a2, .int 0, .ref a3, .int 0, .ref a4, .int 0, .null, .int 0, .null, .long 0, .int 0, .null])), (a1, .inr (17, [.int 0, .ref a5, .ref a6, .int 0, .ref a7, .ref a8, .ref a9, .null, .null, .int 0, .ref a10, .ref a11, .ref a12, .int 0, .ref a13, .int 1]))] := hD
  refine W.eq (g2 := F0 m 15 ls [.int 0, .ref a6, .ref q0, .ref q0]) rfl ?_
  refine lv_aload_n hx hb d_14_25_15 rfl (lv_at hl 0 rfl) ?_
  refine va_get (D := z.1) (ci := 18) (v := .ref a1) (C := "BallothallModel") (T := TX18) (N := 13) hx hb hts iX18 hown hG.1 hP 1 rfl rfl 0 (by decide) (hts _ w_1645) (fun _ h9 => h9) rfl d_14_25_16 ?_
  refine va_getN (D := z.1) (ci := 17) (v := .ref a5) (C := "BallothallModel$State") (T := TX17) (N := 16) hx hb hts iX17 hown hG.1 hP 2 rfl rfl 1 (by decide) (va_Nw.use rfl (hG.2.1 _ n_1582 rfl)) (fun _ h9 => h9) rfl d_14_25_19 ?_
  refine kI (As := [.ref a6, .int 0, .ref a5]) (rest := [.ref q0]) (wr := [(a0, .inr (18, [.ref a1, .ref a2, .int 0, .ref a3, .int 0, .ref a4, .int 0, .null, .int 0, .null, .long 0, .int 0, .null])), (a1, .inr (17, [.int 0, .ref a5, .ref a6, .int 0, .ref a7, .ref a8, .ref a9, .null, .null, .int 0, .ref a10, .ref a11, .ref a12, .int 0, .ref a13, .int 1]))]) (c289_Poll_init l z q0 a6 a5) hx hb hml hown hts w_2251 w_2249 w_2250 rfl w_36 md_7c5b4a ⟨Nat.le_of_ble_eq_true rfl, Nat.le_of_ble_eq_true rfl⟩ hG hZ hP hD hS hA [0] [1, 2] rfl rfl rfl rfl rfl hl.1 rfl (Nat.le_of_ble_eq_true rfl) d_14_25_22 ⟨Nat.le_of_ble_eq_true rfl, Nat.le_of_ble_eq_true rfl⟩ (fun u1 H locs hP hD hS => ?_)
  have hP : va_P z.1 classes [(a0, .inr (18, [.ref a1, .ref a2, .int 0, .ref a3, .int 0, .ref a4, .int 0, .null, .int 0, .null, .long 0, .int 0, .null])), (a1, .inr (17, [.int 0, .ref a5, .ref a6, .int 0, .ref a7, .ref a8, .ref a9, .null, .null, .int 0, .ref a10, .ref a11, .ref a12, .int 0, .ref a13, .int 1])), (q0, .inr (14, [.ref a6, .int 0, .ref a5, .ref (u1.1 0), .int 0, .ref (u1.1 1), .null]))] H := hP
  have hD : va_D A [(a0, .inr (18, [.ref a1, .ref a2, .int 0, .ref a3, .int 0, .ref a4, .int 0, .null, .int 0, .null, .long 0, .int 0, .null])), (a1, .inr (17, [.int 0, .ref a5, .ref a6, .int 0, .ref a7, .ref a8, .ref a9, .null, .null, .int 0, .ref a10, .ref a11, .ref a12, .int 0, .ref a13, .int 1])), (q0, .inr (14, [.ref a6, .int 0, .ref a5, .ref (u1.1 0), .int 0, .ref (u1.1 1), .null]))] := hD
  refine W.eq (g2 := F0 m 25 ls [.ref q0]) rfl ?_
  refine W.widen (k := 3) (n := 23) (Nat.le_of_ble_eq_true rfl) (Nat.le_of_ble_eq_true rfl) ?_
  exact W.aret hx hb hr (Or.inl ⟨_, rfl⟩) (Or.inr ⟨_, rfl⟩) (fun t ht hW => qk hP hD hS [0, 1, 2] rfl ((fun k => ([q0, (u1.1 0), (u1.1 1)] : List Nat).getD k 0), (fun _ _ => none)) rfl rfl rfl ht) hS.2.2 d_14_25_25
set_option maxRecDepth 100000 in
set_option maxHeartbeats 4000000 in
theorem c302_Poll_isIn (l : Launch) (z : Zz) (a0 a1 a2 a3 a4 a5 : Nat) : CT l z ⟨"BallothallModel$Poll", "isIn", "(I)Z"⟩ prog_17_method_2_code 2 (some .boolean) [.ref a0, .int 0] [(a0, .inr (14, [.ref a1, .int 0, .ref a2, .ref a3, .int 0, .ref a4, .ref a5]))] 0 0 0 0 (fun u => some (.int 0)) (fun u => [(a0, .inr (14, [.ref a1, .int 0, .ref a2, .ref a3, .int 0, .ref a4, .ref a5]))]) := by
  refine CT.of (own := "BallothallModel$Poll") (by decide +kernel) (Nat.le_of_ble_eq_true rfl) rfl (fun p e s m below meth c A ls hx hb hml hr hts hown hlocks hin hA hG hZ hP hD hS hl => ?_)
  have hl : lv_has ls 2 [(0, .ref a0), (1, .int 0)] := hl
  refine lv_aload_n hx hb d_17_2_0 rfl (lv_at hl 0 rfl) ?_
  refine va_get (D := z.1) (ci := 14) (v := .int 0) (C := "BallothallModel$Poll") (T := TX14) (N := 7) hx hb hts iX14 hown hG.1 hP 0 rfl rfl 1 (by decide) (hts _ w_2255) (fun _ h9 => h9) rfl d_17_2_1 ?_
  refine lv_iload_n hx hb d_17_2_4 rfl (lv_at hl 1 rfl) ?_
  refine lv_ishr hx hb d_17_2_5 ?_
  refine nrm (x1 := 0) (by decide +kernel) ?_
  refine lv_iconst (v := 1) hx hb d_17_2_6 (by decide +kernel) ?_
  refine lv_iand hx hb d_17_2_7 ?_
  refine nrm (x1 := 0) (by decide +kernel) ?_
  refine lv_iconst (v := 1) hx hb d_17_2_8 (by decide +kernel) ?_
  refine lv_icmp_ne (tgt := 16) hx hb d_17_2_9 (by decide) (fun _ => ?_) (fun c9 => absurd c9 (by decide +kernel))
  refine lv_iconst (v := 0) hx hb d_17_2_16 (by decide +kernel) ?_
  refine W.widen (k := 0) (n := 0) (Nat.le_of_ble_eq_true rfl) (Nat.le_of_ble_eq_true rfl) ?_
  exact W.zret hx hb hr rfl (fun t ht hW => qk hP hD hS [0] rfl ((fun k => k), (fun _ _ => none)) rfl rfl rfl ht) hS.2.2 d_17_2_17
set_option maxRecDepth 100000 in
set_option maxHeartbeats 4000000 in
theorem c303_Poll_isIn (l : Launch) (z : Zz) (a0 a1 a2 a3 a4 a5 : Nat) : CT l z ⟨"BallothallModel$Poll", "isIn", "(I)Z"⟩ prog_17_method_2_code 2 (some .boolean) [.ref a0, .int 1] [(a0, .inr (14, [.ref a1, .int 0, .ref a2, .ref a3, .int 0, .ref a4, .ref a5]))] 0 0 0 0 (fun u => some (.int 0)) (fun u => [(a0, .inr (14, [.ref a1, .int 0, .ref a2, .ref a3, .int 0, .ref a4, .ref a5]))]) := by
  refine CT.of (own := "BallothallModel$Poll") (by decide +kernel) (Nat.le_of_ble_eq_true rfl) rfl (fun p e s m below meth c A ls hx hb hml hr hts hown hlocks hin hA hG hZ hP hD hS hl => ?_)
  have hl : lv_has ls 2 [(0, .ref a0), (1, .int 1)] := hl
  refine lv_aload_n hx hb d_17_2_0 rfl (lv_at hl 0 rfl) ?_
  refine va_get (D := z.1) (ci := 14) (v := .int 0) (C := "BallothallModel$Poll") (T := TX14) (N := 7) hx hb hts iX14 hown hG.1 hP 0 rfl rfl 1 (by decide) (hts _ w_2255) (fun _ h9 => h9) rfl d_17_2_1 ?_
  refine lv_iload_n hx hb d_17_2_4 rfl (lv_at hl 1 rfl) ?_
  refine lv_ishr hx hb d_17_2_5 ?_
  refine nrm (x1 := 0) (by decide +kernel) ?_
  refine lv_iconst (v := 1) hx hb d_17_2_6 (by decide +kernel) ?_
  refine lv_iand hx hb d_17_2_7 ?_
  refine nrm (x1 := 0) (by decide +kernel) ?_
  refine lv_iconst (v := 1) hx hb d_17_2_8 (by decide +kernel) ?_
  refine lv_icmp_ne (tgt := 16) hx hb d_17_2_9 (by decide) (fun _ => ?_) (fun c9 => absurd c9 (by decide +kernel))
  refine lv_iconst (v := 0) hx hb d_17_2_16 (by decide +kernel) ?_
  refine W.widen (k := 0) (n := 0) (Nat.le_of_ble_eq_true rfl) (Nat.le_of_ble_eq_true rfl) ?_
  exact W.zret hx hb hr rfl (fun t ht hW => qk hP hD hS [0] rfl ((fun k => k), (fun _ _ => none)) rfl rfl rfl ht) hS.2.2 d_17_2_17
set_option maxRecDepth 100000 in
set_option maxHeartbeats 4000000 in
theorem c304_Poll_isIn (l : Launch) (z : Zz) (a0 a1 a2 a3 a4 a5 : Nat) : CT l z ⟨"BallothallModel$Poll", "isIn", "(I)Z"⟩ prog_17_method_2_code 2 (some .boolean) [.ref a0, .int 2] [(a0, .inr (14, [.ref a1, .int 0, .ref a2, .ref a3, .int 0, .ref a4, .ref a5]))] 0 0 0 0 (fun u => some (.int 0)) (fun u => [(a0, .inr (14, [.ref a1, .int 0, .ref a2, .ref a3, .int 0, .ref a4, .ref a5]))]) := by
  refine CT.of (own := "BallothallModel$Poll") (by decide +kernel) (Nat.le_of_ble_eq_true rfl) rfl (fun p e s m below meth c A ls hx hb hml hr hts hown hlocks hin hA hG hZ hP hD hS hl => ?_)
  have hl : lv_has ls 2 [(0, .ref a0), (1, .int 2)] := hl
  refine lv_aload_n hx hb d_17_2_0 rfl (lv_at hl 0 rfl) ?_
  refine va_get (D := z.1) (ci := 14) (v := .int 0) (C := "BallothallModel$Poll") (T := TX14) (N := 7) hx hb hts iX14 hown hG.1 hP 0 rfl rfl 1 (by decide) (hts _ w_2255) (fun _ h9 => h9) rfl d_17_2_1 ?_
  refine lv_iload_n hx hb d_17_2_4 rfl (lv_at hl 1 rfl) ?_
  refine lv_ishr hx hb d_17_2_5 ?_
  refine nrm (x1 := 0) (by decide +kernel) ?_
  refine lv_iconst (v := 1) hx hb d_17_2_6 (by decide +kernel) ?_
  refine lv_iand hx hb d_17_2_7 ?_
  refine nrm (x1 := 0) (by decide +kernel) ?_
  refine lv_iconst (v := 1) hx hb d_17_2_8 (by decide +kernel) ?_
  refine lv_icmp_ne (tgt := 16) hx hb d_17_2_9 (by decide) (fun _ => ?_) (fun c9 => absurd c9 (by decide +kernel))
  refine lv_iconst (v := 0) hx hb d_17_2_16 (by decide +kernel) ?_
  refine W.widen (k := 0) (n := 0) (Nat.le_of_ble_eq_true rfl) (Nat.le_of_ble_eq_true rfl) ?_
  exact W.zret hx hb hr rfl (fun t ht hW => qk hP hD hS [0] rfl ((fun k => k), (fun _ _ => none)) rfl rfl rfl ht) hS.2.2 d_17_2_17
set_option maxRecDepth 100000 in
set_option maxHeartbeats 4000000 in
theorem c305_Poll_isIn (l : Launch) (z : Zz) (a0 a1 a2 a3 a4 a5 : Nat) : CT l z ⟨"BallothallModel$Poll", "isIn", "(I)Z"⟩ prog_17_method_2_code 2 (some .boolean) [.ref a0, .int 3] [(a0, .inr (14, [.ref a1, .int 0, .ref a2, .ref a3, .int 0, .ref a4, .ref a5]))] 0 0 0 0 (fun u => some (.int 0)) (fun u => [(a0, .inr (14, [.ref a1, .int 0, .ref a2, .ref a3, .int 0, .ref a4, .ref a5]))]) := by
  refine CT.of (own := "BallothallModel$Poll") (by decide +kernel) (Nat.le_of_ble_eq_true rfl) rfl (fun p e s m below meth c A ls hx hb hml hr hts hown hlocks hin hA hG hZ hP hD hS hl => ?_)
  have hl : lv_has ls 2 [(0, .ref a0), (1, .int 3)] := hl
  refine lv_aload_n hx hb d_17_2_0 rfl (lv_at hl 0 rfl) ?_
  refine va_get (D := z.1) (ci := 14) (v := .int 0) (C := "BallothallModel$Poll") (T := TX14) (N := 7) hx hb hts iX14 hown hG.1 hP 0 rfl rfl 1 (by decide) (hts _ w_2255) (fun _ h9 => h9) rfl d_17_2_1 ?_
  refine lv_iload_n hx hb d_17_2_4 rfl (lv_at hl 1 rfl) ?_
  refine lv_ishr hx hb d_17_2_5 ?_
  refine nrm (x1 := 0) (by decide +kernel) ?_
  refine lv_iconst (v := 1) hx hb d_17_2_6 (by decide +kernel) ?_
  refine lv_iand hx hb d_17_2_7 ?_
  refine nrm (x1 := 0) (by decide +kernel) ?_
  refine lv_iconst (v := 1) hx hb d_17_2_8 (by decide +kernel) ?_
  refine lv_icmp_ne (tgt := 16) hx hb d_17_2_9 (by decide) (fun _ => ?_) (fun c9 => absurd c9 (by decide +kernel))
  refine lv_iconst (v := 0) hx hb d_17_2_16 (by decide +kernel) ?_
  refine W.widen (k := 0) (n := 0) (Nat.le_of_ble_eq_true rfl) (Nat.le_of_ble_eq_true rfl) ?_
  exact W.zret hx hb hr rfl (fun t ht hW => qk hP hD hS [0] rfl ((fun k => k), (fun _ _ => none)) rfl rfl rfl ht) hS.2.2 d_17_2_17
set_option maxRecDepth 100000 in
set_option maxHeartbeats 4000000 in
theorem c306_Poll_isIn (l : Launch) (z : Zz) (a0 a1 a2 a3 a4 a5 : Nat) : CT l z ⟨"BallothallModel$Poll", "isIn", "(I)Z"⟩ prog_17_method_2_code 2 (some .boolean) [.ref a0, .int 4] [(a0, .inr (14, [.ref a1, .int 0, .ref a2, .ref a3, .int 0, .ref a4, .ref a5]))] 0 0 0 0 (fun u => some (.int 0)) (fun u => [(a0, .inr (14, [.ref a1, .int 0, .ref a2, .ref a3, .int 0, .ref a4, .ref a5]))]) := by
  refine CT.of (own := "BallothallModel$Poll") (by decide +kernel) (Nat.le_of_ble_eq_true rfl) rfl (fun p e s m below meth c A ls hx hb hml hr hts hown hlocks hin hA hG hZ hP hD hS hl => ?_)
  have hl : lv_has ls 2 [(0, .ref a0), (1, .int 4)] := hl
  refine lv_aload_n hx hb d_17_2_0 rfl (lv_at hl 0 rfl) ?_
  refine va_get (D := z.1) (ci := 14) (v := .int 0) (C := "BallothallModel$Poll") (T := TX14) (N := 7) hx hb hts iX14 hown hG.1 hP 0 rfl rfl 1 (by decide) (hts _ w_2255) (fun _ h9 => h9) rfl d_17_2_1 ?_
  refine lv_iload_n hx hb d_17_2_4 rfl (lv_at hl 1 rfl) ?_
  refine lv_ishr hx hb d_17_2_5 ?_
  refine nrm (x1 := 0) (by decide +kernel) ?_
  refine lv_iconst (v := 1) hx hb d_17_2_6 (by decide +kernel) ?_
  refine lv_iand hx hb d_17_2_7 ?_
  refine nrm (x1 := 0) (by decide +kernel) ?_
  refine lv_iconst (v := 1) hx hb d_17_2_8 (by decide +kernel) ?_
  refine lv_icmp_ne (tgt := 16) hx hb d_17_2_9 (by decide) (fun _ => ?_) (fun c9 => absurd c9 (by decide +kernel))
  refine lv_iconst (v := 0) hx hb d_17_2_16 (by decide +kernel) ?_
  refine W.widen (k := 0) (n := 0) (Nat.le_of_ble_eq_true rfl) (Nat.le_of_ble_eq_true rfl) ?_
  exact W.zret hx hb hr rfl (fun t ht hW => qk hP hD hS [0] rfl ((fun k => k), (fun _ _ => none)) rfl rfl rfl ht) hS.2.2 d_17_2_17
set_option maxRecDepth 100000 in
set_option maxHeartbeats 4000000 in
theorem c307_Poll_isIn (l : Launch) (z : Zz) (a0 a1 a2 a3 a4 a5 : Nat) : CT l z ⟨"BallothallModel$Poll", "isIn", "(I)Z"⟩ prog_17_method_2_code 2 (some .boolean) [.ref a0, .int 5] [(a0, .inr (14, [.ref a1, .int 0, .ref a2, .ref a3, .int 0, .ref a4, .ref a5]))] 0 0 0 0 (fun u => some (.int 0)) (fun u => [(a0, .inr (14, [.ref a1, .int 0, .ref a2, .ref a3, .int 0, .ref a4, .ref a5]))]) := by
  refine CT.of (own := "BallothallModel$Poll") (by decide +kernel) (Nat.le_of_ble_eq_true rfl) rfl (fun p e s m below meth c A ls hx hb hml hr hts hown hlocks hin hA hG hZ hP hD hS hl => ?_)
  have hl : lv_has ls 2 [(0, .ref a0), (1, .int 5)] := hl
  refine lv_aload_n hx hb d_17_2_0 rfl (lv_at hl 0 rfl) ?_
  refine va_get (D := z.1) (ci := 14) (v := .int 0) (C := "BallothallModel$Poll") (T := TX14) (N := 7) hx hb hts iX14 hown hG.1 hP 0 rfl rfl 1 (by decide) (hts _ w_2255) (fun _ h9 => h9) rfl d_17_2_1 ?_
  refine lv_iload_n hx hb d_17_2_4 rfl (lv_at hl 1 rfl) ?_
  refine lv_ishr hx hb d_17_2_5 ?_
  refine nrm (x1 := 0) (by decide +kernel) ?_
  refine lv_iconst (v := 1) hx hb d_17_2_6 (by decide +kernel) ?_
  refine lv_iand hx hb d_17_2_7 ?_
  refine nrm (x1 := 0) (by decide +kernel) ?_
  refine lv_iconst (v := 1) hx hb d_17_2_8 (by decide +kernel) ?_
  refine lv_icmp_ne (tgt := 16) hx hb d_17_2_9 (by decide) (fun _ => ?_) (fun c9 => absurd c9 (by decide +kernel))
  refine lv_iconst (v := 0) hx hb d_17_2_16 (by decide +kernel) ?_
  refine W.widen (k := 0) (n := 0) (Nat.le_of_ble_eq_true rfl) (Nat.le_of_ble_eq_true rfl) ?_
  exact W.zret hx hb hr rfl (fun t ht hW => qk hP hD hS [0] rfl ((fun k => k), (fun _ _ => none)) rfl rfl rfl ht) hS.2.2 d_17_2_17
set_option maxRecDepth 100000 in
set_option maxHeartbeats 4000000 in
theorem c308_Poll_isIn (l : Launch) (z : Zz) (a0 a1 a2 a3 a4 a5 : Nat) : CT l z ⟨"BallothallModel$Poll", "isIn", "(I)Z"⟩ prog_17_method_2_code 2 (some .boolean) [.ref a0, .int 6] [(a0, .inr (14, [.ref a1, .int 0, .ref a2, .ref a3, .int 0, .ref a4, .ref a5]))] 0 0 0 0 (fun u => some (.int 0)) (fun u => [(a0, .inr (14, [.ref a1, .int 0, .ref a2, .ref a3, .int 0, .ref a4, .ref a5]))]) := by
  refine CT.of (own := "BallothallModel$Poll") (by decide +kernel) (Nat.le_of_ble_eq_true rfl) rfl (fun p e s m below meth c A ls hx hb hml hr hts hown hlocks hin hA hG hZ hP hD hS hl => ?_)
  have hl : lv_has ls 2 [(0, .ref a0), (1, .int 6)] := hl
  refine lv_aload_n hx hb d_17_2_0 rfl (lv_at hl 0 rfl) ?_
  refine va_get (D := z.1) (ci := 14) (v := .int 0) (C := "BallothallModel$Poll") (T := TX14) (N := 7) hx hb hts iX14 hown hG.1 hP 0 rfl rfl 1 (by decide) (hts _ w_2255) (fun _ h9 => h9) rfl d_17_2_1 ?_
  refine lv_iload_n hx hb d_17_2_4 rfl (lv_at hl 1 rfl) ?_
  refine lv_ishr hx hb d_17_2_5 ?_
  refine nrm (x1 := 0) (by decide +kernel) ?_
  refine lv_iconst (v := 1) hx hb d_17_2_6 (by decide +kernel) ?_
  refine lv_iand hx hb d_17_2_7 ?_
  refine nrm (x1 := 0) (by decide +kernel) ?_
  refine lv_iconst (v := 1) hx hb d_17_2_8 (by decide +kernel) ?_
  refine lv_icmp_ne (tgt := 16) hx hb d_17_2_9 (by decide) (fun _ => ?_) (fun c9 => absurd c9 (by decide +kernel))
  refine lv_iconst (v := 0) hx hb d_17_2_16 (by decide +kernel) ?_
  refine W.widen (k := 0) (n := 0) (Nat.le_of_ble_eq_true rfl) (Nat.le_of_ble_eq_true rfl) ?_
  exact W.zret hx hb hr rfl (fun t ht hW => qk hP hD hS [0] rfl ((fun k => k), (fun _ _ => none)) rfl rfl rfl ht) hS.2.2 d_17_2_17
set_option maxRecDepth 100000 in
set_option maxHeartbeats 4000000 in
theorem c309_Poll_isIn (l : Launch) (z : Zz) (a0 a1 a2 a3 a4 a5 : Nat) : CT l z ⟨"BallothallModel$Poll", "isIn", "(I)Z"⟩ prog_17_method_2_code 2 (some .boolean) [.ref a0, .int 7] [(a0, .inr (14, [.ref a1, .int 0, .ref a2, .ref a3, .int 0, .ref a4, .ref a5]))] 0 0 0 0 (fun u => some (.int 0)) (fun u => [(a0, .inr (14, [.ref a1, .int 0, .ref a2, .ref a3, .int 0, .ref a4, .ref a5]))]) := by
  refine CT.of (own := "BallothallModel$Poll") (by decide +kernel) (Nat.le_of_ble_eq_true rfl) rfl (fun p e s m below meth c A ls hx hb hml hr hts hown hlocks hin hA hG hZ hP hD hS hl => ?_)
  have hl : lv_has ls 2 [(0, .ref a0), (1, .int 7)] := hl
  refine lv_aload_n hx hb d_17_2_0 rfl (lv_at hl 0 rfl) ?_
  refine va_get (D := z.1) (ci := 14) (v := .int 0) (C := "BallothallModel$Poll") (T := TX14) (N := 7) hx hb hts iX14 hown hG.1 hP 0 rfl rfl 1 (by decide) (hts _ w_2255) (fun _ h9 => h9) rfl d_17_2_1 ?_
  refine lv_iload_n hx hb d_17_2_4 rfl (lv_at hl 1 rfl) ?_
  refine lv_ishr hx hb d_17_2_5 ?_
  refine nrm (x1 := 0) (by decide +kernel) ?_
  refine lv_iconst (v := 1) hx hb d_17_2_6 (by decide +kernel) ?_
  refine lv_iand hx hb d_17_2_7 ?_
  refine nrm (x1 := 0) (by decide +kernel) ?_
  refine lv_iconst (v := 1) hx hb d_17_2_8 (by decide +kernel) ?_
  refine lv_icmp_ne (tgt := 16) hx hb d_17_2_9 (by decide) (fun _ => ?_) (fun c9 => absurd c9 (by decide +kernel))
  refine lv_iconst (v := 0) hx hb d_17_2_16 (by decide +kernel) ?_
  refine W.widen (k := 0) (n := 0) (Nat.le_of_ble_eq_true rfl) (Nat.le_of_ble_eq_true rfl) ?_
  exact W.zret hx hb hr rfl (fun t ht hW => qk hP hD hS [0] rfl ((fun k => k), (fun _ _ => none)) rfl rfl rfl ht) hS.2.2 d_17_2_17
set_option maxRecDepth 100000 in
set_option maxHeartbeats 4000000 in
theorem s310_paths (l : Launch) (z : Zz) (a0 : Nat) (a1 : Nat) (a2 : Nat) (a3 : Nat) (a4 : Nat) (g91 : Nat → Option Nat) (q0 : Nat) (r1 : Nat → Nat) {p : Program} {e : Env} {s : State} {m : MethodId} {below : List Frame} {meth : Method} {c : Code} {A : Nat → Prop} {Q : State → Prop} (hx : p.tables.exec = Jvm.exec) (hb : c.code = prog_17_method_9_code) (hml : c.maxLocals = 5) (hts : ∀ w ∈ WG, w.before ([.ref a0] : List Value).toArray s = true) (hown : s.vm.findClass "BallothallModel$Poll" = some m.cls) (hA : ∀ q, s.heap.size ≤ q → A q) (hG : KG z s) (hZ : XZ A s) (hk : ∀ (H : Heap) (locs : List Loc) (ls : Array Slot), va_P z.1 classes [(q0, .inl (z.2 8, 8, .inr (.inr (.inr (.inr (va_up (va_up (va_up (va_up (va_up (va_up (va_up (va_up g91 0 (some (r1 0))) 1 (some (r1 1))) 2 (some (r1 2))) 3 (some (r1 3))) 4 (some (r1 4))) 5 (some (r1 5))) 6 (some (r1 6))) 7 (some (r1 7)))))))), ((r1 0), .inl (z.2 0, 8, .inl (fun _ => 0))), ((r1 1), .inl (z.2 0, 8, .inl (fun _ => 0))), ((r1 2), .inl (z.2 0, 8, .inl (fun _ => 0))), ((r1 3), .inl (z.2 0, 8, .inl (fun _ => 0))), ((r1 4), .inl (z.2 0, 8, .inl (fun _ => 0))), ((r1 5), .inl (z.2 0, 8, .inl (fun _ => 0))), ((r1 6), .inl (z.2 0, 8, .inl (fun _ => 0))), ((r1 7), .inl (z.2 0, 8, .inl (fun _ => 0))), (a0, .inr (14, [.ref a1, .int 0, .ref a2, .ref a3, .int 0, .ref a4, .ref q0]))] H → va_D A [(q0, .inl (z.2 8, 8, .inr (.inr (.inr (.inr (va_up (va_up (va_up (va_up (va_up (va_up (va_up (va_up g91 0 (some (r1 0))) 1 (some (r1 1))) 2 (some (r1 2))) 3 (some (r1 3))) 4 (some (r1 4))) 5 (some (r1 5))) 6 (some (r1 6))) 7 (some (r1 7)))))))), ((r1 0), .inl (z.2 0, 8, .inl (fun _ => 0))), ((r1 1), .inl (z.2 0, 8, .inl (fun _ => 0))), ((r1 2), .inl (z.2 0, 8, .inl (fun _ => 0))), ((r1 3), .inl (z.2 0, 8, .inl (fun _ => 0))), ((r1 4), .inl (z.2 0, 8, .inl (fun _ => 0))), ((r1 5), .inl (z.2 0, 8, .inl (fun _ => 0))), ((r1 6), .inl (z.2 0, 8, .inl (fun _ => 0))), ((r1 7), .inl (z.2 0, 8, .inl (fun _ => 0))), (a0, .inr (14, [.ref a1, .int 0, .ref a2, .ref a3, .int 0, .ref a4, .ref q0]))] → va_S A s.heap H locs → lv_has ls 5 [(2, .int 1), (3, .int 8), (4, .int 0), (1, .ref q0), (0, .ref a0)] → W p l e (rmK 1 29 9 72) s m ([.ref a0] : List Value).toArray below meth c H locs 9 72 Q (F0 m 26 ls [])) (H : Heap) (locs : List Loc) (ls : Array Slot) (hP : va_P z.1 classes [(a0, .inr (14, [.ref a1, .int 0, .ref a2, .ref a3, .int 0, .ref a4, .ref q0])), (q0, .inl (z.2 8, 8, .inr (.inr (.inr (.inr (va_up (va_up (va_up (va_up (va_up (va_up (va_up (va_up g91 0 (some (r1 0))) 1 (some (r1 1))) 2 (some (r1 2))) 3 (some (r1 3))) 4 (some (r1 4))) 5 (some (r1 5))) 6 (some (r1 6))) 7 (some (r1 7)))))))), ((r1 0), .inl (z.2 0, 8, .inl (fun _ => 0))), ((r1 1), .inl (z.2 0, 8, .inl (fun _ => 0))), ((r1 2), .inl (z.2 0, 8, .inl (fun _ => 0))), ((r1 3), .inl (z.2 0, 8, .inl (fun _ => 0))), ((r1 4), .inl (z.2 0, 8, .inl (fun _ => 0))), ((r1 5), .inl (z.2 0, 8, .inl (fun _ => 0))), ((r1 6), .inl (z.2 0, 8, .inl (fun _ => 0))), ((r1 7), .inl (z.2 0, 8, .inl (fun _ => 0)))] H) (hD : va_D A [(a0, .inr (14, [.ref a1, .int 0, .ref a2, .ref a3, .int 0, .ref a4, .ref q0])), (q0, .inl (z.2 8, 8, .inr (.inr (.inr (.inr (va_up (va_up (va_up (va_up (va_up (va_up (va_up (va_up g91 0 (some (r1 0))) 1 (some (r1 1))) 2 (some (r1 2))) 3 (some (r1 3))) 4 (some (r1 4))) 5 (some (r1 5))) 6 (some (r1 6))) 7 (some (r1 7)))))))), ((r1 0), .inl (z.2 0, 8, .inl (fun _ => 0))), ((r1 1), .inl (z.2 0, 8, .inl (fun _ => 0))), ((r1 2), .inl (z.2 0, 8, .inl (fun _ => 0))), ((r1 3), .inl (z.2 0, 8, .inl (fun _ => 0))), ((r1 4), .inl (z.2 0, 8, .inl (fun _ => 0))), ((r1 5), .inl (z.2 0, 8, .inl (fun _ => 0))), ((r1 6), .inl (z.2 0, 8, .inl (fun _ => 0))), ((r1 7), .inl (z.2 0, 8, .inl (fun _ => 0)))]) (hS : va_S A s.heap H locs) (hl : lv_has ls 5 [(2, .int 0), (1, .ref q0), (0, .ref a0)]) : W p l e (rmK 1 29 9 72) s m ([.ref a0] : List Value).toArray below meth c H locs 9 72 Q (F0 m 26 ls []) := by
  refine lv_iload_n hx hb d_17_9_26 rfl (lv_at hl 0 rfl) ?_
  refine lv_bipush (v := 8) hx hb d_17_9_27 (by decide +kernel) ?_
  refine lv_icmp_ge (tgt := 112) hx hb d_17_9_29 (by decide) (fun c9 => absurd c9 (by decide +kernel)) (fun _ => ?_)
  refine lv_iconst (v := 0) hx hb d_17_9_32 (by decide +kernel) ?_
  refine lv_istore_n (lv' := [(3, .int 0), (2, .int 0), (1, .ref q0), (0, .ref a0)]) hx hb d_17_9_33 rfl hl (by decide) rfl (fun ls hl => ?_)
  refine lv_iload_n hx hb d_17_9_34 rfl (lv_at hl 0 rfl) ?_
  refine lv_bipush (v := 8) hx hb d_17_9_35 (by decide +kernel) ?_
  refine lv_icmp_ge (tgt := 106) hx hb d_17_9_37 (by decide) (fun c9 => absurd c9 (by decide +kernel)) (fun _ => ?_)
  refine lv_iload_n hx hb d_17_9_40 rfl (lv_at hl 1 rfl) ?_
  refine lv_iload_n hx hb d_17_9_41 rfl (lv_at hl 0 rfl) ?_
  refine lv_icmp_eq (tgt := 70) hx hb d_17_9_42 (by decide) (fun _ => ?_) (fun c9 => absurd (by decide +kernel) c9)
  refine lv_iconst (v := 0) hx hb d_17_9_70 (by decide +kernel) ?_
  refine lv_istore (lv' := [(4, .int 0), (3, .int 0), (2, .int 0), (1, .ref q0), (0, .ref a0)]) hx hb d_17_9_71 hl (by decide) rfl (fun ls hl => ?_)
  refine lv_aload_n hx hb d_17_9_73 rfl (lv_at hl 3 rfl) ?_
  refine lv_iload_n hx hb d_17_9_74 rfl (lv_at hl 2 rfl) ?_
  refine va_alda hx hb hG.1 hP 1 8 rfl rfl (vin rfl) d_17_9_75 ?_
  refine W.eq (g2 := F0 m 76 ls [.ref (r1 0)]) rfl ?_
  refine lv_iload_n hx hb d_17_9_76 rfl (lv_at hl 1 rfl) ?_
  refine lv_iload hx hb d_17_9_77 (lv_at hl 0 rfl) ?_
  refine lv_if_le (tgt := 98) hx hb d_17_9_79 (by decide) (fun _ => ?_) (fun c9 => absurd (by decide +kernel) c9)
  refine lv_iconst (v := 0) hx hb d_17_9_98 (by decide +kernel) ?_
  refine va_iast hx hb hG.1 hP hD hS 2 0 rfl rfl (vin rfl) d_17_9_99 (fun H locs hP hD hS => ?_)
  rw [upd_z] at hP hD
  have hP : va_P z.1 classes [(a0, .inr (14, [.ref a1, .int 0, .ref a2, .ref a3, .int 0, .ref a4, .ref q0])), (q0, .inl (z.2 8, 8, .inr (.inr (.inr (.inr (va_up (va_up (va_up (va_up (va_up (va_up (va_up (va_up g91 0 (some (r1 0))) 1 (some (r1 1))) 2 (some (r1 2))) 3 (some (r1 3))) 4 (some (r1 4))) 5 (some (r1 5))) 6 (some (r1 6))) 7 (some (r1 7)))))))), ((r1 0), .inl (z.2 0, 8, .inl (fun _ => 0))), ((r1 1), .inl (z.2 0, 8, .inl (fun _ => 0))), ((r1 2), .inl (z.2 0, 8, .inl (fun _ => 0))), ((r1 3), .inl (z.2 0, 8, .inl (fun _ => 0))), ((r1 4), .inl (z.2 0, 8, .inl (fun _ => 0))), ((r1 5), .inl (z.2 0, 8, .inl (fun _ => 0))), ((r1 6), .inl (z.2 0, 8, .inl (fun _ => 0))), ((r1 7), .inl (z.2 0, 8, .inl (fun _ => 0)))] H := hP
  have hD : va_D A [(a0, .inr (14, [.ref a1, .int 0, .ref a2, .ref a3, .int 0, .ref a4, .ref q0])), (q0, .inl (z.2 8, 8, .inr (.inr (.inr (.inr (va_up (va_up (va_up (va_up (va_up (va_up (va_up (va_up g91 0 (some (r1 0))) 1 (some (r1 1))) 2 (some (r1 2))) 3 (some (r1 3))) 4 (some (r1 4))) 5 (some (r1 5))) 6 (some (r1 6))) 7 (some (r1 7)))))))), ((r1 0), .inl (z.2 0, 8, .inl (fun _ => 0))), ((r1 1), .inl (z.2 0, 8, .inl (fun _ => 0))), ((r1 2), .inl (z.2 0, 8, .inl (fun _ => 0))), ((r1 3), .inl (z.2 0, 8, .inl (fun _ => 0))), ((r1 4), .inl (z.2 0, 8, .inl (fun _ => 0))), ((r1 5), .inl (z.2 0, 8, .inl (fun _ => 0))), ((r1 6), .inl (z.2 0, 8, .inl (fun _ => 0))), ((r1 7), .inl (z.2 0, 8, .inl (fun _ => 0)))] := hD
  refine lv_iinc (v := 1) (lv' := [(3, .int 1), (4, .int 0), (2, .int 0), (1, .ref q0), (0, .ref a0)]) hx hb d_17_9_100 hl (k := 1) rfl (by decide +kernel) (by decide) rfl (fun ls hl => ?_)
  refine lv_goto (tgt := 34) hx hb d_17_9_103 (by decide) ?_
  refine lv_iload_n hx hb d_17_9_34 rfl (lv_at hl 0 rfl) ?_
  refine lv_bipush (v := 8) hx hb d_17_9_35 (by decide +kernel) ?_
  refine lv_icmp_ge (tgt := 106) hx hb d_17_9_37 (by decide) (fun c9 => absurd c9 (by decide +kernel)) (fun _ => ?_)
  refine lv_iload_n hx hb d_17_9_40 rfl (lv_at hl 2 rfl) ?_
  refine lv_iload_n hx hb d_17_9_41 rfl (lv_at hl 0 rfl) ?_
  refine lv_icmp_eq (tgt := 70) hx hb d_17_9_42 (by decide) (fun c9 => absurd c9 (by decide +kernel)) (fun _ => ?_)
  refine lv_aload_n hx hb d_17_9_45 rfl (lv_at hl 4 rfl) ?_
  refine lv_iload_n hx hb d_17_9_46 rfl (lv_at hl 2 rfl) ?_
  refine kV (As := [.int 0]) (rest := []) (wr := [(q0, .inl (z.2 8, 8, .inr (.inr (.inr (.inr (va_up (va_up (va_up (va_up (va_up (va_up (va_up (va_up g91 0 (some (r1 0))) 1 (some (r1 1))) 2 (some (r1 2))) 3 (some (r1 3))) 4 (some (r1 4))) 5 (some (r1 5))) 6 (some (r1 6))) 7 (some (r1 7)))))))), ((r1 0), .inl (z.2 0, 8, .inl (fun _ => 0))), ((r1 1), .inl (z.2 0, 8, .inl (fun _ => 0))), ((r1 2), .inl (z.2 0, 8, .inl (fun _ => 0))), ((r1 3), .inl (z.2 0, 8, .inl (fun _ => 0))), ((r1 4), .inl (z.2 0, 8, .inl (fun _ => 0))), ((r1 5), .inl (z.2 0, 8, .inl (fun _ => 0))), ((r1 6), .inl (z.2 0, 8, .inl (fun _ => 0))), ((r1 7), .inl (z.2 0, 8, .inl (fun _ => 0)))]) (c302_Poll_isIn l z a0 a1 a2 a3 a4 q0) hx hb hml hown hts w_2302 w_2299 w_2300 w_2301 w_36 md_2288df ⟨Nat.le_of_ble_eq_true rfl, Nat.le_of_ble_eq_true rfl⟩ hG hZ hP hD hS hA 0 rfl rfl rfl [0] [1, 2, 3, 4, 5, 6, 7, 8, 9] rfl rfl rfl rfl rfl hl.1 rfl (Nat.le_of_ble_eq_true rfl) d_17_9_47 ⟨Nat.le_of_ble_eq_true rfl, Nat.le_of_ble_eq_true rfl⟩ (fun u0 H locs hP hD hS => ?_)
  have hP : va_P z.1 classes [(q0, .inl (z.2 8, 8, .inr (.inr (.inr (.inr (va_up (va_up (va_up (va_up (va_up (va_up (va_up (va_up g91 0 (some (r1 0))) 1 (some (r1 1))) 2 (some (r1 2))) 3 (some (r1 3))) 4 (some (r1 4))) 5 (some (r1 5))) 6 (some (r1 6))) 7 (some (r1 7)))))))), ((r1 0), .inl (z.2 0, 8, .inl (fun _ => 0))), ((r1 1), .inl (z.2 0, 8, .inl (fun _ => 0))), ((r1 2), .inl (z.2 0, 8, .inl (fun _ => 0))), ((r1 3), .inl (z.2 0, 8, .inl (fun _ => 0))), ((r1 4), .inl (z.2 0, 8, .inl (fun _ => 0))), ((r1 5), .inl (z.2 0, 8, .inl (fun _ => 0))), ((r1 6), .inl (z.2 0, 8, .inl (fun _ => 0))), ((r1 7), .inl (z.2 0, 8, .inl (fun _ => 0))), (a0, .inr (14, [.ref a1, .int 0, .ref a2, .ref a3, .int 0, .ref a4, .ref q0]))] H := hP
  have hD : va_D A [(q0, .inl (z.2 8, 8, .inr (.inr (.inr (.inr (va_up (va_up (va_up (va_up (va_up (va_up (va_up (va_up g91 0 (some (r1 0))) 1 (some (r1 1))) 2 (some (r1 2))) 3 (some (r1 3))) 4 (some (r1 4))) 5 (some (r1 5))) 6 (some (r1 6))) 7 (some (r1 7)))))))), ((r1 0), .inl (z.2 0, 8, .inl (fun _ => 0))), ((r1 1), .inl (z.2 0, 8, .inl (fun _ => 0))), ((r1 2), .inl (z.2 0, 8, .inl (fun _ => 0))), ((r1 3), .inl (z.2 0, 8, .inl (fun _ => 0))), ((r1 4), .inl (z.2 0, 8, .inl (fun _ => 0))), ((r1 5), .inl (z.2 0, 8, .inl (fun _ => 0))), ((r1 6), .inl (z.2 0, 8, .inl (fun _ => 0))), ((r1 7), .inl (z.2 0, 8, .inl (fun _ => 0))), (a0, .inr (14, [.ref a1, .int 0, .ref a2, .ref a3, .int 0, .ref a4, .ref q0]))] := hD
  refine W.eq (g2 := F0 m 50 ls [.int 0]) rfl ?_
  refine lv_if_eq (tgt := 70) hx hb d_17_9_50 (by decide) (fun _ => ?_) (fun c9 => absurd (by decide +kernel) c9)
  refine lv_iconst (v := 0) hx hb d_17_9_70 (by decide +kernel) ?_
  refine lv_istore (lv' := [(4, .int 0), (3, .int 1), (2, .int 0), (1, .ref q0), (0, .ref a0)]) hx hb d_17_9_71 hl (by decide) rfl (fun ls hl => ?_)
  refine lv_aload_n hx hb d_17_9_73 rfl (lv_at hl 3 rfl) ?_
  refine lv_iload_n hx hb d_17_9_74 rfl (lv_at hl 2 rfl) ?_
  refine va_alda hx hb hG.1 hP 0 8 rfl rfl (vin rfl) d_17_9_75 ?_
  refine W.eq (g2 := F0 m 76 ls [.ref (r1 0)]) rfl ?_
  refine lv_iload_n hx hb d_17_9_76 rfl (lv_at hl 1 rfl) ?_
  refine lv_iload hx hb d_17_9_77 (lv_at hl 0 rfl) ?_
  refine lv_if_le (tgt := 98) hx hb d_17_9_79 (by decide) (fun _ => ?_) (fun c9 => absurd (by decide +kernel) c9)
  refine lv_iconst (v := 0) hx hb d_17_9_98 (by decide +kernel) ?_
  refine va_iast hx hb hG.1 hP hD hS 1 0 rfl rfl (vin rfl) d_17_9_99 (fun H locs hP hD hS => ?_)
  rw [upd_z] at hP hD
  have hP : va_P z.1 classes [(q0, .inl (z.2 8, 8, .inr (.inr (.inr (.inr (va_up (va_up (va_up (va_up (va_up (va_up (va_up (va_up g91 0 (some (r1 0))) 1 (some (r1 1))) 2 (some (r1 2))) 3 (some (r1 3))) 4 (some (r1 4))) 5 (some (r1 5))) 6 (some (r1 6))) 7 (some (r1 7)))))))), ((r1 0), .inl (z.2 0, 8, .inl (fun _ => 0))), ((r1 1), .inl (z.2 0, 8, .inl (fun _ => 0))), ((r1 2), .inl (z.2 0, 8, .inl (fun _ => 0))), ((r1 3), .inl (z.2 0, 8, .inl (fun _ => 0))), ((r1 4), .inl (z.2 0, 8, .inl (fun _ => 0))), ((r1 5), .inl (z.2 0, 8, .inl (fun _ => 0))), ((r1 6), .inl (z.2 0, 8, .inl (fun _ => 0))), ((r1 7), .inl (z.2 0, 8, .inl (fun _ => 0))), (a0, .inr (14, [.ref a1, .int 0, .ref a2, .ref a3, .int 0, .ref a4, .ref q0]))] H := hP
  have hD : va_D A [(q0, .inl (z.2 8, 8, .inr (.inr (.inr (.inr (va_up (va_up (va_up (va_up (va_up (va_up (va_up (va_up g91 0 (some (r1 0))) 1 (some (r1 1))) 2 (some (r1 2))) 3 (some (r1 3))) 4 (some (r1 4))) 5 (some (r1 5))) 6 (some (r1 6))) 7 (some (r1 7)))))))), ((r1 0), .inl (z.2 0, 8, .inl (fun _ => 0))), ((r1 1), .inl (z.2 0, 8, .inl (fun _ => 0))), ((r1 2), .inl (z.2 0, 8, .inl (fun _ => 0))), ((r1 3), .inl (z.2 0, 8, .inl (fun _ => 0))), ((r1 4), .inl (z.2 0, 8, .inl (fun _ => 0))), ((r1 5), .inl (z.2 0, 8, .inl (fun _ => 0))), ((r1 6), .inl (z.2 0, 8, .inl (fun _ => 0))), ((r1 7), .inl (z.2 0, 8, .inl (fun _ => 0))), (a0, .inr (14, [.ref a1, .int 0, .ref a2, .ref a3, .int 0, .ref a4, .ref q0]))] := hD
  refine lv_iinc (v := 2) (lv' := [(3, .int 2), (4, .int 0), (2, .int 0), (1, .ref q0), (0, .ref a0)]) hx hb d_17_9_100 hl (k := 1) rfl (by decide +kernel) (by decide) rfl (fun ls hl => ?_)
  refine lv_goto (tgt := 34) hx hb d_17_9_103 (by decide) ?_
  refine lv_iload_n hx hb d_17_9_34 rfl (lv_at hl 0 rfl) ?_
  refine lv_bipush (v := 8) hx hb d_17_9_35 (by decide +kernel) ?_
  refine lv_icmp_ge (tgt := 106) hx hb d_17_9_37 (by decide) (fun c9 => absurd c9 (by decide +kernel)) (fun _ => ?_)
  refine lv_iload_n hx hb d_17_9_40 rfl (lv_at hl 2 rfl) ?_
  refine lv_iload_n hx hb d_17_9_41 rfl (lv_at hl 0 rfl) ?_
  refine lv_icmp_eq (tgt := 70) hx hb d_17_9_42 (by decide) (fun c9 => absurd c9 (by decide +kernel)) (fun _ => ?_)
  refine lv_aload_n hx hb d_17_9_45 rfl (lv_at hl 4 rfl) ?_
  refine lv_iload_n hx hb d_17_9_46 rfl (lv_at hl 2 rfl) ?_
  refine kV (As := [.int 0]) (rest := []) (wr := [(q0, .inl (z.2 8, 8, .inr (.inr (.inr (.inr (va_up (va_up (va_up (va_up (va_up (va_up (va_up (va_up g91 0 (some (r1 0))) 1 (some (r1 1))) 2 (some (r1 2))) 3 (some (r1 3))) 4 (some (r1 4))) 5 (some (r1 5))) 6 (some (r1 6))) 7 (some (r1 7)))))))), ((r1 0), .inl (z.2 0, 8, .inl (fun _ => 0))), ((r1 1), .inl (z.2 0, 8, .inl (fun _ => 0))), ((r1 2), .inl (z.2 0, 8, .inl (fun _ => 0))), ((r1 3), .inl (z.2 0, 8, .inl (fun _ => 0))), ((r1 4), .inl (z.2 0, 8, .inl (fun _ => 0))), ((r1 5), .inl (z.2 0, 8, .inl (fun _ => 0))), ((r1 6), .inl (z.2 0, 8, .inl (fun _ => 0))), ((r1 7), .inl (z.2 0, 8, .inl (fun _ => 0)))]) (c302_Poll_isIn l z a0 a1 a2 a3 a4 q0) hx hb hml hown hts w_2302 w_2299 w_2300 w_2301 w_36 md_2288df ⟨Nat.le_of_ble_eq_true rfl, Nat.le_of_ble_eq_true rfl⟩ hG hZ hP hD hS hA 9 rfl rfl rfl [9] [0, 1, 2, 3, 4, 5, 6, 7, 8] rfl rfl rfl rfl rfl hl.1 rfl (Nat.le_of_ble_eq_true rfl) d_17_9_47 ⟨Nat.le_of_ble_eq_true rfl, Nat.le_of_ble_eq_true rfl⟩ (fun u1 H locs hP hD hS => ?_)
  have hP : va_P z.1 classes [(q0, .inl (z.2 8, 8, .inr (.inr (.inr (.inr (va_up (va_up (va_up (va_up (va_up (va_up (va_up (va_up g91 0 (some (r1 0))) 1 (some (r1 1))) 2 (some (r1 2))) 3 (some (r1 3))) 4 (some (r1 4))) 5 (some (r1 5))) 6 (some (r1 6))) 7 (some (r1 7)))))))), ((r1 0), .inl (z.2 0, 8, .inl (fun _ => 0))), ((r1 1), .inl (z.2 0, 8, .inl (fun _ => 0))), ((r1 2), .inl (z.2 0, 8, .inl (fun _ => 0))), ((r1 3), .inl (z.2 0, 8, .inl (fun _ => 0))), ((r1 4), .inl (z.2 0, 8, .inl (fun _ => 0))), ((r1 5), .inl (z.2 0, 8, .inl (fun _ => 0))), ((r1 6), .inl (z.2 0, 8, .inl (fun _ => 0))), ((r1 7), .inl (z.2 0, 8, .inl (fun _ => 0))), (a0, .inr (14, [.ref a1, .int 0, .ref a2, .ref a3, .int 0, .ref a4, .ref q0]))] H := hP
  have hD : va_D A [(q0, .inl (z.2 8, 8, .inr (.inr (.inr (.inr (va_up (va_up (va_up (va_up (va_up (va_up (va_up (va_up g91 0 (some (r1 0))) 1 (some (r1 1))) 2 (some (r1 2))) 3 (some (r1 3))) 4 (some (r1 4))) 5 (some (r1 5))) 6 (some (r1 6))) 7 (some (r1 7)))))))), ((r1 0), .inl (z.2 0, 8, .inl (fun _ => 0))), ((r1 1), .inl (z.2 0, 8, .inl (fun _ => 0))), ((r1 2), .inl (z.2 0, 8, .inl (fun _ => 0))), ((r1 3), .inl (z.2 0, 8, .inl (fun _ => 0))), ((r1 4), .inl (z.2 0, 8, .inl (fun _ => 0))), ((r1 5), .inl (z.2 0, 8, .inl (fun _ => 0))), ((r1 6), .inl (z.2 0, 8, .inl (fun _ => 0))), ((r1 7), .inl (z.2 0, 8, .inl (fun _ => 0))), (a0, .inr (14, [.ref a1, .int 0, .ref a2, .ref a3, .int 0, .ref a4, .ref q0]))] := hD
  refine W.eq (g2 := F0 m 50 ls [.int 0]) rfl ?_
  refine lv_if_eq (tgt := 70) hx hb d_17_9_50 (by decide) (fun _ => ?_) (fun c9 => absurd (by decide +kernel) c9)
  refine lv_iconst (v := 0) hx hb d_17_9_70 (by decide +kernel) ?_
  refine lv_istore (lv' := [(4, .int 0), (3, .int 2), (2, .int 0), (1, .ref q0), (0, .ref a0)]) hx hb d_17_9_71 hl (by decide) rfl (fun ls hl => ?_)
  refine lv_aload_n hx hb d_17_9_73 rfl (lv_at hl 3 rfl) ?_
  refine lv_iload_n hx hb d_17_9_74 rfl (lv_at hl 2 rfl) ?_
  refine va_alda hx hb hG.1 hP 0 8 rfl rfl (vin rfl) d_17_9_75 ?_
  refine W.eq (g2 := F0 m 76 ls [.ref (r1 0)]) rfl ?_
  refine lv_iload_n hx hb d_17_9_76 rfl (lv_at hl 1 rfl) ?_
  refine lv_iload hx hb d_17_9_77 (lv_at hl 0 rfl) ?_
  refine lv_if_le (tgt := 98) hx hb d_17_9_79 (by decide) (fun _ => ?_) (fun c9 => absurd (by decide +kernel) c9)
  refine lv_iconst (v := 0) hx hb d_17_9_98 (by decide +kernel) ?_
  refine va_iast hx hb hG.1 hP hD hS 1 0 rfl rfl (vin rfl) d_17_9_99 (fun H locs hP hD hS => ?_)
  rw [upd_z] at hP hD
  have hP : va_P z.1 classes [(q0, .inl (z.2 8, 8, .inr (.inr (.inr (.inr (va_up (va_up (va_up (va_up (va_up (va_up (va_up (va_up g91 0 (some (r1 0))) 1 (some (r1 1))) 2 (some (r1 2))) 3 (some (r1 3))) 4 (some (r1 4))) 5 (some (r1 5))) 6 (some (r1 6))) 7 (some (r1 7)))))))), ((r1 0), .inl (z.2 0, 8, .inl (fun _ => 0))), ((r1 1), .inl (z.2 0, 8, .inl (fun _ => 0))), ((r1 2), .inl (z.2 0, 8, .inl (fun _ => 0))), ((r1 3), .inl (z.2 0, 8, .inl (fun _ => 0))), ((r1 4), .inl (z.2 0, 8, .inl (fun _ => 0))), ((r1 5), .inl (z.2 0, 8, .inl (fun _ => 0))), ((r1 6), .inl (z.2 0, 8, .inl (fun _ => 0))), ((r1 7), .inl (z.2 0, 8, .inl (fun _ => 0))), (a0, .inr (14, [.ref a1, .int 0, .ref a2, .ref a3, .int 0, .ref a4, .ref q0]))] H := hP
  have hD : va_D A [(q0, .inl (z.2 8, 8, .inr (.inr (.inr (.inr (va_up (va_up (va_up (va_up (va_up (va_up (va_up (va_up g91 0 (some (r1 0))) 1 (some (r1 1))) 2 (some (r1 2))) 3 (some (r1 3))) 4 (some (r1 4))) 5 (some (r1 5))) 6 (some (r1 6))) 7 (some (r1 7)))))))), ((r1 0), .inl (z.2 0, 8, .inl (fun _ => 0))), ((r1 1), .inl (z.2 0, 8, .inl (fun _ => 0))), ((r1 2), .inl (z.2 0, 8, .inl (fun _ => 0))), ((r1 3), .inl (z.2 0, 8, .inl (fun _ => 0))), ((r1 4), .inl (z.2 0, 8, .inl (fun _ => 0))), ((r1 5), .inl (z.2 0, 8, .inl (fun _ => 0))), ((r1 6), .inl (z.2 0, 8, .inl (fun _ => 0))), ((r1 7), .inl (z.2 0, 8, .inl (fun _ => 0))), (a0, .inr (14, [.ref a1, .int 0, .ref a2, .ref a3, .int 0, .ref a4, .ref q0]))] := hD
  refine lv_iinc (v := 3) (lv' := [(3, .int 3), (4, .int 0), (2, .int 0), (1, .ref q0), (0, .ref a0)]) hx hb d_17_9_100 hl (k := 1) rfl (by decide +kernel) (by decide) rfl (fun ls hl => ?_)
  refine lv_goto (tgt := 34) hx hb d_17_9_103 (by decide) ?_
  refine lv_iload_n hx hb d_17_9_34 rfl (lv_at hl 0 rfl) ?_
  refine lv_bipush (v := 8) hx hb d_17_9_35 (by decide +kernel) ?_
  refine lv_icmp_ge (tgt := 106) hx hb d_17_9_37 (by decide) (fun c9 => absurd c9 (by decide +kernel)) (fun _ => ?_)
  refine lv_iload_n hx hb d_17_9_40 rfl (lv_at hl 2 rfl) ?_
  refine lv_iload_n hx hb d_17_9_41 rfl (lv_at hl 0 rfl) ?_
  refine lv_icmp_eq (tgt := 70) hx hb d_17_9_42 (by decide) (fun c9 => absurd c9 (by decide +kernel)) (fun _ => ?_)
  refine lv_aload_n hx hb d_17_9_45 rfl (lv_at hl 4 rfl) ?_
  refine lv_iload_n hx hb d_17_9_46 rfl (lv_at hl 2 rfl) ?_
  refine kV (As := [.int 0]) (rest := []) (wr := [(q0, .inl (z.2 8, 8, .inr (.inr (.inr (.inr (va_up (va_up (va_up (va_up (va_up (va_up (va_up (va_up g91 0 (some (r1 0))) 1 (some (r1 1))) 2 (some (r1 2))) 3 (some (r1 3))) 4 (some (r1 4))) 5 (some (r1 5))) 6 (some (r1 6))) 7 (some (r1 7)))))))), ((r1 0), .inl (z.2 0, 8, .inl (fun _ => 0))), ((r1 1), .inl (z.2 0, 8, .inl (fun _ => 0))), ((r1 2), .inl (z.2 0, 8, .inl (fun _ => 0))), ((r1 3), .inl (z.2 0, 8, .inl (fun _ => 0))), ((r1 4), .inl (z.2 0, 8, .inl (fun _ => 0))), ((r1 5), .inl (z.2 0, 8, .inl (fun _ => 0))), ((r1 6), .inl (z.2 0, 8, .inl (fun _ => 0))), ((r1 7), .inl (z.2 0, 8, .inl (fun _ => 0)))]) (c302_Poll_isIn l z a0 a1 a2 a3 a4 q0) hx hb hml hown hts w_2302 w_2299 w_2300 w_2301 w_36 md_2288df ⟨Nat.le_of_ble_eq_true rfl, Nat.le_of_ble_eq_true rfl⟩ hG hZ hP hD hS hA 9 rfl rfl rfl [9] [0, 1, 2, 3, 4, 5, 6, 7, 8] rfl rfl rfl rfl rfl hl.1 rfl (Nat.le_of_ble_eq_true rfl) d_17_9_47 ⟨Nat.le_of_ble_eq_true rfl, Nat.le_of_ble_eq_true rfl⟩ (fun u2 H locs hP hD hS => ?_)
  have hP : va_P z.1 classes [(q0, .inl (z.2 8, 8, .inr (.inr (.inr (.inr (va_up (va_up (va_up (va_up (va_up (va_up (va_up (va_up g91 0 (some (r1 0))) 1 (some (r1 1))) 2 (some (r1 2))) 3 (some (r1 3))) 4 (some (r1 4))) 5 (some (r1 5))) 6 (some (r1 6))) 7 (some (r1 7)))))))), ((r1 0), .inl (z.2 0, 8, .inl (fun _ => 0))), ((r1 1), .inl (z.2 0, 8, .inl (fun _ => 0))), ((r1 2), .inl (z.2 0, 8, .inl (fun _ => 0))), ((r1 3), .inl (z.2 0, 8, .inl (fun _ => 0))), ((r1 4), .inl (z.2 0, 8, .inl (fun _ => 0))), ((r1 5), .inl (z.2 0, 8, .inl (fun _ => 0))), ((r1 6), .inl (z.2 0, 8, .inl (fun _ => 0))), ((r1 7), .inl (z.2 0, 8, .inl (fun _ => 0))), (a0, .inr (14, [.ref a1, .int 0, .ref a2, .ref a3, .int 0, .ref a4, .ref q0]))] H := hP
  have hD : va_D A [(q0, .inl (z.2 8, 8, .inr (.inr (.inr (.inr (va_up (va_up (va_up (va_up (va_up (va_up (va_up (va_up g91 0 (some (r1 0))) 1 (some (r1 1))) 2 (some (r1 2))) 3 (some (r1 3))) 4 (some (r1 4))) 5 (some (r1 5))) 6 (some (r1 6))) 7 (some (r1 7)))))))), ((r1 0), .inl (z.2 0, 8, .inl (fun _ => 0))), ((r1 1), .inl (z.2 0, 8, .inl (fun _ => 0))), ((r1 2), .inl (z.2 0, 8, .inl (fun _ => 0))), ((r1 3), .inl (z.2 0, 8, .inl (fun _ => 0))), ((r1 4), .inl (z.2 0, 8, .inl (fun _ => 0))), ((r1 5), .inl (z.2 0, 8, .inl (fun _ => 0))), ((r1 6), .inl (z.2 0, 8, .inl (fun _ => 0))), ((r1 7), .inl (z.2 0, 8, .inl (fun _ => 0))), (a0, .inr (14, [.ref a1, .int 0, .ref a2, .ref a3, .int 0, .ref a4, .ref q0]))] := hD
  refine W.eq (g2 := F0 m 50 ls [.int 0]) rfl ?_
  refine lv_if_eq (tgt := 70) hx hb d_17_9_50 (by decide) (fun _ => ?_) (fun c9 => absurd (by decide +kernel) c9)
  refine lv_iconst (v := 0) hx hb d_17_9_70 (by decide +kernel) ?_
  refine lv_istore (lv' := [(4, .int 0), (3, .int 3), (2, .int 0), (1, .ref q0), (0, .ref a0)]) hx hb d_17_9_71 hl (by decide) rfl (fun ls hl => ?_)
  refine lv_aload_n hx hb d_17_9_73 rfl (lv_at hl 3 rfl) ?_
  refine lv_iload_n hx hb d_17_9_74 rfl (lv_at hl 2 rfl) ?_
  refine va_alda hx hb hG.1 hP 0 8 rfl rfl (vin rfl) d_17_9_75 ?_
  refine W.eq (g2 := F0 m 76 ls [.ref (r1 0)]) rfl ?_
  refine lv_iload_n hx hb d_17_9_76 rfl (lv_at hl 1 rfl) ?_
  refine lv_iload hx hb d_17_9_77 (lv_at hl 0 rfl) ?_
  refine lv_if_le (tgt := 98) hx hb d_17_9_79 (by decide) (fun _ => ?_) (fun c9 => absurd (by decide +kernel) c9)
  refine lv_iconst (v := 0) hx hb d_17_9_98 (by decide +kernel) ?_
  refine va_iast hx hb hG.1 hP hD hS 1 0 rfl rfl (vin rfl) d_17_9_99 (fun H locs hP hD hS => ?_)
  rw [upd_z] at hP hD
  have hP : va_P z.1 classes [(q0, .inl (z.2 8, 8, .inr (.inr (.inr (.inr (va_up (va_up (va_up (va_up (va_up (va_up (va_up (va_up g91 0 (some (r1 0))) 1 (some (r1 1))) 2 (some (r1 2))) 3 (some (r1 3))) 4 (some (r1 4))) 5 (some (r1 5))) 6 (some (r1 6))) 7 (some (r1 7)))))))), ((r1 0), .inl (z.2 0, 8, .inl (fun _ => 0))), ((r1 1), .inl (z.2 0, 8, .inl (fun _ => 0))), ((r1 2), .inl (z.2 0, 8, .inl (fun _ => 0))), ((r1 3), .inl (z.2 0, 8, .inl (fun _ => 0))), ((r1 4), .inl (z.2 0, 8, .inl (fun _ => 0))), ((r1 5), .inl (z.2 0, 8, .inl (fun _ => 0))), ((r1 6), .inl (z.2 0, 8, .inl (fun _ => 0))), ((r1 7), .inl (z.2 0, 8, .inl (fun _ => 0))), (a0, .inr (14, [.ref a1, .int 0, .ref a2, .ref a3, .int 0, .ref a4, .ref q0]))] H := hP
  have hD : va_D A [(q0, .inl (z.2 8, 8, .inr (.inr (.inr (.inr (va_up (va_up (va_up (va_up (va_up (va_up (va_up (va_up g91 0 (some (r1 0))) 1 (some (r1 1))) 2 (some (r1 2))) 3 (some (r1 3))) 4 (some (r1 4))) 5 (some (r1 5))) 6 (some (r1 6))) 7 (some (r1 7)))))))), ((r1 0), .inl (z.2 0, 8, .inl (fun _ => 0))), ((r1 1), .inl (z.2 0, 8, .inl (fun _ => 0))), ((r1 2), .inl (z.2 0, 8, .inl (fun _ => 0))), ((r1 3), .inl (z.2 0, 8, .inl (fun _ => 0))), ((r1 4), .inl (z.2 0, 8, .inl (fun _ => 0))), ((r1 5), .inl (z.2 0, 8, .inl (fun _ => 0))), ((r1 6), .inl (z.2 0, 8, .inl (fun _ => 0))), ((r1 7), .inl (z.2 0, 8, .inl (fun _ => 0))), (a0, .inr (14, [.ref a1, .int 0, .ref a2, .ref a3, .int 0, .ref a4, .ref q0]))] := hD
  refine lv_iinc (v := 4) (lv' := [(3, .int 4), (4, .int 0), (2, .int 0), (1, .ref q0), (0, .ref a0)]) hx hb d_17_9_100 hl (k := 1) rfl (by decide +kernel) (by decide) rfl (fun ls hl => ?_)
  refine lv_goto (tgt := 34) hx hb d_17_9_103 (by decide) ?_
  refine lv_iload_n hx hb d_17_9_34 rfl (lv_at hl 0 rfl) ?_
  refine lv_bipush (v := 8) hx hb d_17_9_35 (by decide +kernel) ?_
  refine lv_icmp_ge (tgt := 106) hx hb d_17_9_37 (by decide) (fun c9 => absurd c9 (by decide +kernel)) (fun _ => ?_)
  refine lv_iload_n hx hb d_17_9_40 rfl (lv_at hl 2 rfl) ?_
  refine lv_iload_n hx hb d_17_9_41 rfl (lv_at hl 0 rfl) ?_
  refine lv_icmp_eq (tgt := 70) hx hb d_17_9_42 (by decide) (fun c9 => absurd c9 (by decide +kernel)) (fun _ => ?_)
  refine lv_aload_n hx hb d_17_9_45 rfl (lv_at hl 4 rfl) ?_
  refine lv_iload_n hx hb d_17_9_46 rfl (lv_at hl 2 rfl) ?_
  refine kV (As := [.int 0]) (rest := []) (wr := [(q0, .inl (z.2 8, 8, .inr (.inr (.inr (.inr (va_up (va_up (va_up (va_up (va_up (va_up (va_up (va_up g91 0 (some (r1 0))) 1 (some (r1 1))) 2 (some (r1 2))) 3 (some (r1 3))) 4 (some (r1 4))) 5 (some (r1 5))) 6 (some (r1 6))) 7 (some (r1 7)))))))), ((r1 0), .inl (z.2 0, 8, .inl (fun _ => 0))), ((r1 1), .inl (z.2 0, 8, .inl (fun _ => 0))), ((r1 2), .inl (z.2 0, 8, .inl (fun _ => 0))), ((r1 3), .inl (z.2 0, 8, .inl (fun _ => 0))), ((r1 4), .inl (z.2 0, 8, .inl (fun _ => 0))), ((r1 5), .inl (z.2 0, 8, .inl (fun _ => 0))), ((r1 6), .inl (z.2 0, 8, .inl (fun _ => 0))), ((r1 7), .inl (z.2 0, 8, .inl (fun _ => 0)))]) (c302_Poll_isIn l z a0 a1 a2 a3 a4 q0) hx hb hml hown hts w_2302 w_2299 w_2300 w_2301 w_36 md_2288df ⟨Nat.le_of_ble_eq_true rfl, Nat.le_of_ble_eq_true rfl⟩ hG hZ hP hD hS hA 9 rfl rfl rfl [9] [0, 1, 2, 3, 4, 5, 6, 7, 8] rfl rfl rfl rfl rfl hl.1 rfl (Nat.le_of_ble_eq_true rfl) d_17_9_47 ⟨Nat.le_of_ble_eq_true rfl, Nat.le_of_ble_eq_true rfl⟩ (fun u3 H locs hP hD hS => ?_)
  have hP : va_P z.1 classes [(q0, .inl (z.2 8, 8, .inr (.inr (.inr (.inr (va_up (va_up (va_up (va_up (va_up (va_up (va_up (va_up g91 0 (some (r1 0))) 1 (some (r1 1))) 2 (some (r1 2))) 3 (some (r1 3))) 4 (some (r1 4))) 5 (some (r1 5))) 6 (some (r1 6))) 7 (some (r1 7)))))))), ((r1 0), .inl (z.2 0, 8, .inl (fun _ => 0))), ((r1 1), .inl (z.2 0, 8, .inl (fun _ => 0))), ((r1 2), .inl (z.2 0, 8, .inl (fun _ => 0))), ((r1 3), .inl (z.2 0, 8, .inl (fun _ => 0))), ((r1 4), .inl (z.2 0, 8, .inl (fun _ => 0))), ((r1 5), .inl (z.2 0, 8, .inl (fun _ => 0))), ((r1 6), .inl (z.2 0, 8, .inl (fun _ => 0))), ((r1 7), .inl (z.2 0, 8, .inl (fun _ => 0))), (a0, .inr (14, [.ref a1, .int 0, .ref a2, .ref a3, .int 0, .ref a4, .ref q0]))] H := hP
  have hD : va_D A [(q0, .inl (z.2 8, 8, .inr (.inr (.inr (.inr (va_up (va_up (va_up (va_up (va_up (va_up (va_up (va_up g91 0 (some (r1 0))) 1 (some (r1 1))) 2 (some (r1 2))) 3 (some (r1 3))) 4 (some (r1 4))) 5 (some (r1 5))) 6 (some (r1 6))) 7 (some (r1 7)))))))), ((r1 0), .inl (z.2 0, 8, .inl (fun _ => 0))), ((r1 1), .inl (z.2 0, 8, .inl (fun _ => 0))), ((r1 2), .inl (z.2 0, 8, .inl (fun _ => 0))), ((r1 3), .inl (z.2 0, 8, .inl (fun _ => 0))), ((r1 4), .inl (z.2 0, 8, .inl (fun _ => 0))), ((r1 5), .inl (z.2 0, 8, .inl (fun _ => 0))), ((r1 6), .inl (z.2 0, 8, .inl (fun _ => 0))), ((r1 7), .inl (z.2 0, 8, .inl (fun _ => 0))), (a0, .inr (14, [.ref a1, .int 0, .ref a2, .ref a3, .int 0, .ref a4, .ref q0]))] := hD
  refine W.eq (g2 := F0 m 50 ls [.int 0]) rfl ?_
  refine lv_if_eq (tgt := 70) hx hb d_17_9_50 (by decide) (fun _ => ?_) (fun c9 => absurd (by decide +kernel) c9)
  refine lv_iconst (v := 0) hx hb d_17_9_70 (by decide +kernel) ?_
  refine lv_istore (lv' := [(4, .int 0), (3, .int 4), (2, .int 0), (1, .ref q0), (0, .ref a0)]) hx hb d_17_9_71 hl (by decide) rfl (fun ls hl => ?_)
  refine lv_aload_n hx hb d_17_9_73 rfl (lv_at hl 3 rfl) ?_
  refine lv_iload_n hx hb d_17_9_74 rfl (lv_at hl 2 rfl) ?_
  refine va_alda hx hb hG.1 hP 0 8 rfl rfl (vin rfl) d_17_9_75 ?_
  refine W.eq (g2 := F0 m 76 ls [.ref (r1 0)]) rfl ?_
  refine lv_iload_n hx hb d_17_9_76 rfl (lv_at hl 1 rfl) ?_
  refine lv_iload hx hb d_17_9_77 (lv_at hl 0 rfl) ?_
  refine lv_if_le (tgt := 98) hx hb d_17_9_79 (by decide) (fun _ => ?_) (fun c9 => absurd (by decide +kernel) c9)
  refine lv_iconst (v := 0) hx hb d_17_9_98 (by decide +kernel) ?_
  refine va_iast hx hb hG.1 hP hD hS 1 0 rfl rfl (vin rfl) d_17_9_99 (fun H locs hP hD hS => ?_)
  rw [upd_z] at hP hD
  have hP : va_P z.1 classes [(q0, .inl (z.2 8, 8, .inr (.inr (.inr (.inr (va_up (va_up (va_up (va_up (va_up (va_up (va_up (va_up g91 0 (some (r1 0))) 1 (some (r1 1))) 2 (some (r1 2))) 3 (some (r1 3))) 4 (some (r1 4))) 5 (some (r1 5))) 6 (some (r1 6))) 7 (some (r1 7)))))))), ((r1 0), .inl (z.2 0, 8, .inl (fun _ => 0))), ((r1 1), .inl (z.2 0, 8, .inl (fun _ => 0))), ((r1 2), .inl (z.2 0, 8, .inl (fun _ => 0))), ((r1 3), .inl (z.2 0, 8, .inl (fun _ => 0))), ((r1 4), .inl (z.2 0, 8, .inl (fun _ => 0))), ((r1 5), .inl (z.2 0, 8, .inl (fun _ => 0))), ((r1 6), .inl (z.2 0, 8, .inl (fun _ => 0))), ((r1 7), .inl (z.2 0, 8, .inl (fun _ => 0))), (a0, .inr (14, [.ref a1, .int 0, .ref a2, .ref a3, .int 0, .ref a4, .ref q0]))] H := hP
  have hD : va_D A [(q0, .inl (z.2 8, 8, .inr (.inr (.inr (.inr (va_up (va_up (va_up (va_up (va_up (va_up (va_up (va_up g91 0 (some (r1 0))) 1 (some (r1 1))) 2 (some (r1 2))) 3 (some (r1 3))) 4 (some (r1 4))) 5 (some (r1 5))) 6 (some (r1 6))) 7 (some (r1 7)))))))), ((r1 0), .inl (z.2 0, 8, .inl (fun _ => 0))), ((r1 1), .inl (z.2 0, 8, .inl (fun _ => 0))), ((r1 2), .inl (z.2 0, 8, .inl (fun _ => 0))), ((r1 3), .inl (z.2 0, 8, .inl (fun _ => 0))), ((r1 4), .inl (z.2 0, 8, .inl (fun _ => 0))), ((r1 5), .inl (z.2 0, 8, .inl (fun _ => 0))), ((r1 6), .inl (z.2 0, 8, .inl (fun _ => 0))), ((r1 7), .inl (z.2 0, 8, .inl (fun _ => 0))), (a0, .inr (14, [.ref a1, .int 0, .ref a2, .ref a3, .int 0, .ref a4, .ref q0]))] := hD
  refine lv_iinc (v := 5) (lv' := [(3, .int 5), (4, .int 0), (2, .int 0), (1, .ref q0), (0, .ref a0)]) hx hb d_17_9_100 hl (k := 1) rfl (by decide +kernel) (by decide) rfl (fun ls hl => ?_)
  refine lv_goto (tgt := 34) hx hb d_17_9_103 (by decide) ?_
  refine lv_iload_n hx hb d_17_9_34 rfl (lv_at hl 0 rfl) ?_
  refine lv_bipush (v := 8) hx hb d_17_9_35 (by decide +kernel) ?_
  refine lv_icmp_ge (tgt := 106) hx hb d_17_9_37 (by decide) (fun c9 => absurd c9 (by decide +kernel)) (fun _ => ?_)
  refine lv_iload_n hx hb d_17_9_40 rfl (lv_at hl 2 rfl) ?_
  refine lv_iload_n hx hb d_17_9_41 rfl (lv_at hl 0 rfl) ?_
  refine lv_icmp_eq (tgt := 70) hx hb d_17_9_42 (by decide) (fun c9 => absurd c9 (by decide +kernel)) (fun _ => ?_)
  refine lv_aload_n hx hb d_17_9_45 rfl (lv_at hl 4 rfl) ?_
  refine lv_iload_n hx hb d_17_9_46 rfl (lv_at hl 2 rfl) ?_
  refine kV (As := [.int 0]) (rest := []) (wr := [(q0, .inl (z.2 8, 8, .inr (.inr (.inr (.inr (va_up (va_up (va_up (va_up (va_up (va_up (va_up (va_up g91 0 (some (r1 0))) 1 (some (r1 1))) 2 (some (r1 2))) 3 (some (r1 3))) 4 (some (r1 4))) 5 (some (r1 5))) 6 (some (r1 6))) 7 (some (r1 7)))))))), ((r1 0), .inl (z.2 0, 8, .inl (fun _ => 0))), ((r1 1), .inl (z.2 0, 8, .inl (fun _ => 0))), ((r1 2), .inl (z.2 0, 8, .inl (fun _ => 0))), ((r1 3), .inl (z.2 0, 8, .inl (fun _ => 0))), ((r1 4), .inl (z.2 0, 8, .inl (fun _ => 0))), ((r1 5), .inl (z.2 0, 8, .inl (fun _ => 0))), ((r1 6), .inl (z.2 0, 8, .inl (fun _ => 0))), ((r1 7), .inl (z.2 0, 8, .inl (fun _ => 0)))]) (c302_Poll_isIn l z a0 a1 a2 a3 a4 q0) hx hb hml hown hts w_2302 w_2299 w_2300 w_2301 w_36 md_2288df ⟨Nat.le_of_ble_eq_true rfl, Nat.le_of_ble_eq_true rfl⟩ hG hZ hP hD hS hA 9 rfl rfl rfl [9] [0, 1, 2, 3, 4, 5, 6, 7, 8] rfl rfl rfl rfl rfl hl.1 rfl (Nat.le_of_ble_eq_true rfl) d_17_9_47 ⟨Nat.le_of_ble_eq_true rfl, Nat.le_of_ble_eq_true rfl⟩ (fun u4 H locs hP hD hS => ?_)
  have hP : va_P z.1 classes [(q0, .inl (z.2 8, 8, .inr (.inr (.inr (.inr (va_up (va_up (va_up (va_up (va_up (va_up (va_up (va_up g91 0 (some (r1 0))) 1 (some (r1 1))) 2 (some (r1 2))) 3 (some (r1 3))) 4 (some (r1 4))) 5 (some (r1 5))) 6 (some (r1 6))) 7 (some (r1 7)))))))), ((r1 0), .inl (z.2 0, 8, .inl (fun _ => 0))), ((r1 1), .inl (z.2 0, 8, .inl (fun _ => 0))), ((r1 2), .inl (z.2 0, 8, .inl (fun _ => 0))), ((r1 3), .inl (z.2 0, 8, .inl (fun _ => 0))), ((r1 4), .inl (z.2 0, 8, .inl (fun _ => 0))), ((r1 5), .inl (z.2 0, 8, .inl (fun _ => 0))), ((r1 6), .inl (z.2 0, 8, .inl (fun _ => 0))), ((r1 7), .inl (z.2 0, 8, .inl (fun _ => 0))), (a0, .inr (14, [.ref a1, .int 0, .ref a2, .ref a3, .int 0, .ref a4, .ref q0]))] H := hP
  have hD : va_D A [(q0, .inl (z.2 8, 8, .inr (.inr (.inr (.inr (va_up (va_up (va_up (va_up (va_up (va_up (va_up (va_up g91 0 (some (r1 0))) 1 (some (r1 1))) 2 (some (r1 2))) 3 (some (r1 3))) 4 (some (r1 4))) 5 (some (r1 5))) 6 (some (r1 6))) 7 (some (r1 7)))))))), ((r1 0), .inl (z.2 0, 8, .inl (fun _ => 0))), ((r1 1), .inl (z.2 0, 8, .inl (fun _ => 0))), ((r1 2), .inl (z.2 0, 8, .inl (fun _ => 0))), ((r1 3), .inl (z.2 0, 8, .inl (fun _ => 0))), ((r1 4), .inl (z.2 0, 8, .inl (fun _ => 0))), ((r1 5), .inl (z.2 0, 8, .inl (fun _ => 0))), ((r1 6), .inl (z.2 0, 8, .inl (fun _ => 0))), ((r1 7), .inl (z.2 0, 8, .inl (fun _ => 0))), (a0, .inr (14, [.ref a1, .int 0, .ref a2, .ref a3, .int 0, .ref a4, .ref q0]))] := hD
  refine W.eq (g2 := F0 m 50 ls [.int 0]) rfl ?_
  refine lv_if_eq (tgt := 70) hx hb d_17_9_50 (by decide) (fun _ => ?_) (fun c9 => absurd (by decide +kernel) c9)
  refine lv_iconst (v := 0) hx hb d_17_9_70 (by decide +kernel) ?_
  refine lv_istore (lv' := [(4, .int 0), (3, .int 5), (2, .int 0), (1, .ref q0), (0, .ref a0)]) hx hb d_17_9_71 hl (by decide) rfl (fun ls hl => ?_)
  refine lv_aload_n hx hb d_17_9_73 rfl (lv_at hl 3 rfl) ?_
  refine lv_iload_n hx hb d_17_9_74 rfl (lv_at hl 2 rfl) ?_
  refine va_alda hx hb hG.1 hP 0 8 rfl rfl (vin rfl) d_17_9_75 ?_
  refine W.eq (g2 := F0 m 76 ls [.ref (r1 0)]) rfl ?_
  refine lv_iload_n hx hb d_17_9_76 rfl (lv_at hl 1 rfl) ?_
  refine lv_iload hx hb d_17_9_77 (lv_at hl 0 rfl) ?_
  refine lv_if_le (tgt := 98) hx hb d_17_9_79 (by decide) (fun _ => ?_) (fun c9 => absurd (by decide +kernel) c9)
  refine lv_iconst (v := 0) hx hb d_17_9_98 (by decide +kernel) ?_
  refine va_iast hx hb hG.1 hP hD hS 1 0 rfl rfl (vin rfl) d_17_9_99 (fun H locs hP hD hS => ?_)
  rw [upd_z] at hP hD
  have hP : va_P z.1 classes [(q0, .inl (z.2 8, 8, .inr (.inr (.inr (.inr (va_up (va_up (va_up (va_up (va_up (va_up (va_up (va_up g91 0 (some (r1 0))) 1 (some (r1 1))) 2 (some (r1 2))) 3 (some (r1 3))) 4 (some (r1 4))) 5 (some (r1 5))) 6 (some (r1 6))) 7 (some (r1 7)))))))), ((r1 0), .inl (z.2 0, 8, .inl (fun _ => 0))), ((r1 1), .inl (z.2 0, 8, .inl (fun _ => 0))), ((r1 2), .inl (z.2 0, 8, .inl (fun _ => 0))), ((r1 3), .inl (z.2 0, 8, .inl (fun _ => 0))), ((r1 4), .inl (z.2 0, 8, .inl (fun _ => 0))), ((r1 5), .inl (z.2 0, 8, .inl (fun _ => 0))), ((r1 6), .inl (z.2 0, 8, .inl (fun _ => 0))), ((r1 7), .inl (z.2 0, 8, .inl (fun _ => 0))), (a0, .inr (14, [.ref a1, .int 0, .ref a2, .ref a3, .int 0, .ref a4, .ref q0]))] H := hP
  have hD : va_D A [(q0, .inl (z.2 8, 8, .inr (.inr (.inr (.inr (va_up (va_up (va_up (va_up (va_up (va_up (va_up (va_up g91 0 (some (r1 0))) 1 (some (r1 1))) 2 (some (r1 2))) 3 (some (r1 3))) 4 (some (r1 4))) 5 (some (r1 5))) 6 (some (r1 6))) 7 (some (r1 7)))))))), ((r1 0), .inl (z.2 0, 8, .inl (fun _ => 0))), ((r1 1), .inl (z.2 0, 8, .inl (fun _ => 0))), ((r1 2), .inl (z.2 0, 8, .inl (fun _ => 0))), ((r1 3), .inl (z.2 0, 8, .inl (fun _ => 0))), ((r1 4), .inl (z.2 0, 8, .inl (fun _ => 0))), ((r1 5), .inl (z.2 0, 8, .inl (fun _ => 0))), ((r1 6), .inl (z.2 0, 8, .inl (fun _ => 0))), ((r1 7), .inl (z.2 0, 8, .inl (fun _ => 0))), (a0, .inr (14, [.ref a1, .int 0, .ref a2, .ref a3, .int 0, .ref a4, .ref q0]))] := hD
  refine lv_iinc (v := 6) (lv' := [(3, .int 6), (4, .int 0), (2, .int 0), (1, .ref q0), (0, .ref a0)]) hx hb d_17_9_100 hl (k := 1) rfl (by decide +kernel) (by decide) rfl (fun ls hl => ?_)
  refine lv_goto (tgt := 34) hx hb d_17_9_103 (by decide) ?_
  refine lv_iload_n hx hb d_17_9_34 rfl (lv_at hl 0 rfl) ?_
  refine lv_bipush (v := 8) hx hb d_17_9_35 (by decide +kernel) ?_
  refine lv_icmp_ge (tgt := 106) hx hb d_17_9_37 (by decide) (fun c9 => absurd c9 (by decide +kernel)) (fun _ => ?_)
  refine lv_iload_n hx hb d_17_9_40 rfl (lv_at hl 2 rfl) ?_
  refine lv_iload_n hx hb d_17_9_41 rfl (lv_at hl 0 rfl) ?_
  refine lv_icmp_eq (tgt := 70) hx hb d_17_9_42 (by decide) (fun c9 => absurd c9 (by decide +kernel)) (fun _ => ?_)
  refine lv_aload_n hx hb d_17_9_45 rfl (lv_at hl 4 rfl) ?_
  refine lv_iload_n hx hb d_17_9_46 rfl (lv_at hl 2 rfl) ?_
  refine kV (As := [.int 0]) (rest := []) (wr := [(q0, .inl (z.2 8, 8, .inr (.inr (.inr (.inr (va_up (va_up (va_up (va_up (va_up (va_up (va_up (va_up g91 0 (some (r1 0))) 1 (some (r1 1))) 2 (some (r1 2))) 3 (some (r1 3))) 4 (some (r1 4))) 5 (some (r1 5))) 6 (some (r1 6))) 7 (some (r1 7)))))))), ((r1 0), .inl (z.2 0, 8, .inl (fun _ => 0))), ((r1 1), .inl (z.2 0, 8, .inl (fun _ => 0))), ((r1 2), .inl (z.2 0, 8, .inl (fun _ => 0))), ((r1 3), .inl (z.2 0, 8, .inl (fun _ => 0))), ((r1 4), .inl (z.2 0, 8, .inl (fun _ => 0))), ((r1 5), .inl (z.2 0, 8, .inl (fun _ => 0))), ((r1 6), .inl (z.2 0, 8, .inl (fun _ => 0))), ((r1 7), .inl (z.2 0, 8, .inl (fun _ => 0)))]) (c302_Poll_isIn l z a0 a1 a2 a3 a4 q0) hx hb hml hown hts w_2302 w_2299 w_2300 w_2301 w_36 md_2288df ⟨Nat.le_of_ble_eq_true rfl, Nat.le_of_ble_eq_true rfl⟩ hG hZ hP hD hS hA 9 rfl rfl rfl [9] [0, 1, 2, 3, 4, 5, 6, 7, 8] rfl rfl rfl rfl rfl hl.1 rfl (Nat.le_of_ble_eq_true rfl) d_17_9_47 ⟨Nat.le_of_ble_eq_true rfl, Nat.le_of_ble_eq_true rfl⟩ (fun u5 H locs hP hD hS => ?_)
  have hP : va_P z.1 classes [(q0, .inl (z.2 8, 8, .inr (.inr (.inr (.inr (va_up (va_up (va_up (va_up (va_up (va_up (va_up (va_up g91 0 (some (r1 0))) 1 (some (r1 1))) 2 (some (r1 2))) 3 (some (r1 3))) 4 (some (r1 4))) 5 (some (r1 5))) 6 (some (r1 6))) 7 (some (r1 7)))))))), ((r1 0), .inl (z.2 0, 8, .inl (fun _ => 0))), ((r1 1), .inl (z.2 0, 8, .inl (fun _ => 0))), ((r1 2), .inl (z.2 0, 8, .inl (fun _ => 0))), ((r1 3), .inl (z.2 0, 8, .inl (fun _ => 0))), ((r1 4), .inl (z.2 0, 8, .inl (fun _ => 0))), ((r1 5), .inl (z.2 0, 8, .inl (fun _ => 0))), ((r1 6), .inl (z.2 0, 8, .inl (fun _ => 0))), ((r1 7), .inl (z.2 0, 8, .inl (fun _ => 0))), (a0, .inr (14, [.ref a1, .int 0, .ref a2, .ref a3, .int 0, .ref a4, .ref q0]))] H := hP
  have hD : va_D A [(q0, .inl (z.2 8, 8, .inr (.inr (.inr (.inr (va_up (va_up (va_up (va_up (va_up (va_up (va_up (va_up g91 0 (some (r1 0))) 1 (some (r1 1))) 2 (some (r1 2))) 3 (some (r1 3))) 4 (some (r1 4))) 5 (some (r1 5))) 6 (some (r1 6))) 7 (some (r1 7)))))))), ((r1 0), .inl (z.2 0, 8, .inl (fun _ => 0))), ((r1 1), .inl (z.2 0, 8, .inl (fun _ => 0))), ((r1 2), .inl (z.2 0, 8, .inl (fun _ => 0))), ((r1 3), .inl (z.2 0, 8, .inl (fun _ => 0))), ((r1 4), .inl (z.2 0, 8, .inl (fun _ => 0))), ((r1 5), .inl (z.2 0, 8, .inl (fun _ => 0))), ((r1 6), .inl (z.2 0, 8, .inl (fun _ => 0))), ((r1 7), .inl (z.2 0, 8, .inl (fun _ => 0))), (a0, .inr (14, [.ref a1, .int 0, .ref a2, .ref a3, .int 0, .ref a4, .ref q0]))] := hD
  refine W.eq (g2 := F0 m 50 ls [.int 0]) rfl ?_
  refine lv_if_eq (tgt := 70) hx hb d_17_9_50 (by decide) (fun _ => ?_) (fun c9 => absurd (by decide +kernel) c9)
  refine lv_iconst (v := 0) hx hb d_17_9_70 (by decide +kernel) ?_
  refine lv_istore (lv' := [(4, .int 0), (3, .int 6), (2, .int 0), (1, .ref q0), (0, .ref a0)]) hx hb d_17_9_71 hl (by decide) rfl (fun ls hl => ?_)
  refine lv_aload_n hx hb d_17_9_73 rfl (lv_at hl 3 rfl) ?_
  refine lv_iload_n hx hb d_17_9_74 rfl (lv_at hl 2 rfl) ?_
  refine va_alda hx hb hG.1 hP 0 8 rfl rfl (vin rfl) d_17_9_75 ?_
  refine W.eq (g2 := F0 m 76 ls [.ref (r1 0)]) rfl ?_
  refine lv_iload_n hx hb d_17_9_76 rfl (lv_at hl 1 rfl) ?_
  refine lv_iload hx hb d_17_9_77 (lv_at hl 0 rfl) ?_
  refine lv_if_le (tgt := 98) hx hb d_17_9_79 (by decide) (fun _ => ?_) (fun c9 => absurd (by decide +kernel) c9)
  refine lv_iconst (v := 0) hx hb d_17_9_98 (by decide +kernel) ?_
  refine va_iast hx hb hG.1 hP hD hS 1 0 rfl rfl (vin rfl) d_17_9_99 (fun H locs hP hD hS => ?_)
  rw [upd_z] at hP hD
  have hP : va_P z.1 classes [(q0, .inl (z.2 8, 8, .inr (.inr (.inr (.inr (va_up (va_up (va_up (va_up (va_up (va_up (va_up (va_up g91 0 (some (r1 0))) 1 (some (r1 1))) 2 (some (r1 2))) 3 (some (r1 3))) 4 (some (r1 4))) 5 (some (r1 5))) 6 (some (r1 6))) 7 (some (r1 7)))))))), ((r1 0), .inl (z.2 0, 8, .inl (fun _ => 0))), ((r1 1), .inl (z.2 0, 8, .inl (fun _ => 0))), ((r1 2), .inl (z.2 0, 8, .inl (fun _ => 0))), ((r1 3), .inl (z.2 0, 8, .inl (fun _ => 0))), ((r1 4), .inl (z.2 0, 8, .inl (fun _ => 0))), ((r1 5), .inl (z.2 0, 8, .inl (fun _ => 0))), ((r1 6), .inl (z.2 0, 8, .inl (fun _ => 0))), ((r1 7), .inl (z.2 0, 8, .inl (fun _ => 0))), (a0, .inr (14, [.ref a1, .int 0, .ref a2, .ref a3, .int 0, .ref a4, .ref q0]))] H := hP
  have hD : va_D A [(q0, .inl (z.2 8, 8, .inr (.inr (.inr (.inr (va_up (va_up (va_up (va_up (va_up (va_up (va_up (va_up g91 0 (some (r1 0))) 1 (some (r1 1))) 2 (some (r1 2))) 3 (some (r1 3))) 4 (some (r1 4))) 5 (some (r1 5))) 6 (some (r1 6))) 7 (some (r1 7)))))))), ((r1 0), .inl (z.2 0, 8, .inl (fun _ => 0))), ((r1 1), .inl (z.2 0, 8, .inl (fun _ => 0))), ((r1 2), .inl (z.2 0, 8, .inl (fun _ => 0))), ((r1 3), .inl (z.2 0, 8, .inl (fun _ => 0))), ((r1 4), .inl (z.2 0, 8, .inl (fun _ => 0))), ((r1 5), .inl (z.2 0, 8, .inl (fun _ => 0))), ((r1 6), .inl (z.2 0, 8, .inl (fun _ => 0))), ((r1 7), .inl (z.2 0, 8, .inl (fun _ => 0))), (a0, .inr (14, [.ref a1, .int 0, .ref a2, .ref a3, .int 0, .ref a4, .ref q0]))] := hD
  refine lv_iinc (v := 7) (lv' := [(3, .int 7), (4, .int 0), (2, .int 0), (1, .ref q0), (0, .ref a0)]) hx hb d_17_9_100 hl (k := 1) rfl (by decide +kernel) (by decide) rfl (fun ls hl => ?_)
  refine lv_goto (tgt := 34) hx hb d_17_9_103 (by decide) ?_
  refine lv_iload_n hx hb d_17_9_34 rfl (lv_at hl 0 rfl) ?_
  refine lv_bipush (v := 8) hx hb d_17_9_35 (by decide +kernel) ?_
  refine lv_icmp_ge (tgt := 106) hx hb d_17_9_37 (by decide) (fun c9 => absurd c9 (by decide +kernel)) (fun _ => ?_)
  refine lv_iload_n hx hb d_17_9_40 rfl (lv_at hl 2 rfl) ?_
  refine lv_iload_n hx hb d_17_9_41 rfl (lv_at hl 0 rfl) ?_
  refine lv_icmp_eq (tgt := 70) hx hb d_17_9_42 (by decide) (fun c9 => absurd c9 (by decide +kernel)) (fun _ => ?_)
  refine lv_aload_n hx hb d_17_9_45 rfl (lv_at hl 4 rfl) ?_
  refine lv_iload_n hx hb d_17_9_46 rfl (lv_at hl 2 rfl) ?_
  refine kV (As := [.int 0]) (rest := []) (wr := [(q0, .inl (z.2 8, 8, .inr (.inr (.inr (.inr (va_up (va_up (va_up (va_up (va_up (va_up (va_up (va_up g91 0 (some (r1 0))) 1 (some (r1 1))) 2 (some (r1 2))) 3 (some (r1 3))) 4 (some (r1 4))) 5 (some (r1 5))) 6 (some (r1 6))) 7 (some (r1 7)))))))), ((r1 0), .inl (z.2 0, 8, .inl (fun _ => 0))), ((r1 1), .inl (z.2 0, 8, .inl (fun _ => 0))), ((r1 2), .inl (z.2 0, 8, .inl (fun _ => 0))), ((r1 3), .inl (z.2 0, 8, .inl (fun _ => 0))), ((r1 4), .inl (z.2 0, 8, .inl (fun _ => 0))), ((r1 5), .inl (z.2 0, 8, .inl (fun _ => 0))), ((r1 6), .inl (z.2 0, 8, .inl (fun _ => 0))), ((r1 7), .inl (z.2 0, 8, .inl (fun _ => 0)))]) (c302_Poll_isIn l z a0 a1 a2 a3 a4 q0) hx hb hml hown hts w_2302 w_2299 w_2300 w_2301 w_36 md_2288df ⟨Nat.le_of_ble_eq_true rfl, Nat.le_of_ble_eq_true rfl⟩ hG hZ hP hD hS hA 9 rfl rfl rfl [9] [0, 1, 2, 3, 4, 5, 6, 7, 8] rfl rfl rfl rfl rfl hl.1 rfl (Nat.le_of_ble_eq_true rfl) d_17_9_47 ⟨Nat.le_of_ble_eq_true rfl, Nat.le_of_ble_eq_true rfl⟩ (fun u6 H locs hP hD hS => ?_)
  have hP : va_P z.1 classes [(q0, .inl (z.2 8, 8, .inr (.inr (.inr (.inr (va_up (va_up (va_up (va_up (va_up (va_up (va_up (va_up g91 0 (some (r1 0))) 1 (some (r1 1))) 2 (some (r1 2))) 3 (some (r1 3))) 4 (some (r1 4))) 5 (some (r1 5))) 6 (some (r1 6))) 7 (some (r1 7)))))))), ((r1 0), .inl (z.2 0, 8, .inl (fun _ => 0))), ((r1 1), .inl (z.2 0, 8, .inl (fun _ => 0))), ((r1 2), .inl (z.2 0, 8, .inl (fun _ => 0))), ((r1 3), .inl (z.2 0, 8, .inl (fun _ => 0))), ((r1 4), .inl (z.2 0, 8, .inl (fun _ => 0))), ((r1 5), .inl (z.2 0, 8, .inl (fun _ => 0))), ((r1 6), .inl (z.2 0, 8, .inl (fun _ => 0))), ((r1 7), .inl (z.2 0, 8, .inl (fun _ => 0))), (a0, .inr (14, [.ref a1, .int 0, .ref a2, .ref a3, .int 0, .ref a4, .ref q0]))] H := hP
  have hD : va_D A [(q0, .inl (z.2 8, 8, .inr (.inr (.inr (.inr (va_up (va_up (va_up (va_up (va_up (va_up (va_up (va_up g91 0 (some (r1 0))) 1 (some (r1 1))) 2 (some (r1 2))) 3 (some (r1 3))) 4 (some (r1 4))) 5 (some (r1 5))) 6 (some (r1 6))) 7 (some (r1 7)))))))), ((r1 0), .inl (z.2 0, 8, .inl (fun _ => 0))), ((r1 1), .inl (z.2 0, 8, .inl (fun _ => 0))), ((r1 2), .inl (z.2 0, 8, .inl (fun _ => 0))), ((r1 3), .inl (z.2 0, 8, .inl (fun _ => 0))), ((r1 4), .inl (z.2 0, 8, .inl (fun _ => 0))), ((r1 5), .inl (z.2 0, 8, .inl (fun _ => 0))), ((r1 6), .inl (z.2 0, 8, .inl (fun _ => 0))), ((r1 7), .inl (z.2 0, 8, .inl (fun _ => 0))), (a0, .inr (14, [.ref a1, .int 0, .ref a2, .ref a3, .int 0, .ref a4, .ref q0]))] := hD
  refine W.eq (g2 := F0 m 50 ls [.int 0]) rfl ?_
  refine lv_if_eq (tgt := 70) hx hb d_17_9_50 (by decide) (fun _ => ?_) (fun c9 => absurd (by decide +kernel) c9)
  refine lv_iconst (v := 0) hx hb d_17_9_70 (by decide +kernel) ?_
  refine lv_istore (lv' := [(4, .int 0), (3, .int 7), (2, .int 0), (1, .ref q0), (0, .ref a0)]) hx hb d_17_9_71 hl (by decide) rfl (fun ls hl => ?_)
  refine lv_aload_n hx hb d_17_9_73 rfl (lv_at hl 3 rfl) ?_
  refine lv_iload_n hx hb d_17_9_74 rfl (lv_at hl 2 rfl) ?_
  refine va_alda hx hb hG.1 hP 0 8 rfl rfl (vin rfl) d_17_9_75 ?_
  refine W.eq (g2 := F0 m 76 ls [.ref (r1 0)]) rfl ?_
  refine lv_iload_n hx hb d_17_9_76 rfl (lv_at hl 1 rfl) ?_
  refine lv_iload hx hb d_17_9_77 (lv_at hl 0 rfl) ?_
  refine lv_if_le (tgt := 98) hx hb d_17_9_79 (by decide) (fun _ => ?_) (fun c9 => absurd (by decide +kernel) c9)
  refine lv_iconst (v := 0) hx hb d_17_9_98 (by decide +kernel) ?_
  refine va_iast hx hb hG.1 hP hD hS 1 0 rfl rfl (vin rfl) d_17_9_99 (fun H locs hP hD hS => ?_)
  rw [upd_z] at hP hD
  have hP : va_P z.1 classes [(q0, .inl (z.2 8, 8, .inr (.inr (.inr (.inr (va_up (va_up (va_up (va_up (va_up (va_up (va_up (va_up g91 0 (some (r1 0))) 1 (some (r1 1))) 2 (some (r1 2))) 3 (some (r1 3))) 4 (some (r1 4))) 5 (some (r1 5))) 6 (some (r1 6))) 7 (some (r1 7)))))))), ((r1 0), .inl (z.2 0, 8, .inl (fun _ => 0))), ((r1 1), .inl (z.2 0, 8, .inl (fun _ => 0))), ((r1 2), .inl (z.2 0, 8, .inl (fun _ => 0))), ((r1 3), .inl (z.2 0, 8, .inl (fun _ => 0))), ((r1 4), .inl (z.2 0, 8, .inl (fun _ => 0))), ((r1 5), .inl (z.2 0, 8, .inl (fun _ => 0))), ((r1 6), .inl (z.2 0, 8, .inl (fun _ => 0))), ((r1 7), .inl (z.2 0, 8, .inl (fun _ => 0))), (a0, .inr (14, [.ref a1, .int 0, .ref a2, .ref a3, .int 0, .ref a4, .ref q0]))] H := hP
  have hD : va_D A [(q0, .inl (z.2 8, 8, .inr (.inr (.inr (.inr (va_up (va_up (va_up (va_up (va_up (va_up (va_up (va_up g91 0 (some (r1 0))) 1 (some (r1 1))) 2 (some (r1 2))) 3 (some (r1 3))) 4 (some (r1 4))) 5 (some (r1 5))) 6 (some (r1 6))) 7 (some (r1 7)))))))), ((r1 0), .inl (z.2 0, 8, .inl (fun _ => 0))), ((r1 1), .inl (z.2 0, 8, .inl (fun _ => 0))), ((r1 2), .inl (z.2 0, 8, .inl (fun _ => 0))), ((r1 3), .inl (z.2 0, 8, .inl (fun _ => 0))), ((r1 4), .inl (z.2 0, 8, .inl (fun _ => 0))), ((r1 5), .inl (z.2 0, 8, .inl (fun _ => 0))), ((r1 6), .inl (z.2 0, 8, .inl (fun _ => 0))), ((r1 7), .inl (z.2 0, 8, .inl (fun _ => 0))), (a0, .inr (14, [.ref a1, .int 0, .ref a2, .ref a3, .int 0, .ref a4, .ref q0]))] := hD
  refine lv_iinc (v := 8) (lv' := [(3, .int 8), (4, .int 0), (2, .int 0), (1, .ref q0), (0, .ref a0)]) hx hb d_17_9_100 hl (k := 1) rfl (by decide +kernel) (by decide) rfl (fun ls hl => ?_)
  refine lv_goto (tgt := 34) hx hb d_17_9_103 (by decide) ?_
  refine lv_iload_n hx hb d_17_9_34 rfl (lv_at hl 0 rfl) ?_
  refine lv_bipush (v := 8) hx hb d_17_9_35 (by decide +kernel) ?_
  refine lv_icmp_ge (tgt := 106) hx hb d_17_9_37 (by decide) (fun _ => ?_) (fun c9 => absurd (by decide +kernel) c9)
  refine lv_iinc (v := 1) (lv' := [(2, .int 1), (3, .int 8), (4, .int 0), (1, .ref q0), (0, .ref a0)]) hx hb d_17_9_106 hl (k := 2) rfl (by decide +kernel) (by decide) rfl (fun ls hl => ?_)
  refine lv_goto (tgt := 26) hx hb d_17_9_109 (by decide) ?_
  refine W.widen (k := 9) (n := 72) (Nat.le_of_ble_eq_true rfl) (Nat.le_of_ble_eq_true rfl) ?_
  exact hk H locs ls hP hD hS hl
set_option maxRecDepth 100000 in
set_option maxHeartbeats 4000000 in
theorem s311_paths (l : Launch) (z : Zz) (a0 : Nat) (a1 : Nat) (a2 : Nat) (a3 : Nat) (a4 : Nat) (g91 : Nat → Option Nat) (q0 : Nat) (r1 : Nat → Nat) {p : Program} {e : Env} {s : State} {m : MethodId} {below : List Frame} {meth : Method} {c : Code} {A : Nat → Prop} {Q : State → Prop} (hx : p.tables.exec = Jvm.exec) (hb : c.code = prog_17_method_9_code) (hml : c.maxLocals = 5) (hts : ∀ w ∈ WG, w.before ([.ref a0] : List Value).toArray s = true) (hown : s.vm.findClass "BallothallModel$Poll" = some m.cls) (hA : ∀ q, s.heap.size ≤ q → A q) (hG : KG z s) (hZ : XZ A s) (hk : ∀ (H : Heap) (locs : List Loc) (ls : Array Slot), va_P z.1 classes [(q0, .inl (z.2 8, 8, .inr (.inr (.inr (.inr (va_up (va_up (va_up (va_up (va_up (va_up (va_up (va_up g91 0 (some (r1 0))) 1 (some (r1 1))) 2 (some (r1 2))) 3 (some (r1 3))) 4 (some (r1 4))) 5 (some (r1 5))) 6 (some (r1 6))) 7 (some (r1 7)))))))), ((r1 0), .inl (z.2 0, 8, .inl (fun _ => 0))), ((r1 1), .inl (z.2 0, 8, .inl (fun _ => 0))), ((r1 2), .inl (z.2 0, 8, .inl (fun _ => 0))), ((r1 3), .inl (z.2 0, 8, .inl (fun _ => 0))), ((r1 4), .inl (z.2 0, 8, .inl (fun _ => 0))), ((r1 5), .inl (z.2 0, 8, .inl (fun _ => 0))), ((r1 6), .inl (z.2 0, 8, .inl (fun _ => 0))), ((r1 7), .inl (z.2 0, 8, .inl (fun _ => 0))), (a0, .inr (14, [.ref a1, .int 0, .ref a2, .ref a3, .int 0, .ref a4, .ref q0]))] H → va_D A [(q0, .inl (z.2 8, 8, .inr (.inr (.inr (.inr (va_up (va_up (va_up (va_up (va_up (va_up (va_up (va_up g91 0 (some (r1 0))) 1 (some (r1 1))) 2 (some (r1 2))) 3 (some (r1 3))) 4 (some (r1 4))) 5 (some (r1 5))) 6 (some (r1 6))) 7 (some (r1 7)))))))), ((r1 0), .inl (z.2 0, 8, .inl (fun _ => 0))), ((r1 1), .inl (z.2 0, 8, .inl (fun _ => 0))), ((r1 2), .inl (z.2 0, 8, .inl (fun _ => 0))), ((r1 3), .inl (z.2 0, 8, .inl (fun _ => 0))), ((r1 4), .inl (z.2 0, 8, .inl (fun _ => 0))), ((r1 5), .inl (z.2 0, 8, .inl (fun _ => 0))), ((r1 6), .inl (z.2 0, 8, .inl (fun _ => 0))), ((r1 7), .inl (z.2 0, 8, .inl (fun _ => 0))), (a0, .inr (14, [.ref a1, .int 0, .ref a2, .ref a3, .int 0, .ref a4, .ref q0]))] → va_S A s.heap H locs → lv_has ls 5 [(2, .int 2), (3, .int 8), (4, .int 0), (1, .ref q0), (0, .ref a0)] → W p l e (rmK 1 29 9 72) s m ([.ref a0] : List Value).toArray below meth c H locs 9 72 Q (F0 m 26 ls [])) (H : Heap) (locs : List Loc) (ls : Array Slot) (hP : va_P z.1 classes [(q0, .inl (z.2 8, 8, .inr (.inr (.inr (.inr (va_up (va_up (va_up (va_up (va_up (va_up (va_up (va_up g91 0 (some (r1 0))) 1 (some (r1 1))) 2 (some (r1 2))) 3 (some (r1 3))) 4 (some (r1 4))) 5 (some (r1 5))) 6 (some (r1 6))) 7 (some (r1 7)))))))), ((r1 0), .inl (z.2 0, 8, .inl (fun _ => 0))), ((r1 1), .inl (z.2 0, 8, .inl (fun _ => 0))), ((r1 2), .inl (z.2 0, 8, .inl (fun _ => 0))), ((r1 3), .inl (z.2 0, 8, .inl (fun _ => 0))), ((r1 4), .inl (z.2 0, 8, .inl (fun _ => 0))), ((r1 5), .inl (z.2 0, 8, .inl (fun _ => 0))), ((r1 6), .inl (z.2 0, 8, .inl (fun _ => 0))), ((r1 7), .inl (z.2 0, 8, .inl (fun _ => 0))), (a0, .inr (14, [.ref a1, .int 0, .ref a2, .ref a3, .int 0, .ref a4, .ref q0]))] H) (hD : va_D A [(q0, .inl (z.2 8, 8, .inr (.inr (.inr (.inr (va_up (va_up (va_up (va_up (va_up (va_up (va_up (va_up g91 0 (some (r1 0))) 1 (some (r1 1))) 2 (some (r1 2))) 3 (some (r1 3))) 4 (some (r1 4))) 5 (some (r1 5))) 6 (some (r1 6))) 7 (some (r1 7)))))))), ((r1 0), .inl (z.2 0, 8, .inl (fun _ => 0))), ((r1 1), .inl (z.2 0, 8, .inl (fun _ => 0))), ((r1 2), .inl (z.2 0, 8, .inl (fun _ => 0))), ((r1 3), .inl (z.2 0, 8, .inl (fun _ => 0))), ((r1 4), .inl (z.2 0, 8, .inl (fun _ => 0))), ((r1 5), .inl (z.2 0, 8, .inl (fun _ => 0))), ((r1 6), .inl (z.2 0, 8, .inl (fun _ => 0))), ((r1 7), .inl (z.2 0, 8, .inl (fun _ => 0))), (a0, .inr (14, [.ref a1, .int 0, .ref a2, .ref a3, .int 0, .ref a4, .ref q0]))]) (hS : va_S A s.heap H locs) (hl : lv_has ls 5 [(2, .int 1), (3, .int 8), (4, .int 0), (1, .ref q0), (0, .ref a0)]) : W p l e (rmK 1 29 9 72) s m ([.ref a0] : List Value).toArray below meth c H locs 9 72 Q (F0 m 26 ls []) := by
  refine lv_iload_n hx hb d_17_9_26 rfl (lv_at hl 0 rfl) ?_
  refine lv_bipush (v := 8) hx hb d_17_9_27 (by decide +kernel) ?_
  refine lv_icmp_ge (tgt := 112) hx hb d_17_9_29 (by decide) (fun c9 => absurd c9 (by decide +kernel)) (fun _ => ?_)
  refine lv_iconst (v := 0) hx hb d_17_9_32 (by decide +kernel) ?_
  refine lv_istore_n (lv' := [(3, .int 0), (2, .int 1), (4, .int 0), (1, .ref q0), (0, .ref a0)]) hx hb d_17_9_33 rfl hl (by decide) rfl (fun ls hl => ?_)
  refine lv_iload_n hx hb d_17_9_34 rfl (lv_at hl 0 rfl) ?_
  refine lv_bipush (v := 8) hx hb d_17_9_35 (by decide +kernel) ?_
  refine lv_icmp_ge (tgt := 106) hx hb d_17_9_37 (by decide) (fun c9 => absurd c9 (by decide +kernel)) (fun _ => ?_)
  refine lv_iload_n hx hb d_17_9_40 rfl (lv_at hl 1 rfl) ?_
  refine lv_iload_n hx hb d_17_9_41 rfl (lv_at hl 0 rfl) ?_
  refine lv_icmp_eq (tgt := 70) hx hb d_17_9_42 (by decide) (fun c9 => absurd c9 (by decide +kernel)) (fun _ => ?_)
  refine lv_aload_n hx hb d_17_9_45 rfl (lv_at hl 4 rfl) ?_
  refine lv_iload_n hx hb d_17_9_46 rfl (lv_at hl 1 rfl) ?_
  refine kV (As := [.int 1]) (rest := []) (wr := [(q0, .inl (z.2 8, 8, .inr (.inr (.inr (.inr (va_up (va_up (va_up (va_up (va_up (va_up (va_up (va_up g91 0 (some (r1 0))) 1 (some (r1 1))) 2 (some (r1 2))) 3 (some (r1 3))) 4 (some (r1 4))) 5 (some (r1 5))) 6 (some (r1 6))) 7 (some (r1 7)))))))), ((r1 0), .inl (z.2 0, 8, .inl (fun _ => 0))), ((r1 1), .inl (z.2 0, 8, .inl (fun _ => 0))), ((r1 2), .inl (z.2 0, 8, .inl (fun _ => 0))), ((r1 3), .inl (z.2 0, 8, .inl (fun _ => 0))), ((r1 4), .inl (z.2 0, 8, .inl (fun _ => 0))), ((r1 5), .inl (z.2 0, 8, .inl (fun _ => 0))), ((r1 6), .inl (z.2 0, 8, .inl (fun _ => 0))), ((r1 7), .inl (z.2 0, 8, .inl (fun _ => 0)))]) (c303_Poll_isIn l z a0 a1 a2 a3 a4 q0) hx hb hml hown hts w_2302 w_2299 w_2300 w_2301 w_36 md_2288df ⟨Nat.le_of_ble_eq_true rfl, Nat.le_of_ble_eq_true rfl⟩ hG hZ hP hD hS hA 9 rfl rfl rfl [9] [0, 1, 2, 3, 4, 5, 6, 7, 8] rfl rfl rfl rfl rfl hl.1 rfl (Nat.le_of_ble_eq_true rfl) d_17_9_47 ⟨Nat.le_of_ble_eq_true rfl, Nat.le_of_ble_eq_true rfl⟩ (fun u7 H locs hP hD hS => ?_)
  have hP : va_P z.1 classes [(q0, .inl (z.2 8, 8, .inr (.inr (.inr (.inr (va_up (va_up (va_up (va_up (va_up (va_up (va_up (va_up g91 0 (some (r1 0))) 1 (some (r1 1))) 2 (some (r1 2))) 3 (some (r1 3))) 4 (some (r1 4))) 5 (some (r1 5))) 6 (some (r1 6))) 7 (some (r1 7)))))))), ((r1 0), .inl (z.2 0, 8, .inl (fun _ => 0))), ((r1 1), .inl (z.2 0, 8, .inl (fun _ => 0))), ((r1 2), .inl (z.2 0, 8, .inl (fun _ => 0))), ((r1 3), .inl (z.2 0, 8, .inl (fun _ => 0))), ((r1 4), .inl (z.2 0, 8, .inl (fun _ => 0))), ((r1 5), .inl (z.2 0, 8, .inl (fun _ => 0))), ((r1 6), .inl (z.2 0, 8, .inl (fun _ => 0))), ((r1 7), .inl (z.2 0, 8, .inl (fun _ => 0))), (a0, .inr (14, [.ref a1, .int 0, .ref a2, .ref a3, .int 0, .ref a4, .ref q0]))] H := hP
  have hD : va_D A [(q0, .inl (z.2 8, 8, .inr (.inr (.inr (.inr (va_up (va_up (va_up (va_up (va_up (va_up (va_up (va_up g91 0 (some (r1 0))) 1 (some (r1 1))) 2 (some (r1 2))) 3 (some (r1 3))) 4 (some (r1 4))) 5 (some (r1 5))) 6 (some (r1 6))) 7 (some (r1 7)))))))), ((r1 0), .inl (z.2 0, 8, .inl (fun _ => 0))), ((r1 1), .inl (z.2 0, 8, .inl (fun _ => 0))), ((r1 2), .inl (z.2 0, 8, .inl (fun _ => 0))), ((r1 3), .inl (z.2 0, 8, .inl (fun _ => 0))), ((r1 4), .inl (z.2 0, 8, .inl (fun _ => 0))), ((r1 5), .inl (z.2 0, 8, .inl (fun _ => 0))), ((r1 6), .inl (z.2 0, 8, .inl (fun _ => 0))), ((r1 7), .inl (z.2 0, 8, .inl (fun _ => 0))), (a0, .inr (14, [.ref a1, .int 0, .ref a2, .ref a3, .int 0, .ref a4, .ref q0]))] := hD
  refine W.eq (g2 := F0 m 50 ls [.int 0]) rfl ?_
  refine lv_if_eq (tgt := 70) hx hb d_17_9_50 (by decide) (fun _ => ?_) (fun c9 => absurd (by decide +kernel) c9)
  refine lv_iconst (v := 0) hx hb d_17_9_70 (by decide +kernel) ?_
  refine lv_istore (lv' := [(4, .int 0), (3, .int 0), (2, .int 1), (1, .ref q0), (0, .ref a0)]) hx hb d_17_9_71 hl (by decide) rfl (fun ls hl => ?_)
  refine lv_aload_n hx hb d_17_9_73 rfl (lv_at hl 3 rfl) ?_
  refine lv_iload_n hx hb d_17_9_74 rfl (lv_at hl 2 rfl) ?_
  refine va_alda hx hb hG.1 hP 0 8 rfl rfl (vin rfl) d_17_9_75 ?_
  refine W.eq (g2 := F0 m 76 ls [.ref (r1 1)]) rfl ?_
  refine lv_iload_n hx hb d_17_9_76 rfl (lv_at hl 1 rfl) ?_
  refine lv_iload hx hb d_17_9_77 (lv_at hl 0 rfl) ?_
  refine lv_if_le (tgt := 98) hx hb d_17_9_79 (by decide) (fun _ => ?_) (fun c9 => absurd (by decide +kernel) c9)
  refine lv_iconst (v := 0) hx hb d_17_9_98 (by decide +kernel) ?_
  refine va_iast hx hb hG.1 hP hD hS 2 0 rfl rfl (vin rfl) d_17_9_99 (fun H locs hP hD hS => ?_)
  rw [upd_z] at hP hD
  have hP : va_P z.1 classes [(q0, .inl (z.2 8, 8, .inr (.inr (.inr (.inr (va_up (va_up (va_up (va_up (va_up (va_up (va_up (va_up g91 0 (some (r1 0))) 1 (some (r1 1))) 2 (some (r1 2))) 3 (some (r1 3))) 4 (some (r1 4))) 5 (some (r1 5))) 6 (some (r1 6))) 7 (some (r1 7)))))))), ((r1 0), .inl (z.2 0, 8, .inl (fun _ => 0))), ((r1 1), .inl (z.2 0, 8, .inl (fun _ => 0))), ((r1 2), .inl (z.2 0, 8, .inl (fun _ => 0))), ((r1 3), .inl (z.2 0, 8, .inl (fun _ => 0))), ((r1 4), .inl (z.2 0, 8, .inl (fun _ => 0))), ((r1 5), .inl (z.2 0, 8, .inl (fun _ => 0))), ((r1 6), .inl (z.2 0, 8, .inl (fun _ => 0))), ((r1 7), .inl (z.2 0, 8, .inl (fun _ => 0))), (a0, .inr (14, [.ref a1, .int 0, .ref a2, .ref a3, .int 0, .ref a4, .ref q0]))] H := hP
  have hD : va_D A [(q0, .inl (z.2 8, 8, .inr (.inr (.inr (.inr (va_up (va_up (va_up (va_up (va_up (va_up (va_up (va_up g91 0 (some (r1 0))) 1 (some (r1 1))) 2 (some (r1 2))) 3 (some (r1 3))) 4 (some (r1 4))) 5 (some (r1 5))) 6 (some (r1 6))) 7 (some (r1 7)))))))), ((r1 0), .inl (z.2 0, 8, .inl (fun _ => 0))), ((r1 1), .inl (z.2 0, 8, .inl (fun _ => 0))), ((r1 2), .inl (z.2 0, 8, .inl (fun _ => 0))), ((r1 3), .inl (z.2 0, 8, .inl (fun _ => 0))), ((r1 4), .inl (z.2 0, 8, .inl (fun _ => 0))), ((r1 5), .inl (z.2 0, 8, .inl (fun _ => 0))), ((r1 6), .inl (z.2 0, 8, .inl (fun _ => 0))), ((r1 7), .inl (z.2 0, 8, .inl (fun _ => 0))), (a0, .inr (14, [.ref a1, .int 0, .ref a2, .ref a3, .int 0, .ref a4, .ref q0]))] := hD
  refine lv_iinc (v := 1) (lv' := [(3, .int 1), (4, .int 0), (2, .int 1), (1, .ref q0), (0, .ref a0)]) hx hb d_17_9_100 hl (k := 1) rfl (by decide +kernel) (by decide) rfl (fun ls hl => ?_)
  refine lv_goto (tgt := 34) hx hb d_17_9_103 (by decide) ?_
  refine lv_iload_n hx hb d_17_9_34 rfl (lv_at hl 0 rfl) ?_
  refine lv_bipush (v := 8) hx hb d_17_9_35 (by decide +kernel) ?_
  refine lv_icmp_ge (tgt := 106) hx hb d_17_9_37 (by decide) (fun c9 => absurd c9 (by decide +kernel)) (fun _ => ?_)
  refine lv_iload_n hx hb d_17_9_40 rfl (lv_at hl 2 rfl) ?_
  refine lv_iload_n hx hb d_17_9_41 rfl (lv_at hl 0 rfl) ?_
  refine lv_icmp_eq (tgt := 70) hx hb d_17_9_42 (by decide) (fun _ => ?_) (fun c9 => absurd (by decide +kernel) c9)
  refine lv_iconst (v := 0) hx hb d_17_9_70 (by decide +kernel) ?_
  refine lv_istore (lv' := [(4, .int 0), (3, .int 1), (2, .int 1), (1, .ref q0), (0, .ref a0)]) hx hb d_17_9_71 hl (by decide) rfl (fun ls hl => ?_)
  refine lv_aload_n hx hb d_17_9_73 rfl (lv_at hl 3 rfl) ?_
  refine lv_iload_n hx hb d_17_9_74 rfl (lv_at hl 2 rfl) ?_
  refine va_alda hx hb hG.1 hP 0 8 rfl rfl (vin rfl) d_17_9_75 ?_
  refine W.eq (g2 := F0 m 76 ls [.ref (r1 1)]) rfl ?_
  refine lv_iload_n hx hb d_17_9_76 rfl (lv_at hl 1 rfl) ?_
  refine lv_iload hx hb d_17_9_77 (lv_at hl 0 rfl) ?_
  refine lv_if_le (tgt := 98) hx hb d_17_9_79 (by decide) (fun _ => ?_) (fun c9 => absurd (by decide +kernel) c9)
  refine lv_iconst (v := 0) hx hb d_17_9_98 (by decide +kernel) ?_
  refine va_iast hx hb hG.1 hP hD hS 2 0 rfl rfl (vin rfl) d_17_9_99 (fun H locs hP hD hS => ?_)
  rw [upd_z] at hP hD
  have hP : va_P z.1 classes [(q0, .inl (z.2 8, 8, .inr (.inr (.inr (.inr (va_up (va_up (va_up (va_up (va_up (va_up (va_up (va_up g91 0 (some (r1 0))) 1 (some (r1 1))) 2 (some (r1 2))) 3 (some (r1 3))) 4 (some (r1 4))) 5 (some (r1 5))) 6 (some (r1 6))) 7 (some (r1 7)))))))), ((r1 0), .inl (z.2 0, 8, .inl (fun _ => 0))), ((r1 1), .inl (z.2 0, 8, .inl (fun _ => 0))), ((r1 2), .inl (z.2 0, 8, .inl (fun _ => 0))), ((r1 3), .inl (z.2 0, 8, .inl (fun _ => 0))), ((r1 4), .inl (z.2 0, 8, .inl (fun _ => 0))), ((r1 5), .inl (z.2 0, 8, .inl (fun _ => 0))), ((r1 6), .inl (z.2 0, 8, .inl (fun _ => 0))), ((r1 7), .inl (z.2 0, 8, .inl (fun _ => 0))), (a0, .inr (14, [.ref a1, .int 0, .ref a2, .ref a3, .int 0, .ref a4, .ref q0]))] H := hP
  have hD : va_D A [(q0, .inl (z.2 8, 8, .inr (.inr (.inr (.inr (va_up (va_up (va_up (va_up (va_up (va_up (va_up (va_up g91 0 (some (r1 0))) 1 (some (r1 1))) 2 (some (r1 2))) 3 (some (r1 3))) 4 (some (r1 4))) 5 (some (r1 5))) 6 (some (r1 6))) 7 (some (r1 7)))))))), ((r1 0), .inl (z.2 0, 8, .inl (fun _ => 0))), ((r1 1), .inl (z.2 0, 8, .inl (fun _ => 0))), ((r1 2), .inl (z.2 0, 8, .inl (fun _ => 0))), ((r1 3), .inl (z.2 0, 8, .inl (fun _ => 0))), ((r1 4), .inl (z.2 0, 8, .inl (fun _ => 0))), ((r1 5), .inl (z.2 0, 8, .inl (fun _ => 0))), ((r1 6), .inl (z.2 0, 8, .inl (fun _ => 0))), ((r1 7), .inl (z.2 0, 8, .inl (fun _ => 0))), (a0, .inr (14, [.ref a1, .int 0, .ref a2, .ref a3, .int 0, .ref a4, .ref q0]))] := hD
  refine lv_iinc (v := 2) (lv' := [(3, .int 2), (4, .int 0), (2, .int 1), (1, .ref q0), (0, .ref a0)]) hx hb d_17_9_100 hl (k := 1) rfl (by decide +kernel) (by decide) rfl (fun ls hl => ?_)
  refine lv_goto (tgt := 34) hx hb d_17_9_103 (by decide) ?_
  refine lv_iload_n hx hb d_17_9_34 rfl (lv_at hl 0 rfl) ?_
  refine lv_bipush (v := 8) hx hb d_17_9_35 (by decide +kernel) ?_
  refine lv_icmp_ge (tgt := 106) hx hb d_17_9_37 (by decide) (fun c9 => absurd c9 (by decide +kernel)) (fun _ => ?_)
  refine lv_iload_n hx hb d_17_9_40 rfl (lv_at hl 2 rfl) ?_
  refine lv_iload_n hx hb d_17_9_41 rfl (lv_at hl 0 rfl) ?_
  refine lv_icmp_eq (tgt := 70) hx hb d_17_9_42 (by decide) (fun c9 => absurd c9 (by decide +kernel)) (fun _ => ?_)
  refine lv_aload_n hx hb d_17_9_45 rfl (lv_at hl 4 rfl) ?_
  refine lv_iload_n hx hb d_17_9_46 rfl (lv_at hl 2 rfl) ?_
  refine kV (As := [.int 1]) (rest := []) (wr := [(q0, .inl (z.2 8, 8, .inr (.inr (.inr (.inr (va_up (va_up (va_up (va_up (va_up (va_up (va_up (va_up g91 0 (some (r1 0))) 1 (some (r1 1))) 2 (some (r1 2))) 3 (some (r1 3))) 4 (some (r1 4))) 5 (some (r1 5))) 6 (some (r1 6))) 7 (some (r1 7)))))))), ((r1 0), .inl (z.2 0, 8, .inl (fun _ => 0))), ((r1 1), .inl (z.2 0, 8, .inl (fun _ => 0))), ((r1 2), .inl (z.2 0, 8, .inl (fun _ => 0))), ((r1 3), .inl (z.2 0, 8, .inl (fun _ => 0))), ((r1 4), .inl (z.2 0, 8, .inl (fun _ => 0))), ((r1 5), .inl (z.2 0, 8, .inl (fun _ => 0))), ((r1 6), .inl (z.2 0, 8, .inl (fun _ => 0))), ((r1 7), .inl (z.2 0, 8, .inl (fun _ => 0)))]) (c303_Poll_isIn l z a0 a1 a2 a3 a4 q0) hx hb hml hown hts w_2302 w_2299 w_2300 w_2301 w_36 md_2288df ⟨Nat.le_of_ble_eq_true rfl, Nat.le_of_ble_eq_true rfl⟩ hG hZ hP hD hS hA 9 rfl rfl rfl [9] [0, 1, 2, 3, 4, 5, 6, 7, 8] rfl rfl rfl rfl rfl hl.1 rfl (Nat.le_of_ble_eq_true rfl) d_17_9_47 ⟨Nat.le_of_ble_eq_true rfl, Nat.le_of_ble_eq_true rfl⟩ (fun u8 H locs hP hD hS => ?_)
  have hP : va_P z.1 classes [(q0, .inl (z.2 8, 8, .inr (.inr (.inr (.inr (va_up (va_up (va_up (va_up (va_up (va_up (va_up (va_up g91 0 (some (r1 0))) 1 (some (r1 1))) 2 (some (r1 2))) 3 (some (r1 3))) 4 (some (r1 4))) 5 (some (r1 5))) 6 (some (r1 6))) 7 (some (r1 7)))))))), ((r1 0), .inl (z.2 0, 8, .inl (fun _ => 0))), ((r1 1), .inl (z.2 0, 8, .inl (fun _ => 0))), ((r1 2), .inl (z.2 0, 8, .inl (fun _ => 0))), ((r1 3), .inl (z.2 0, 8, .inl (fun _ => 0))), ((r1 4), .inl (z.2 0, 8, .inl (fun _ => 0))), ((r1 5), .inl (z.2 0, 8, .inl (fun _ => 0))), ((r1 6), .inl (z.2 0, 8, .inl (fun _ => 0))), ((r1 7), .inl (z.2 0, 8, .inl (fun _ => 0))), (a0, .inr (14, [.ref a1, .int 0, .ref a2, .ref a3, .int 0, .ref a4, .ref q0]))] H := hP
  have hD : va_D A [(q0, .inl (z.2 8, 8, .inr (.inr (.inr (.inr (va_up (va_up (va_up (va_up (va_up (va_up (va_up (va_up g91 0 (some (r1 0))) 1 (some (r1 1))) 2 (some (r1 2))) 3 (some (r1 3))) 4 (some (r1 4))) 5 (some (r1 5))) 6 (some (r1 6))) 7 (some (r1 7)))))))), ((r1 0), .inl (z.2 0, 8, .inl (fun _ => 0))), ((r1 1), .inl (z.2 0, 8, .inl (fun _ => 0))), ((r1 2), .inl (z.2 0, 8, .inl (fun _ => 0))), ((r1 3), .inl (z.2 0, 8, .inl (fun _ => 0))), ((r1 4), .inl (z.2 0, 8, .inl (fun _ => 0))), ((r1 5), .inl (z.2 0, 8, .inl (fun _ => 0))), ((r1 6), .inl (z.2 0, 8, .inl (fun _ => 0))), ((r1 7), .inl (z.2 0, 8, .inl (fun _ => 0))), (a0, .inr (14, [.ref a1, .int 0, .ref a2, .ref a3, .int 0, .ref a4, .ref q0]))] := hD
  refine W.eq (g2 := F0 m 50 ls [.int 0]) rfl ?_
  refine lv_if_eq (tgt := 70) hx hb d_17_9_50 (by decide) (fun _ => ?_) (fun c9 => absurd (by decide +kernel) c9)
  refine lv_iconst (v := 0) hx hb d_17_9_70 (by decide +kernel) ?_
  refine lv_istore (lv' := [(4, .int 0), (3, .int 2), (2, .int 1), (1, .ref q0), (0, .ref a0)]) hx hb d_17_9_71 hl (by decide) rfl (fun ls hl => ?_)
  refine lv_aload_n hx hb d_17_9_73 rfl (lv_at hl 3 rfl) ?_
  refine lv_iload_n hx hb d_17_9_74 rfl (lv_at hl 2 rfl) ?_
  refine va_alda hx hb hG.1 hP 0 8 rfl rfl (vin rfl) d_17_9_75 ?_
  refine W.eq (g2 := F0 m 76 ls [.ref (r1 1)]) rfl ?_
  refine lv_iload_n hx hb d_17_9_76 rfl (lv_at hl 1 rfl) ?_
  refine lv_iload hx hb d_17_9_77 (lv_at hl 0 rfl) ?_
  refine lv_if_le (tgt := 98) hx hb d_17_9_79 (by decide) (fun _ => ?_) (fun c9 => absurd (by decide +kernel) c9)
  refine lv_iconst (v := 0) hx hb d_17_9_98 (by decide +kernel) ?_
  refine va_iast hx hb hG.1 hP hD hS 2 0 rfl rfl (vin rfl) d_17_9_99 (fun H locs hP hD hS => ?_)
  rw [upd_z] at hP hD
  have hP : va_P z.1 classes [(q0, .inl (z.2 8, 8, .inr (.inr (.inr (.inr (va_up (va_up (va_up (va_up (va_up (va_up (va_up (va_up g91 0 (some (r1 0))) 1 (some (r1 1))) 2 (some (r1 2))) 3 (some (r1 3))) 4 (some (r1 4))) 5 (some (r1 5))) 6 (some (r1 6))) 7 (some (r1 7)))))))), ((r1 0), .inl (z.2 0, 8, .inl (fun _ => 0))), ((r1 1), .inl (z.2 0, 8, .inl (fun _ => 0))), ((r1 2), .inl (z.2 0, 8, .inl (fun _ => 0))), ((r1 3), .inl (z.2 0, 8, .inl (fun _ => 0))), ((r1 4), .inl (z.2 0, 8, .inl (fun _ => 0))), ((r1 5), .inl (z.2 0, 8, .inl (fun _ => 0))), ((r1 6), .inl (z.2 0, 8, .inl (fun _ => 0))), ((r1 7), .inl (z.2 0, 8, .inl (fun _ => 0))), (a0, .inr (14, [.ref a1, .int 0, .ref a2, .ref a3, .int 0, .ref a4, .ref q0]))] H := hP
  have hD : va_D A [(q0, .inl (z.2 8, 8, .inr (.inr (.inr (.inr (va_up (va_up (va_up (va_up (va_up (va_up (va_up (va_up g91 0 (some (r1 0))) 1 (some (r1 1))) 2 (some (r1 2))) 3 (some (r1 3))) 4 (some (r1 4))) 5 (some (r1 5))) 6 (some (r1 6))) 7 (some (r1 7)))))))), ((r1 0), .inl (z.2 0, 8, .inl (fun _ => 0))), ((r1 1), .inl (z.2 0, 8, .inl (fun _ => 0))), ((r1 2), .inl (z.2 0, 8, .inl (fun _ => 0))), ((r1 3), .inl (z.2 0, 8, .inl (fun _ => 0))), ((r1 4), .inl (z.2 0, 8, .inl (fun _ => 0))), ((r1 5), .inl (z.2 0, 8, .inl (fun _ => 0))), ((r1 6), .inl (z.2 0, 8, .inl (fun _ => 0))), ((r1 7), .inl (z.2 0, 8, .inl (fun _ => 0))), (a0, .inr (14, [.ref a1, .int 0, .ref a2, .ref a3, .int 0, .ref a4, .ref q0]))] := hD
  refine lv_iinc (v := 3) (lv' := [(3, .int 3), (4, .int 0), (2, .int 1), (1, .ref q0), (0, .ref a0)]) hx hb d_17_9_100 hl (k := 1) rfl (by decide +kernel) (by decide) rfl (fun ls hl => ?_)
  refine lv_goto (tgt := 34) hx hb d_17_9_103 (by decide) ?_
  refine lv_iload_n hx hb d_17_9_34 rfl (lv_at hl 0 rfl) ?_
  refine lv_bipush (v := 8) hx hb d_17_9_35 (by decide +kernel) ?_
  refine lv_icmp_ge (tgt := 106) hx hb d_17_9_37 (by decide) (fun c9 => absurd c9 (by decide +kernel)) (fun _ => ?_)
  refine lv_iload_n hx hb d_17_9_40 rfl (lv_at hl 2 rfl) ?_
  refine lv_iload_n hx hb d_17_9_41 rfl (lv_at hl 0 rfl) ?_
  refine lv_icmp_eq (tgt := 70) hx hb d_17_9_42 (by decide) (fun c9 => absurd c9 (by decide +kernel)) (fun _ => ?_)
  refine lv_aload_n hx hb d_17_9_45 rfl (lv_at hl 4 rfl) ?_
  refine lv_iload_n hx hb d_17_9_46 rfl (lv_at hl 2 rfl) ?_
  refine kV (As := [.int 1]) (rest := []) (wr := [(q0, .inl (z.2 8, 8, .inr (.inr (.inr (.inr (va_up (va_up (va_up (va_up (va_up (va_up (va_up (va_up g91 0 (some (r1 0))) 1 (some (r1 1))) 2 (some (r1 2))) 3 (some (r1 3))) 4 (some (r1 4))) 5 (some (r1 5))) 6 (some (r1 6))) 7 (some (r1 7)))))))), ((r1 0), .inl (z.2 0, 8, .inl (fun _ => 0))), ((r1 1), .inl (z.2 0, 8, .inl (fun _ => 0))), ((r1 2), .inl (z.2 0, 8, .inl (fun _ => 0))), ((r1 3), .inl (z.2 0, 8, .inl (fun _ => 0))), ((r1 4), .inl (z.2 0, 8, .inl (fun _ => 0))), ((r1 5), .inl (z.2 0, 8, .inl (fun _ => 0))), ((r1 6), .inl (z.2 0, 8, .inl (fun _ => 0))), ((r1 7), .inl (z.2 0, 8, .inl (fun _ => 0)))]) (c303_Poll_isIn l z a0 a1 a2 a3 a4 q0) hx hb hml hown hts w_2302 w_2299 w_2300 w_2301 w_36 md_2288df ⟨Nat.le_of_ble_eq_true rfl, Nat.le_of_ble_eq_true rfl⟩ hG hZ hP hD hS hA 9 rfl rfl rfl [9] [0, 1, 2, 3, 4, 5, 6, 7, 8] rfl rfl rfl rfl rfl hl.1 rfl (Nat.le_of_ble_eq_true rfl) d_17_9_47 ⟨Nat.le_of_ble_eq_true rfl, Nat.le_of_ble_eq_true rfl⟩ (fun u9 H locs hP hD hS => ?_)
  have hP : va_P z.1 classes [(q0, .inl (z.2 8, 8, .inr (.inr (.inr (.inr (va_up (va_up (va_up (va_up (va_up (va_up (va_up (va_up g91 0 (some (r1 0))) 1 (some (r1 1))) 2 (some (r1 2))) 3 (some (r1 3))) 4 (some (r1 4))) 5 (some (r1 5))) 6 (some (r1 6))) 7 (some (r1 7)))))))), ((r1 0), .inl (z.2 0, 8, .inl (fun _ => 0))), ((r1 1), .inl (z.2 0, 8, .inl (fun _ => 0))), ((r1 2), .inl (z.2 0, 8, .inl (fun _ => 0))), ((r1 3), .inl (z.2 0, 8, .inl (fun _ => 0))), ((r1 4), .inl (z.2 0, 8, .inl (fun _ => 0))), ((r1 5), .inl (z.2 0, 8, .inl (fun _ => 0))), ((r1 6), .inl (z.2 0, 8, .inl (fun _ => 0))), ((r1 7), .inl (z.2 0, 8, .inl (fun _ => 0))), (a0, .inr (14, [.ref a1, .int 0, .ref a2, .ref a3, .int 0, .ref a4, .ref q0]))] H := hP
  have hD : va_D A [(q0, .inl (z.2 8, 8, .inr (.inr (.inr (.inr (va_up (va_up (va_up (va_up (va_up (va_up (va_up (va_up g91 0 (some (r1 0))) 1 (some (r1 1))) 2 (some (r1 2))) 3 (some (r1 3))) 4 (some (r1 4))) 5 (some (r1 5))) 6 (some (r1 6))) 7 (some (r1 7)))))))), ((r1 0), .inl (z.2 0, 8, .inl (fun _ => 0))), ((r1 1), .inl (z.2 0, 8, .inl (fun _ => 0))), ((r1 2), .inl (z.2 0, 8, .inl (fun _ => 0))), ((r1 3), .inl (z.2 0, 8, .inl (fun _ => 0))), ((r1 4), .inl (z.2 0, 8, .inl (fun _ => 0))), ((r1 5), .inl (z.2 0, 8, .inl (fun _ => 0))), ((r1 6), .inl (z.2 0, 8, .inl (fun _ => 0))), ((r1 7), .inl (z.2 0, 8, .inl (fun _ => 0))), (a0, .inr (14, [.ref a1, .int 0, .ref a2, .ref a3, .int 0, .ref a4, .ref q0]))] := hD
  refine W.eq (g2 := F0 m 50 ls [.int 0]) rfl ?_
  refine lv_if_eq (tgt := 70) hx hb d_17_9_50 (by decide) (fun _ => ?_) (fun c9 => absurd (by decide +kernel) c9)
  refine lv_iconst (v := 0) hx hb d_17_9_70 (by decide +kernel) ?_
  refine lv_istore (lv' := [(4, .int 0), (3, .int 3), (2, .int 1), (1, .ref q0), (0, .ref a0)]) hx hb d_17_9_71 hl (by decide) rfl (fun ls hl => ?_)
  refine lv_aload_n hx hb d_17_9_73 rfl (lv_at hl 3 rfl) ?_
  refine lv_iload_n hx hb d_17_9_74 rfl (lv_at hl 2 rfl) ?_
  refine va_alda hx hb hG.1 hP 0 8 rfl rfl (vin rfl) d_17_9_75 ?_
  refine W.eq (g2 := F0 m 76 ls [.ref (r1 1)]) rfl ?_
  refine lv_iload_n hx hb d_17_9_76 rfl (lv_at hl 1 rfl) ?_
  refine lv_iload hx hb d_17_9_77 (lv_at hl 0 rfl) ?_
  refine lv_if_le (tgt := 98) hx hb d_17_9_79 (by decide) (fun _ => ?_) (fun c9 => absurd (by decide +kernel) c9)
  refine lv_iconst (v := 0) hx hb d_17_9_98 (by decide +kernel) ?_
  refine va_iast hx hb hG.1 hP hD hS 2 0 rfl rfl (vin rfl) d_17_9_99 (fun H locs hP hD hS => ?_)
  rw [upd_z] at hP hD
  have hP : va_P z.1 classes [(q0, .inl (z.2 8, 8, .inr (.inr (.inr (.inr (va_up (va_up (va_up (va_up (va_up (va_up (va_up (va_up g91 0 (some (r1 0))) 1 (some (r1 1))) 2 (some (r1 2))) 3 (some (r1 3))) 4 (some (r1 4))) 5 (some (r1 5))) 6 (some (r1 6))) 7 (some (r1 7)))))))), ((r1 0), .inl (z.2 0, 8, .inl (fun _ => 0))), ((r1 1), .inl (z.2 0, 8, .inl (fun _ => 0))), ((r1 2), .inl (z.2 0, 8, .inl (fun _ => 0))), ((r1 3), .inl (z.2 0, 8, .inl (fun _ => 0))), ((r1 4), .inl (z.2 0, 8, .inl (fun _ => 0))), ((r1 5), .inl (z.2 0, 8, .inl (fun _ => 0))), ((r1 6), .inl (z.2 0, 8, .inl (fun _ => 0))), ((r1 7), .inl (z.2 0, 8, .inl (fun _ => 0))), (a0, .inr (14, [.ref a1, .int 0, .ref a2, .ref a3, .int 0, .ref a4, .ref q0]))] H := hP
  have hD : va_D A [(q0, .inl (z.2 8, 8, .inr (.inr (.inr (.inr (va_up (va_up (va_up (va_up (va_up (va_up (va_up (va_up g91 0 (some (r1 0))) 1 (some (r1 1))) 2 (some (r1 2))) 3 (some (r1 3))) 4 (some (r1 4))) 5 (some (r1 5))) 6 (some (r1 6))) 7 (some (r1 7)))))))), ((r1 0), .inl (z.2 0, 8, .inl (fun _ => 0))), ((r1 1), .inl (z.2 0, 8, .inl (fun _ => 0))), ((r1 2), .inl (z.2 0, 8, .inl (fun _ => 0))), ((r1 3), .inl (z.2 0, 8, .inl (fun _ => 0))), ((r1 4), .inl (z.2 0, 8, .inl (fun _ => 0))), ((r1 5), .inl (z.2 0, 8, .inl (fun _ => 0))), ((r1 6), .inl (z.2 0, 8, .inl (fun _ => 0))), ((r1 7), .inl (z.2 0, 8, .inl (fun _ => 0))), (a0, .inr (14, [.ref a1, .int 0, .ref a2, .ref a3, .int 0, .ref a4, .ref q0]))] := hD
  refine lv_iinc (v := 4) (lv' := [(3, .int 4), (4, .int 0), (2, .int 1), (1, .ref q0), (0, .ref a0)]) hx hb d_17_9_100 hl (k := 1) rfl (by decide +kernel) (by decide) rfl (fun ls hl => ?_)
  refine lv_goto (tgt := 34) hx hb d_17_9_103 (by decide) ?_
  refine lv_iload_n hx hb d_17_9_34 rfl (lv_at hl 0 rfl) ?_
  refine lv_bipush (v := 8) hx hb d_17_9_35 (by decide +kernel) ?_
  refine lv_icmp_ge (tgt := 106) hx hb d_17_9_37 (by decide) (fun c9 => absurd c9 (by decide +kernel)) (fun _ => ?_)
  refine lv_iload_n hx hb d_17_9_40 rfl (lv_at hl 2 rfl) ?_
  refine lv_iload_n hx hb d_17_9_41 rfl (lv_at hl 0 rfl) ?_
  refine lv_icmp_eq (tgt := 70) hx hb d_17_9_42 (by decide) (fun c9 => absurd c9 (by decide +kernel)) (fun _ => ?_)
  refine lv_aload_n hx hb d_17_9_45 rfl (lv_at hl 4 rfl) ?_
  refine lv_iload_n hx hb d_17_9_46 rfl (lv_at hl 2 rfl) ?_
  refine kV (As := [.int 1]) (rest := []) (wr := [(q0, .inl (z.2 8, 8, .inr (.inr (.inr (.inr (va_up (va_up (va_up (va_up (va_up (va_up (va_up (va_up g91 0 (some (r1 0))) 1 (some (r1 1))) 2 (some (r1 2))) 3 (some (r1 3))) 4 (some (r1 4))) 5 (some (r1 5))) 6 (some (r1 6))) 7 (some (r1 7)))))))), ((r1 0), .inl (z.2 0, 8, .inl (fun _ => 0))), ((r1 1), .inl (z.2 0, 8, .inl (fun _ => 0))), ((r1 2), .inl (z.2 0, 8, .inl (fun _ => 0))), ((r1 3), .inl (z.2 0, 8, .inl (fun _ => 0))), ((r1 4), .inl (z.2 0, 8, .inl (fun _ => 0))), ((r1 5), .inl (z.2 0, 8, .inl (fun _ => 0))), ((r1 6), .inl (z.2 0, 8, .inl (fun _ => 0))), ((r1 7), .inl (z.2 0, 8, .inl (fun _ => 0)))]) (c303_Poll_isIn l z a0 a1 a2 a3 a4 q0) hx hb hml hown hts w_2302 w_2299 w_2300 w_2301 w_36 md_2288df ⟨Nat.le_of_ble_eq_true rfl, Nat.le_of_ble_eq_true rfl⟩ hG hZ hP hD hS hA 9 rfl rfl rfl [9] [0, 1, 2, 3, 4, 5, 6, 7, 8] rfl rfl rfl rfl rfl hl.1 rfl (Nat.le_of_ble_eq_true rfl) d_17_9_47 ⟨Nat.le_of_ble_eq_true rfl, Nat.le_of_ble_eq_true rfl⟩ (fun u10 H locs hP hD hS => ?_)
  have hP : va_P z.1 classes [(q0, .inl (z.2 8, 8, .inr (.inr (.inr (.inr (va_up (va_up (va_up (va_up (va_up (va_up (va_up (va_up g91 0 (some (r1 0))) 1 (some (r1 1))) 2 (some (r1 2))) 3 (some (r1 3))) 4 (some (r1 4))) 5 (some (r1 5))) 6 (some (r1 6))) 7 (some (r1 7)))))))), ((r1 0), .inl (z.2 0, 8, .inl (fun _ => 0))), ((r1 1), .inl (z.2 0, 8, .inl (fun _ => 0))), ((r1 2), .inl (z.2 0, 8, .inl (fun _ => 0))), ((r1 3), .inl (z.2 0, 8, .inl (fun _ => 0))), ((r1 4), .inl (z.2 0, 8, .inl (fun _ => 0))), ((r1 5), .inl (z.2 0, 8, .inl (fun _ => 0))), ((r1 6), .inl (z.2 0, 8, .inl (fun _ => 0))), ((r1 7), .inl (z.2 0, 8, .inl (fun _ => 0))), (a0, .inr (14, [.ref a1, .int 0, .ref a2, .ref a3, .int 0, .ref a4, .ref q0]))] H := hP
  have hD : va_D A [(q0, .inl (z.2 8, 8, .inr (.inr (.inr (.inr (va_up (va_up (va_up (va_up (va_up (va_up (va_up (va_up g91 0 (some (r1 0))) 1 (some (r1 1))) 2 (some (r1 2))) 3 (some (r1 3))) 4 (some (r1 4))) 5 (some (r1 5))) 6 (some (r1 6))) 7 (some (r1 7)))))))), ((r1 0), .inl (z.2 0, 8, .inl (fun _ => 0))), ((r1 1), .inl (z.2 0, 8, .inl (fun _ => 0))), ((r1 2), .inl (z.2 0, 8, .inl (fun _ => 0))), ((r1 3), .inl (z.2 0, 8, .inl (fun _ => 0))), ((r1 4), .inl (z.2 0, 8, .inl (fun _ => 0))), ((r1 5), .inl (z.2 0, 8, .inl (fun _ => 0))), ((r1 6), .inl (z.2 0, 8, .inl (fun _ => 0))), ((r1 7), .inl (z.2 0, 8, .inl (fun _ => 0))), (a0, .inr (14, [.ref a1, .int 0, .ref a2, .ref a3, .int 0, .ref a4, .ref q0]))] := hD
  refine W.eq (g2 := F0 m 50 ls [.int 0]) rfl ?_
  refine lv_if_eq (tgt := 70) hx hb d_17_9_50 (by decide) (fun _ => ?_) (fun c9 => absurd (by decide +kernel) c9)
  refine lv_iconst (v := 0) hx hb d_17_9_70 (by decide +kernel) ?_
  refine lv_istore (lv' := [(4, .int 0), (3, .int 4), (2, .int 1), (1, .ref q0), (0, .ref a0)]) hx hb d_17_9_71 hl (by decide) rfl (fun ls hl => ?_)
  refine lv_aload_n hx hb d_17_9_73 rfl (lv_at hl 3 rfl) ?_
  refine lv_iload_n hx hb d_17_9_74 rfl (lv_at hl 2 rfl) ?_
  refine va_alda hx hb hG.1 hP 0 8 rfl rfl (vin rfl) d_17_9_75 ?_
  refine W.eq (g2 := F0 m 76 ls [.ref (r1 1)]) rfl ?_
  refine lv_iload_n hx hb d_17_9_76 rfl (lv_at hl 1 rfl) ?_
  refine lv_iload hx hb d_17_9_77 (lv_at hl 0 rfl) ?_
  refine lv_if_le (tgt := 98) hx hb d_17_9_79 (by decide) (fun _ => ?_) (fun c9 => absurd (by decide +kernel) c9)
  refine lv_iconst (v := 0) hx hb d_17_9_98 (by decide +kernel) ?_
  refine va_iast hx hb hG.1 hP hD hS 2 0 rfl rfl (vin rfl) d_17_9_99 (fun H locs hP hD hS => ?_)
  rw [upd_z] at hP hD
  have hP : va_P z.1 classes [(q0, .inl (z.2 8, 8, .inr (.inr (.inr (.inr (va_up (va_up (va_up (va_up (va_up (va_up (va_up (va_up g91 0 (some (r1 0))) 1 (some (r1 1))) 2 (some (r1 2))) 3 (some (r1 3))) 4 (some (r1 4))) 5 (some (r1 5))) 6 (some (r1 6))) 7 (some (r1 7)))))))), ((r1 0), .inl (z.2 0, 8, .inl (fun _ => 0))), ((r1 1), .inl (z.2 0, 8, .inl (fun _ => 0))), ((r1 2), .inl (z.2 0, 8, .inl (fun _ => 0))), ((r1 3), .inl (z.2 0, 8, .inl (fun _ => 0))), ((r1 4), .inl (z.2 0, 8, .inl (fun _ => 0))), ((r1 5), .inl (z.2 0, 8, .inl (fun _ => 0))), ((r1 6), .inl (z.2 0, 8, .inl (fun _ => 0))), ((r1 7), .inl (z.2 0, 8, .inl (fun _ => 0))), (a0, .inr (14, [.ref a1, .int 0, .ref a2, .ref a3, .int 0, .ref a4, .ref q0]))] H := hP
  have hD : va_D A [(q0, .inl (z.2 8, 8, .inr (.inr (.inr (.inr (va_up (va_up (va_up (va_up (va_up (va_up (va_up (va_up g91 0 (some (r1 0))) 1 (some (r1 1))) 2 (some (r1 2))) 3 (some (r1 3))) 4 (some (r1 4))) 5 (some (r1 5))) 6 (some (r1 6))) 7 (some (r1 7)))))))), ((r1 0), .inl (z.2 0, 8, .inl (fun _ => 0))), ((r1 1), .inl (z.2 0, 8, .inl (fun _ => 0))), ((r1 2), .inl (z.2 0, 8, .inl (fun _ => 0))), ((r1 3), .inl (z.2 0, 8, .inl (fun _ => 0))), ((r1 4), .inl (z.2 0, 8, .inl (fun _ => 0))), ((r1 5), .inl (z.2 0, 8, .inl (fun _ => 0))), ((r1 6), .inl (z.2 0, 8, .inl (fun _ => 0))), ((r1 7), .inl (z.2 0, 8, .inl (fun _ => 0))), (a0, .inr (14, [.ref a1, .int 0, .ref a2, .ref a3, .int 0, .ref a4, .ref q0]))] := hD
  refine lv_iinc (v := 5) (lv' := [(3, .int 5), (4, .int 0), (2, .int 1), (1, .ref q0), (0, .ref a0)]) hx hb d_17_9_100 hl (k := 1) rfl (by decide +kernel) (by decide) rfl (fun ls hl => ?_)
  refine lv_goto (tgt := 34) hx hb d_17_9_103 (by decide) ?_
  refine lv_iload_n hx hb d_17_9_34 rfl (lv_at hl 0 rfl) ?_
  refine lv_bipush (v := 8) hx hb d_17_9_35 (by decide +kernel) ?_
  refine lv_icmp_ge (tgt := 106) hx hb d_17_9_37 (by decide) (fun c9 => absurd c9 (by decide +kernel)) (fun _ => ?_)
  refine lv_iload_n hx hb d_17_9_40 rfl (lv_at hl 2 rfl) ?_
  refine lv_iload_n hx hb d_17_9_41 rfl (lv_at hl 0 rfl) ?_
  refine lv_icmp_eq (tgt := 70) hx hb d_17_9_42 (by decide) (fun c9 => absurd c9 (by decide +kernel)) (fun _ => ?_)
  refine lv_aload_n hx hb d_17_9_45 rfl (lv_at hl 4 rfl) ?_
  refine lv_iload_n hx hb d_17_9_46 rfl (lv_at hl 2 rfl) ?_
  refine kV (As := [.int 1]) (rest := []) (wr := [(q0, .inl (z.2 8, 8, .inr (.inr (.inr (.inr (va_up (va_up (va_up (va_up (va_up (va_up (va_up (va_up g91 0 (some (r1 0))) 1 (some (r1 1))) 2 (some (r1 2))) 3 (some (r1 3))) 4 (some (r1 4))) 5 (some (r1 5))) 6 (some (r1 6))) 7 (some (r1 7)))))))), ((r1 0), .inl (z.2 0, 8, .inl (fun _ => 0))), ((r1 1), .inl (z.2 0, 8, .inl (fun _ => 0))), ((r1 2), .inl (z.2 0, 8, .inl (fun _ => 0))), ((r1 3), .inl (z.2 0, 8, .inl (fun _ => 0))), ((r1 4), .inl (z.2 0, 8, .inl (fun _ => 0))), ((r1 5), .inl (z.2 0, 8, .inl (fun _ => 0))), ((r1 6), .inl (z.2 0, 8, .inl (fun _ => 0))), ((r1 7), .inl (z.2 0, 8, .inl (fun _ => 0)))]) (c303_Poll_isIn l z a0 a1 a2 a3 a4 q0) hx hb hml hown hts w_2302 w_2299 w_2300 w_2301 w_36 md_2288df ⟨Nat.le_of_ble_eq_true rfl, Nat.le_of_ble_eq_true rfl⟩ hG hZ hP hD hS hA 9 rfl rfl rfl [9] [0, 1, 2, 3, 4, 5, 6, 7, 8] rfl rfl rfl rfl rfl hl.1 rfl (Nat.le_of_ble_eq_true rfl) d_17_9_47 ⟨Nat.le_of_ble_eq_true rfl, Nat.le_of_ble_eq_true rfl⟩ (fun u11 H locs hP hD hS => ?_)
  have hP : va_P z.1 classes [(q0, .inl (z.2 8, 8, .inr (.inr (.inr (.inr (va_up (va_up (va_up (va_up (va_up (va_up (va_up (va_up g91 0 (some (r1 0))) 1 (some (r1 1))) 2 (some (r1 2))) 3 (some (r1 3))) 4 (some (r1 4))) 5 (some (r1 5))) 6 (some (r1 6))) 7 (some (r1 7)))))))), ((r1 0), .inl (z.2 0, 8, .inl (fun _ => 0))), ((r1 1), .inl (z.2 0, 8, .inl (fun _ => 0))), ((r1 2), .inl (z.2 0, 8, .inl (fun _ => 0))), ((r1 3), .inl (z.2 0, 8, .inl (fun _ => 0))), ((r1 4), .inl (z.2 0, 8, .inl (fun _ => 0))), ((r1 5), .inl (z.2 0, 8, .inl (fun _ => 0))), ((r1 6), .inl (z.2 0, 8, .inl (fun _ => 0))), ((r1 7), .inl (z.2 0, 8, .inl (fun _ => 0))), (a0, .inr (14, [.ref a1, .int 0, .ref a2, .ref a3, .int 0, .ref a4, .ref q0]))] H := hP
  have hD : va_D A [(q0, .inl (z.2 8, 8, .inr (.inr (.inr (.inr (va_up (va_up (va_up (va_up (va_up (va_up (va_up (va_up g91 0 (some (r1 0))) 1 (some (r1 1))) 2 (some (r1 2))) 3 (some (r1 3))) 4 (some (r1 4))) 5 (some (r1 5))) 6 (some (r1 6))) 7 (some (r1 7)))))))), ((r1 0), .inl (z.2 0, 8, .inl (fun _ => 0))), ((r1 1), .inl (z.2 0, 8, .inl (fun _ => 0))), ((r1 2), .inl (z.2 0, 8, .inl (fun _ => 0))), ((r1 3), .inl (z.2 0, 8, .inl (fun _ => 0))), ((r1 4), .inl (z.2 0, 8, .inl (fun _ => 0))), ((r1 5), .inl (z.2 0, 8, .inl (fun _ => 0))), ((r1 6), .inl (z.2 0, 8, .inl (fun _ => 0))), ((r1 7), .inl (z.2 0, 8, .inl (fun _ => 0))), (a0, .inr (14, [.ref a1, .int 0, .ref a2, .ref a3, .int 0, .ref a4, .ref q0]))] := hD
  refine W.eq (g2 := F0 m 50 ls [.int 0]) rfl ?_
  refine lv_if_eq (tgt := 70) hx hb d_17_9_50 (by decide) (fun _ => ?_) (fun c9 => absurd (by decide +kernel) c9)
  refine lv_iconst (v := 0) hx hb d_17_9_70 (by decide +kernel) ?_
  refine lv_istore (lv' := [(4, .int 0), (3, .int 5), (2, .int 1), (1, .ref q0), (0, .ref a0)]) hx hb d_17_9_71 hl (by decide) rfl (fun ls hl => ?_)
  refine lv_aload_n hx hb d_17_9_73 rfl (lv_at hl 3 rfl) ?_
  refine lv_iload_n hx hb d_17_9_74 rfl (lv_at hl 2 rfl) ?_
  refine va_alda hx hb hG.1 hP 0 8 rfl rfl (vin rfl) d_17_9_75 ?_
  refine W.eq (g2 := F0 m 76 ls [.ref (r1 1)]) rfl ?_
  refine lv_iload_n hx hb d_17_9_76 rfl (lv_at hl 1 rfl) ?_
  refine lv_iload hx hb d_17_9_77 (lv_at hl 0 rfl) ?_
  refine lv_if_le (tgt := 98) hx hb d_17_9_79 (by decide) (fun _ => ?_) (fun c9 => absurd (by decide +kernel) c9)
  refine lv_iconst (v := 0) hx hb d_17_9_98 (by decide +kernel) ?_
  refine va_iast hx hb hG.1 hP hD hS 2 0 rfl rfl (vin rfl) d_17_9_99 (fun H locs hP hD hS => ?_)
  rw [upd_z] at hP hD
  have hP : va_P z.1 classes [(q0, .inl (z.2 8, 8, .inr (.inr (.inr (.inr (va_up (va_up (va_up (va_up (va_up (va_up (va_up (va_up g91 0 (some (r1 0))) 1 (some (r1 1))) 2 (some (r1 2))) 3 (some (r1 3))) 4 (some (r1 4))) 5 (some (r1 5))) 6 (some (r1 6))) 7 (some (r1 7)))))))), ((r1 0), .inl (z.2 0, 8, .inl (fun _ => 0))), ((r1 1), .inl (z.2 0, 8, .inl (fun _ => 0))), ((r1 2), .inl (z.2 0, 8, .inl (fun _ => 0))), ((r1 3), .inl (z.2 0, 8, .inl (fun _ => 0))), ((r1 4), .inl (z.2 0, 8, .inl (fun _ => 0))), ((r1 5), .inl (z.2 0, 8, .inl (fun _ => 0))), ((r1 6), .inl (z.2 0, 8, .inl (fun _ => 0))), ((r1 7), .inl (z.2 0, 8, .inl (fun _ => 0))), (a0, .inr (14, [.ref a1, .int 0, .ref a2, .ref a3, .int 0, .ref a4, .ref q0]))] H := hP
  have hD : va_D A [(q0, .inl (z.2 8, 8, .inr (.inr (.inr (.inr (va_up (va_up (va_up (va_up (va_up (va_up (va_up (va_up g91 0 (some (r1 0))) 1 (some (r1 1))) 2 (some (r1 2))) 3 (some (r1 3))) 4 (some (r1 4))) 5 (some (r1 5))) 6 (some (r1 6))) 7 (some (r1 7)))))))), ((r1 0), .inl (z.2 0, 8, .inl (fun _ => 0))), ((r1 1), .inl (z.2 0, 8, .inl (fun _ => 0))), ((r1 2), .inl (z.2 0, 8, .inl (fun _ => 0))), ((r1 3), .inl (z.2 0, 8, .inl (fun _ => 0))), ((r1 4), .inl (z.2 0, 8, .inl (fun _ => 0))), ((r1 5), .inl (z.2 0, 8, .inl (fun _ => 0))), ((r1 6), .inl (z.2 0, 8, .inl (fun _ => 0))), ((r1 7), .inl (z.2 0, 8, .inl (fun _ => 0))), (a0, .inr (14, [.ref a1, .int 0, .ref a2, .ref a3, .int 0, .ref a4, .ref q0]))] := hD
  refine lv_iinc (v := 6) (lv' := [(3, .int 6), (4, .int 0), (2, .int 1), (1, .ref q0), (0, .ref a0)]) hx hb d_17_9_100 hl (k := 1) rfl (by decide +kernel) (by decide) rfl (fun ls hl => ?_)
  refine lv_goto (tgt := 34) hx hb d_17_9_103 (by decide) ?_
  refine lv_iload_n hx hb d_17_9_34 rfl (lv_at hl 0 rfl) ?_
  refine lv_bipush (v := 8) hx hb d_17_9_35 (by decide +kernel) ?_
  refine lv_icmp_ge (tgt := 106) hx hb d_17_9_37 (by decide) (fun c9 => absurd c9 (by decide +kernel)) (fun _ => ?_)
  refine lv_iload_n hx hb d_17_9_40 rfl (lv_at hl 2 rfl) ?_
  refine lv_iload_n hx hb d_17_9_41 rfl (lv_at hl 0 rfl) ?_
  refine lv_icmp_eq (tgt := 70) hx hb d_17_9_42 (by decide) (fun c9 => absurd c9 (by decide +kernel)) (fun _ => ?_)
  refine lv_aload_n hx hb d_17_9_45 rfl (lv_at hl 4 rfl) ?_
  refine lv_iload_n hx hb d_17_9_46 rfl (lv_at hl 2 rfl) ?_
  refine kV (As := [.int 1]) (rest := []) (wr := [(q0, .inl (z.2 8, 8, .inr (.inr (.inr (.inr (va_up (va_up (va_up (va_up (va_up (va_up (va_up (va_up g91 0 (some (r1 0))) 1 (some (r1 1))) 2 (some (r1 2))) 3 (some (r1 3))) 4 (some (r1 4))) 5 (some (r1 5))) 6 (some (r1 6))) 7 (some (r1 7)))))))), ((r1 0), .inl (z.2 0, 8, .inl (fun _ => 0))), ((r1 1), .inl (z.2 0, 8, .inl (fun _ => 0))), ((r1 2), .inl (z.2 0, 8, .inl (fun _ => 0))), ((r1 3), .inl (z.2 0, 8, .inl (fun _ => 0))), ((r1 4), .inl (z.2 0, 8, .inl (fun _ => 0))), ((r1 5), .inl (z.2 0, 8, .inl (fun _ => 0))), ((r1 6), .inl (z.2 0, 8, .inl (fun _ => 0))), ((r1 7), .inl (z.2 0, 8, .inl (fun _ => 0)))]) (c303_Poll_isIn l z a0 a1 a2 a3 a4 q0) hx hb hml hown hts w_2302 w_2299 w_2300 w_2301 w_36 md_2288df ⟨Nat.le_of_ble_eq_true rfl, Nat.le_of_ble_eq_true rfl⟩ hG hZ hP hD hS hA 9 rfl rfl rfl [9] [0, 1, 2, 3, 4, 5, 6, 7, 8] rfl rfl rfl rfl rfl hl.1 rfl (Nat.le_of_ble_eq_true rfl) d_17_9_47 ⟨Nat.le_of_ble_eq_true rfl, Nat.le_of_ble_eq_true rfl⟩ (fun u12 H locs hP hD hS => ?_)
  have hP : va_P z.1 classes [(q0, .inl (z.2 8, 8, .inr (.inr (.inr (.inr (va_up (va_up (va_up (va_up (va_up (va_up (va_up (va_up g91 0 (some (r1 0))) 1 (some (r1 1))) 2 (some (r1 2))) 3 (some (r1 3))) 4 (some (r1 4))) 5 (some (r1 5))) 6 (some (r1 6))) 7 (some (r1 7)))))))), ((r1 0), .inl (z.2 0, 8, .inl (fun _ => 0))), ((r1 1), .inl (z.2 0, 8, .inl (fun _ => 0))), ((r1 2), .inl (z.2 0, 8, .inl (fun _ => 0))), ((r1 3), .inl (z.2 0, 8, .inl (fun _ => 0))), ((r1 4), .inl (z.2 0, 8, .inl (fun _ => 0))), ((r1 5), .inl (z.2 0, 8, .inl (fun _ => 0))), ((r1 6), .inl (z.2 0, 8, .inl (fun _ => 0))), ((r1 7), .inl (z.2 0, 8, .inl (fun _ => 0))), (a0, .inr (14, [.ref a1, .int 0, .ref a2, .ref a3, .int 0, .ref a4, .ref q0]))] H := hP
  have hD : va_D A [(q0, .inl (z.2 8, 8, .inr (.inr (.inr (.inr (va_up (va_up (va_up (va_up (va_up (va_up (va_up (va_up g91 0 (some (r1 0))) 1 (some (r1 1))) 2 (some (r1 2))) 3 (some (r1 3))) 4 (some (r1 4))) 5 (some (r1 5))) 6 (some (r1 6))) 7 (some (r1 7)))))))), ((r1 0), .inl (z.2 0, 8, .inl (fun _ => 0))), ((r1 1), .inl (z.2 0, 8, .inl (fun _ => 0))), ((r1 2), .inl (z.2 0, 8, .inl (fun _ => 0))), ((r1 3), .inl (z.2 0, 8, .inl (fun _ => 0))), ((r1 4), .inl (z.2 0, 8, .inl (fun _ => 0))), ((r1 5), .inl (z.2 0, 8, .inl (fun _ => 0))), ((r1 6), .inl (z.2 0, 8, .inl (fun _ => 0))), ((r1 7), .inl (z.2 0, 8, .inl (fun _ => 0))), (a0, .inr (14, [.ref a1, .int 0, .ref a2, .ref a3, .int 0, .ref a4, .ref q0]))] := hD
  refine W.eq (g2 := F0 m 50 ls [.int 0]) rfl ?_
  refine lv_if_eq (tgt := 70) hx hb d_17_9_50 (by decide) (fun _ => ?_) (fun c9 => absurd (by decide +kernel) c9)
  refine lv_iconst (v := 0) hx hb d_17_9_70 (by decide +kernel) ?_
  refine lv_istore (lv' := [(4, .int 0), (3, .int 6), (2, .int 1), (1, .ref q0), (0, .ref a0)]) hx hb d_17_9_71 hl (by decide) rfl (fun ls hl => ?_)
  refine lv_aload_n hx hb d_17_9_73 rfl (lv_at hl 3 rfl) ?_
  refine lv_iload_n hx hb d_17_9_74 rfl (lv_at hl 2 rfl) ?_
  refine va_alda hx hb hG.1 hP 0 8 rfl rfl (vin rfl) d_17_9_75 ?_
  refine W.eq (g2 := F0 m 76 ls [.ref (r1 1)]) rfl ?_
  refine lv_iload_n hx hb d_17_9_76 rfl (lv_at hl 1 rfl) ?_
  refine lv_iload hx hb d_17_9_77 (lv_at hl 0 rfl) ?_
  refine lv_if_le (tgt := 98) hx hb d_17_9_79 (by decide) (fun _ => ?_) (fun c9 => absurd (by decide +kernel) c9)
  refine lv_iconst (v := 0) hx hb d_17_9_98 (by decide +kernel) ?_
  refine va_iast hx hb hG.1 hP hD hS 2 0 rfl rfl (vin rfl) d_17_9_99 (fun H locs hP hD hS => ?_)
  rw [upd_z] at hP hD
  have hP : va_P z.1 classes [(q0, .inl (z.2 8, 8, .inr (.inr (.inr (.inr (va_up (va_up (va_up (va_up (va_up (va_up (va_up (va_up g91 0 (some (r1 0))) 1 (some (r1 1))) 2 (some (r1 2))) 3 (some (r1 3))) 4 (some (r1 4))) 5 (some (r1 5))) 6 (some (r1 6))) 7 (some (r1 7)))))))), ((r1 0), .inl (z.2 0, 8, .inl (fun _ => 0))), ((r1 1), .inl (z.2 0, 8, .inl (fun _ => 0))), ((r1 2), .inl (z.2 0, 8, .inl (fun _ => 0))), ((r1 3), .inl (z.2 0, 8, .inl (fun _ => 0))), ((r1 4), .inl (z.2 0, 8, .inl (fun _ => 0))), ((r1 5), .inl (z.2 0, 8, .inl (fun _ => 0))), ((r1 6), .inl (z.2 0, 8, .inl (fun _ => 0))), ((r1 7), .inl (z.2 0, 8, .inl (fun _ => 0))), (a0, .inr (14, [.ref a1, .int 0, .ref a2, .ref a3, .int 0, .ref a4, .ref q0]))] H := hP
  have hD : va_D A [(q0, .inl (z.2 8, 8, .inr (.inr (.inr (.inr (va_up (va_up (va_up (va_up (va_up (va_up (va_up (va_up g91 0 (some (r1 0))) 1 (some (r1 1))) 2 (some (r1 2))) 3 (some (r1 3))) 4 (some (r1 4))) 5 (some (r1 5))) 6 (some (r1 6))) 7 (some (r1 7)))))))), ((r1 0), .inl (z.2 0, 8, .inl (fun _ => 0))), ((r1 1), .inl (z.2 0, 8, .inl (fun _ => 0))), ((r1 2), .inl (z.2 0, 8, .inl (fun _ => 0))), ((r1 3), .inl (z.2 0, 8, .inl (fun _ => 0))), ((r1 4), .inl (z.2 0, 8, .inl (fun _ => 0))), ((r1 5), .inl (z.2 0, 8, .inl (fun _ => 0))), ((r1 6), .inl (z.2 0, 8, .inl (fun _ => 0))), ((r1 7), .inl (z.2 0, 8, .inl (fun _ => 0))), (a0, .inr (14, [.ref a1, .int 0, .ref a2, .ref a3, .int 0, .ref a4, .ref q0]))] := hD
  refine lv_iinc (v := 7) (lv' := [(3, .int 7), (4, .int 0), (2, .int 1), (1, .ref q0), (0, .ref a0)]) hx hb d_17_9_100 hl (k := 1) rfl (by decide +kernel) (by decide) rfl (fun ls hl => ?_)
  refine lv_goto (tgt := 34) hx hb d_17_9_103 (by decide) ?_
  refine lv_iload_n hx hb d_17_9_34 rfl (lv_at hl 0 rfl) ?_
  refine lv_bipush (v := 8) hx hb d_17_9_35 (by decide +kernel) ?_
  refine lv_icmp_ge (tgt := 106) hx hb d_17_9_37 (by decide) (fun c9 => absurd c9 (by decide +kernel)) (fun _ => ?_)
  refine lv_iload_n hx hb d_17_9_40 rfl (lv_at hl 2 rfl) ?_
  refine lv_iload_n hx hb d_17_9_41 rfl (lv_at hl 0 rfl) ?_
  refine lv_icmp_eq (tgt := 70) hx hb d_17_9_42 (by decide) (fun c9 => absurd c9 (by decide +kernel)) (fun _ => ?_)
  refine lv_aload_n hx hb d_17_9_45 rfl (lv_at hl 4 rfl) ?_
  refine lv_iload_n hx hb d_17_9_46 rfl (lv_at hl 2 rfl) ?_
  refine kV (As := [.int 1]) (rest := []) (wr := [(q0, .inl (z.2 8, 8, .inr (.inr (.inr (.inr (va_up (va_up (va_up (va_up (va_up (va_up (va_up (va_up g91 0 (some (r1 0))) 1 (some (r1 1))) 2 (some (r1 2))) 3 (some (r1 3))) 4 (some (r1 4))) 5 (some (r1 5))) 6 (some (r1 6))) 7 (some (r1 7)))))))), ((r1 0), .inl (z.2 0, 8, .inl (fun _ => 0))), ((r1 1), .inl (z.2 0, 8, .inl (fun _ => 0))), ((r1 2), .inl (z.2 0, 8, .inl (fun _ => 0))), ((r1 3), .inl (z.2 0, 8, .inl (fun _ => 0))), ((r1 4), .inl (z.2 0, 8, .inl (fun _ => 0))), ((r1 5), .inl (z.2 0, 8, .inl (fun _ => 0))), ((r1 6), .inl (z.2 0, 8, .inl (fun _ => 0))), ((r1 7), .inl (z.2 0, 8, .inl (fun _ => 0)))]) (c303_Poll_isIn l z a0 a1 a2 a3 a4 q0) hx hb hml hown hts w_2302 w_2299 w_2300 w_2301 w_36 md_2288df ⟨Nat.le_of_ble_eq_true rfl, Nat.le_of_ble_eq_true rfl⟩ hG hZ hP hD hS hA 9 rfl rfl rfl [9] [0, 1, 2, 3, 4, 5, 6, 7, 8] rfl rfl rfl rfl rfl hl.1 rfl (Nat.le_of_ble_eq_true rfl) d_17_9_47 ⟨Nat.le_of_ble_eq_true rfl, Nat.le_of_ble_eq_true rfl⟩ (fun u13 H locs hP hD hS => ?_)
  have hP : va_P z.1 classes [(q0, .inl (z.2 8, 8, .inr (.inr (.inr (.inr (va_up (va_up (va_up (va_up (va_up (va_up (va_up (va_up g91 0 (some (r1 0))) 1 (some (r1 1))) 2 (some (r1 2))) 3 (some (r1 3))) 4 (some (r1 4))) 5 (some (r1 5))) 6 (some (r1 6))) 7 (some (r1 7)))))))), ((r1 0), .inl (z.2 0, 8, .inl (fun _ => 0))), ((r1 1), .inl (z.2 0, 8, .inl (fun _ => 0))), ((r1 2), .inl (z.2 0, 8, .inl (fun _ => 0))), ((r1 3), .inl (z.2 0, 8, .inl (fun _ => 0))), ((r1 4), .inl (z.2 0, 8, .inl (fun _ => 0))), ((r1 5), .inl (z.2 0, 8, .inl (fun _ => 0))), ((r1 6), .inl (z.2 0, 8, .inl (fun _ => 0))), ((r1 7), .inl (z.2 0, 8, .inl (fun _ => 0))), (a0, .inr (14, [.ref a1, .int 0, .ref a2, .ref a3, .int 0, .ref a4, .ref q0]))] H := hP
  have hD : va_D A [(q0, .inl (z.2 8, 8, .inr (.inr (.inr (.inr (va_up (va_up (va_up (va_up (va_up (va_up (va_up (va_up g91 0 (some (r1 0))) 1 (some (r1 1))) 2 (some (r1 2))) 3 (some (r1 3))) 4 (some (r1 4))) 5 (some (r1 5))) 6 (some (r1 6))) 7 (some (r1 7)))))))), ((r1 0), .inl (z.2 0, 8, .inl (fun _ => 0))), ((r1 1), .inl (z.2 0, 8, .inl (fun _ => 0))), ((r1 2), .inl (z.2 0, 8, .inl (fun _ => 0))), ((r1 3), .inl (z.2 0, 8, .inl (fun _ => 0))), ((r1 4), .inl (z.2 0, 8, .inl (fun _ => 0))), ((r1 5), .inl (z.2 0, 8, .inl (fun _ => 0))), ((r1 6), .inl (z.2 0, 8, .inl (fun _ => 0))), ((r1 7), .inl (z.2 0, 8, .inl (fun _ => 0))), (a0, .inr (14, [.ref a1, .int 0, .ref a2, .ref a3, .int 0, .ref a4, .ref q0]))] := hD
  refine W.eq (g2 := F0 m 50 ls [.int 0]) rfl ?_
  refine lv_if_eq (tgt := 70) hx hb d_17_9_50 (by decide) (fun _ => ?_) (fun c9 => absurd (by decide +kernel) c9)
  refine lv_iconst (v := 0) hx hb d_17_9_70 (by decide +kernel) ?_
  refine lv_istore (lv' := [(4, .int 0), (3, .int 7), (2, .int 1), (1, .ref q0), (0, .ref a0)]) hx hb d_17_9_71 hl (by decide) rfl (fun ls hl => ?_)
  refine lv_aload_n hx hb d_17_9_73 rfl (lv_at hl 3 rfl) ?_
  refine lv_iload_n hx hb d_17_9_74 rfl (lv_at hl 2 rfl) ?_
  refine va_alda hx hb hG.1 hP 0 8 rfl rfl (vin rfl) d_17_9_75 ?_
  refine W.eq (g2 := F0 m 76 ls [.ref (r1 1)]) rfl ?_
  refine lv_iload_n hx hb d_17_9_76 rfl (lv_at hl 1 rfl) ?_
  refine lv_iload hx hb d_17_9_77 (lv_at hl 0 rfl) ?_
  refine lv_if_le (tgt := 98) hx hb d_17_9_79 (by decide) (fun _ => ?_) (fun c9 => absurd (by decide +kernel) c9)
  refine lv_iconst (v := 0) hx hb d_17_9_98 (by decide +kernel) ?_
  refine va_iast hx hb hG.1 hP hD hS 2 0 rfl rfl (vin rfl) d_17_9_99 (fun H locs hP hD hS => ?_)
  rw [upd_z] at hP hD
  have hP : va_P z.1 classes [(q0, .inl (z.2 8, 8, .inr (.inr (.inr (.inr (va_up (va_up (va_up (va_up (va_up (va_up (va_up (va_up g91 0 (some (r1 0))) 1 (some (r1 1))) 2 (some (r1 2))) 3 (some (r1 3))) 4 (some (r1 4))) 5 (some (r1 5))) 6 (some (r1 6))) 7 (some (r1 7)))))))), ((r1 0), .inl (z.2 0, 8, .inl (fun _ => 0))), ((r1 1), .inl (z.2 0, 8, .inl (fun _ => 0))), ((r1 2), .inl (z.2 0, 8, .inl (fun _ => 0))), ((r1 3), .inl (z.2 0, 8, .inl (fun _ => 0))), ((r1 4), .inl (z.2 0, 8, .inl (fun _ => 0))), ((r1 5), .inl (z.2 0, 8, .inl (fun _ => 0))), ((r1 6), .inl (z.2 0, 8, .inl (fun _ => 0))), ((r1 7), .inl (z.2 0, 8, .inl (fun _ => 0))), (a0, .inr (14, [.ref a1, .int 0, .ref a2, .ref a3, .int 0, .ref a4, .ref q0]))] H := hP
  have hD : va_D A [(q0, .inl (z.2 8, 8, .inr (.inr (.inr (.inr (va_up (va_up (va_up (va_up (va_up (va_up (va_up (va_up g91 0 (some (r1 0))) 1 (some (r1 1))) 2 (some (r1 2))) 3 (some (r1 3))) 4 (some (r1 4))) 5 (some (r1 5))) 6 (some (r1 6))) 7 (some (r1 7)))))))), ((r1 0), .inl (z.2 0, 8, .inl (fun _ => 0))), ((r1 1), .inl (z.2 0, 8, .inl (fun _ => 0))), ((r1 2), .inl (z.2 0, 8, .inl (fun _ => 0))), ((r1 3), .inl (z.2 0, 8, .inl (fun _ => 0))), ((r1 4), .inl (z.2 0, 8, .inl (fun _ => 0))), ((r1 5), .inl (z.2 0, 8, .inl (fun _ => 0))), ((r1 6), .inl (z.2 0, 8, .inl (fun _ => 0))), ((r1 7), .inl (z.2 0, 8, .inl (fun _ => 0))), (a0, .inr (14, [.ref a1, .int 0, .ref a2, .ref a3, .int 0, .ref a4, .ref q0]))] := hD
  refine lv_iinc (v := 8) (lv' := [(3, .int 8), (4, .int 0), (2, .int 1), (1, .ref q0), (0, .ref a0)]) hx hb d_17_9_100 hl (k := 1) rfl (by decide +kernel) (by decide) rfl (fun ls hl => ?_)
  refine lv_goto (tgt := 34) hx hb d_17_9_103 (by decide) ?_
  refine lv_iload_n hx hb d_17_9_34 rfl (lv_at hl 0 rfl) ?_
  refine lv_bipush (v := 8) hx hb d_17_9_35 (by decide +kernel) ?_
  refine lv_icmp_ge (tgt := 106) hx hb d_17_9_37 (by decide) (fun _ => ?_) (fun c9 => absurd (by decide +kernel) c9)
  refine lv_iinc (v := 2) (lv' := [(2, .int 2), (3, .int 8), (4, .int 0), (1, .ref q0), (0, .ref a0)]) hx hb d_17_9_106 hl (k := 2) rfl (by decide +kernel) (by decide) rfl (fun ls hl => ?_)
  refine lv_goto (tgt := 26) hx hb d_17_9_109 (by decide) ?_
  refine W.widen (k := 9) (n := 72) (Nat.le_of_ble_eq_true rfl) (Nat.le_of_ble_eq_true rfl) ?_
  exact hk H locs ls hP hD hS hl
set_option maxRecDepth 100000 in
set_option maxHeartbeats 4000000 in
theorem s312_paths (l : Launch) (z : Zz) (a0 : Nat) (a1 : Nat) (a2 : Nat) (a3 : Nat) (a4 : Nat) (g91 : Nat → Option Nat) (q0 : Nat) (r1 : Nat → Nat) {p : Program} {e : Env} {s : State} {m : MethodId} {below : List Frame} {meth : Method} {c : Code} {A : Nat → Prop} {Q : State → Prop} (hx : p.tables.exec = Jvm.exec) (hb : c.code = prog_17_method_9_code) (hml : c.maxLocals = 5) (hts : ∀ w ∈ WG, w.before ([.ref a0] : List Value).toArray s = true) (hown : s.vm.findClass "BallothallModel$Poll" = some m.cls) (hA : ∀ q, s.heap.size ≤ q → A q) (hG : KG z s) (hZ : XZ A s) (hk : ∀ (H : Heap) (locs : List Loc) (ls : Array Slot), va_P z.1 classes [(q0, .inl (z.2 8, 8, .inr (.inr (.inr (.inr (va_up (va_up (va_up (va_up (va_up (va_up (va_up (va_up g91 0 (some (r1 0))) 1 (some (r1 1))) 2 (some (r1 2))) 3 (some (r1 3))) 4 (some (r1 4))) 5 (some (r1 5))) 6 (some (r1 6))) 7 (some (r1 7)))))))), ((r1 0), .inl (z.2 0, 8, .inl (fun _ => 0))), ((r1 1), .inl (z.2 0, 8, .inl (fun _ => 0))), ((r1 2), .inl (z.2 0, 8, .inl (fun _ => 0))), ((r1 3), .inl (z.2 0, 8, .inl (fun _ => 0))), ((r1 4), .inl (z.2 0, 8, .inl (fun _ => 0))), ((r1 5), .inl (z.2 0, 8, .inl (fun _ => 0))), ((r1 6), .inl (z.2 0, 8, .inl (fun _ => 0))), ((r1 7), .inl (z.2 0, 8, .inl (fun _ => 0))), (a0, .inr (14, [.ref a1, .int 0, .ref a2, .ref a3, .int 0, .ref a4, .ref q0]))] H → va_D A [(q0, .inl (z.2 8, 8, .inr (.inr (.inr (.inr (va_up (va_up (va_up (va_up (va_up (va_up (va_up (va_up g91 0 (some (r1 0))) 1 (some (r1 1))) 2 (some (r1 2))) 3 (some (r1 3))) 4 (some (r1 4))) 5 (some (r1 5))) 6 (some (r1 6))) 7 (some (r1 7)))))))), ((r1 0), .inl (z.2 0, 8, .inl (fun _ => 0))), ((r1 1), .inl (z.2 0, 8, .inl (fun _ => 0))), ((r1 2), .inl (z.2 0, 8, .inl (fun _ => 0))), ((r1 3), .inl (z.2 0, 8, .inl (fun _ => 0))), ((r1 4), .inl (z.2 0, 8, .inl (fun _ => 0))), ((r1 5), .inl (z.2 0, 8, .inl (fun _ => 0))), ((r1 6), .inl (z.2 0, 8, .inl (fun _ => 0))), ((r1 7), .inl (z.2 0, 8, .inl (fun _ => 0))), (a0, .inr (14, [.ref a1, .int 0, .ref a2, .ref a3, .int 0, .ref a4, .ref q0]))] → va_S A s.heap H locs → lv_has ls 5 [(2, .int 3), (3, .int 8), (4, .int 0), (1, .ref q0), (0, .ref a0)] → W p l e (rmK 1 29 9 72) s m ([.ref a0] : List Value).toArray below meth c H locs 9 72 Q (F0 m 26 ls [])) (H : Heap) (locs : List Loc) (ls : Array Slot) (hP : va_P z.1 classes [(q0, .inl (z.2 8, 8, .inr (.inr (.inr (.inr (va_up (va_up (va_up (va_up (va_up (va_up (va_up (va_up g91 0 (some (r1 0))) 1 (some (r1 1))) 2 (some (r1 2))) 3 (some (r1 3))) 4 (some (r1 4))) 5 (some (r1 5))) 6 (some (r1 6))) 7 (some (r1 7)))))))), ((r1 0), .inl (z.2 0, 8, .inl (fun _ => 0))), ((r1 1), .inl (z.2 0, 8, .inl (fun _ => 0))), ((r1 2), .inl (z.2 0, 8, .inl (fun _ => 0))), ((r1 3), .inl (z.2 0, 8, .inl (fun _ => 0))), ((r1 4), .inl (z.2 0, 8, .inl (fun _ => 0))), ((r1 5), .inl (z.2 0, 8, .inl (fun _ => 0))), ((r1 6), .inl (z.2 0, 8, .inl (fun _ => 0))), ((r1 7), .inl (z.2 0, 8, .inl (fun _ => 0))), (a0, .inr (14, [.ref a1, .int 0, .ref a2, .ref a3, .int 0, .ref a4, .ref q0]))] H) (hD : va_D A [(q0, .inl (z.2 8, 8, .inr (.inr (.inr (.inr (va_up (va_up (va_up (va_up (va_up (va_up (va_up (va_up g91 0 (some (r1 0))) 1 (some (r1 1))) 2 (some (r1 2))) 3 (some (r1 3))) 4 (some (r1 4))) 5 (some (r1 5))) 6 (some (r1 6))) 7 (some (r1 7)))))))), ((r1 0), .inl (z.2 0, 8, .inl (fun _ => 0))), ((r1 1), .inl (z.2 0, 8, .inl (fun _ => 0))), ((r1 2), .inl (z.2 0, 8, .inl (fun _ => 0))), ((r1 3), .inl (z.2 0, 8, .inl (fun _ => 0))), ((r1 4), .inl (z.2 0, 8, .inl (fun _ => 0))), ((r1 5), .inl (z.2 0, 8, .inl (fun _ => 0))), ((r1 6), .inl (z.2 0, 8, .inl (fun _ => 0))), ((r1 7), .inl (z.2 0, 8, .inl (fun _ => 0))), (a0, .inr (14, [.ref a1, .int 0, .ref a2, .ref a3, .int 0, .ref a4, .ref q0]))]) (hS : va_S A s.heap H locs) (hl : lv_has ls 5 [(2, .int 2), (3, .int 8), (4, .int 0), (1, .ref q0), (0, .ref a0)]) : W p l e (rmK 1 29 9 72) s m ([.ref a0] : List Value).toArray below meth c H locs 9 72 Q (F0 m 26 ls []) := by
  refine lv_iload_n hx hb d_17_9_26 rfl (lv_at hl 0 rfl) ?_
  refine lv_bipush (v := 8) hx hb d_17_9_27 (by decide +kernel) ?_
  refine lv_icmp_ge (tgt := 112) hx hb d_17_9_29 (by decide) (fun c9 => absurd c9 (by decide +kernel)) (fun _ => ?_)
  refine lv_iconst (v := 0) hx hb d_17_9_32 (by decide +kernel) ?_
  refine lv_istore_n (lv' := [(3, .int 0), (2, .int 2), (4, .int 0), (1, .ref q0), (0, .ref a0)]) hx hb d_17_9_33 rfl hl (by decide) rfl (fun ls hl => ?_)
  refine lv_iload_n hx hb d_17_9_34 rfl (lv_at hl 0 rfl) ?_
  refine lv_bipush (v := 8) hx hb d_17_9_35 (by decide +kernel) ?_
  refine lv_icmp_ge (tgt := 106) hx hb d_17_9_37 (by decide) (fun c9 => absurd c9 (by decide +kernel)) (fun _ => ?_)
  refine lv_iload_n hx hb d_17_9_40 rfl (lv_at hl 1 rfl) ?_
  refine lv_iload_n hx hb d_17_9_41 rfl (lv_at hl 0 rfl) ?_
  refine lv_icmp_eq (tgt := 70) hx hb d_17_9_42 (by decide) (fun c9 => absurd c9 (by decide +kernel)) (fun _ => ?_)
  refine lv_aload_n hx hb d_17_9_45 rfl (lv_at hl 4 rfl) ?_
  refine lv_iload_n hx hb d_17_9_46 rfl (lv_at hl 1 rfl) ?_
  refine kV (As := [.int 2]) (rest := []) (wr := [(q0, .inl (z.2 8, 8, .inr (.inr (.inr (.inr (va_up (va_up (va_up (va_up (va_up (va_up (va_up (va_up g91 0 (some (r1 0))) 1 (some (r1 1))) 2 (some (r1 2))) 3 (some (r1 3))) 4 (some (r1 4))) 5 (some (r1 5))) 6 (some (r1 6))) 7 (some (r1 7)))))))), ((r1 0), .inl (z.2 0, 8, .inl (fun _ => 0))), ((r1 1), .inl (z.2 0, 8, .inl (fun _ => 0))), ((r1 2), .inl (z.2 0, 8, .inl (fun _ => 0))), ((r1 3), .inl (z.2 0, 8, .inl (fun _ => 0))), ((r1 4), .inl (z.2 0, 8, .inl (fun _ => 0))), ((r1 5), .inl (z.2 0, 8, .inl (fun _ => 0))), ((r1 6), .inl (z.2 0, 8, .inl (fun _ => 0))), ((r1 7), .inl (z.2 0, 8, .inl (fun _ => 0)))]) (c304_Poll_isIn l z a0 a1 a2 a3 a4 q0) hx hb hml hown hts w_2302 w_2299 w_2300 w_2301 w_36 md_2288df ⟨Nat.le_of_ble_eq_true rfl, Nat.le_of_ble_eq_true rfl⟩ hG hZ hP hD hS hA 9 rfl rfl rfl [9] [0, 1, 2, 3, 4, 5, 6, 7, 8] rfl rfl rfl rfl rfl hl.1 rfl (Nat.le_of_ble_eq_true rfl) d_17_9_47 ⟨Nat.le_of_ble_eq_true rfl, Nat.le_of_ble_eq_true rfl⟩ (fun u14 H locs hP hD hS => ?_)
  have hP : va_P z.1 classes [(q0, .inl (z.2 8, 8, .inr (.inr (.inr (.inr (va_up (va_up (va_up (va_up (va_up (va_up (va_up (va_up g91 0 (some (r1 0))) 1 (some (r1 1))) 2 (some (r1 2))) 3 (some (r1 3))) 4 (some (r1 4))) 5 (some (r1 5))) 6 (some (r1 6))) 7 (some (r1 7)))))))), ((r1 0), .inl (z.2 0, 8, .inl (fun _ => 0))), ((r1 1), .inl (z.2 0, 8, .inl (fun _ => 0))), ((r1 2), .inl (z.2 0, 8, .inl (fun _ => 0))), ((r1 3), .inl (z.2 0, 8, .inl (fun _ => 0))), ((r1 4), .inl (z.2 0, 8, .inl (fun _ => 0))), ((r1 5), .inl (z.2 0, 8, .inl (fun _ => 0))), ((r1 6), .inl (z.2 0, 8, .inl (fun _ => 0))), ((r1 7), .inl (z.2 0, 8, .inl (fun _ => 0))), (a0, .inr (14, [.ref a1, .int 0, .ref a2, .ref a3, .int 0, .ref a4, .ref q0]))] H := hP
  have hD : va_D A [(q0, .inl (z.2 8, 8, .inr (.inr (.inr (.inr (va_up (va_up (va_up (va_up (va_up (va_up (va_up (va_up g91 0 (some (r1 0))) 1 (some (r1 1))) 2 (some (r1 2))) 3 (some (r1 3))) 4 (some (r1 4))) 5 (some (r1 5))) 6 (some (r1 6))) 7 (some (r1 7)))))))), ((r1 0), .inl (z.2 0, 8, .inl (fun _ => 0))), ((r1 1), .inl (z.2 0, 8, .inl (fun _ => 0))), ((r1 2), .inl (z.2 0, 8, .inl (fun _ => 0))), ((r1 3), .inl (z.2 0, 8, .inl (fun _ => 0))), ((r1 4), .inl (z.2 0, 8, .inl (fun _ => 0))), ((r1 5), .inl (z.2 0, 8, .inl (fun _ => 0))), ((r1 6), .inl (z.2 0, 8, .inl (fun _ => 0))), ((r1 7), .inl (z.2 0, 8, .inl (fun _ => 0))), (a0, .inr (14, [.ref a1, .int 0, .ref a2, .ref a3, .int 0, .ref a4, .ref q0]))] := hD
  refine W.eq (g2 := F0 m 50 ls [.int 0]) rfl ?_
  refine lv_if_eq (tgt := 70) hx hb d_17_9_50 (by decide) (fun _ => ?_) (fun c9 => absurd (by decide +kernel) c9)
  refine lv_iconst (v := 0) hx hb d_17_9_70 (by decide +kernel) ?_
  refine lv_istore (lv' := [(4, .int 0), (3, .int 0), (2, .int 2), (1, .ref q0), (0, .ref a0)]) hx hb d_17_9_71 hl (by decide) rfl (fun ls hl => ?_)
  refine lv_aload_n hx hb d_17_9_73 rfl (lv_at hl 3 rfl) ?_
  refine lv_iload_n hx hb d_17_9_74 rfl (lv_at hl 2 rfl) ?_
  refine va_alda hx hb hG.1 hP 0 8 rfl rfl (vin rfl) d_17_9_75 ?_
  refine W.eq (g2 := F0 m 76 ls [.ref (r1 2)]) rfl ?_
  refine lv_iload_n hx hb d_17_9_76 rfl (lv_at hl 1 rfl) ?_
  refine lv_iload hx hb d_17_9_77 (lv_at hl 0 rfl) ?_
  refine lv_if_le (tgt := 98) hx hb d_17_9_79 (by decide) (fun _ => ?_) (fun c9 => absurd (by decide +kernel) c9)
  refine lv_iconst (v := 0) hx hb d_17_9_98 (by decide +kernel) ?_
  refine va_iast hx hb hG.1 hP hD hS 3 0 rfl rfl (vin rfl) d_17_9_99 (fun H locs hP hD hS => ?_)
  rw [upd_z] at hP hD
  have hP : va_P z.1 classes [(q0, .inl (z.2 8, 8, .inr (.inr (.inr (.inr (va_up (va_up (va_up (va_up (va_up (va_up (va_up (va_up g91 0 (some (r1 0))) 1 (some (r1 1))) 2 (some (r1 2))) 3 (some (r1 3))) 4 (some (r1 4))) 5 (some (r1 5))) 6 (some (r1 6))) 7 (some (r1 7)))))))), ((r1 0), .inl (z.2 0, 8, .inl (fun _ => 0))), ((r1 1), .inl (z.2 0, 8, .inl (fun _ => 0))), ((r1 2), .inl (z.2 0, 8, .inl (fun _ => 0))), ((r1 3), .inl (z.2 0, 8, .inl (fun _ => 0))), ((r1 4), .inl (z.2 0, 8, .inl (fun _ => 0))), ((r1 5), .inl (z.2 0, 8, .inl (fun _ => 0))), ((r1 6), .inl (z.2 0, 8, .inl (fun _ => 0))), ((r1 7), .inl (z.2 0, 8, .inl (fun _ => 0))), (a0, .inr (14, [.ref a1, .int 0, .ref a2, .ref a3, .int 0, .ref a4, .ref q0]))] H := hP
  have hD : va_D A [(q0, .inl (z.2 8, 8, .inr (.inr (.inr (.inr (va_up (va_up (va_up (va_up (va_up (va_up (va_up (va_up g91 0 (some (r1 0))) 1 (some (r1 1))) 2 (some (r1 2))) 3 (some (r1 3))) 4 (some (r1 4))) 5 (some (r1 5))) 6 (some (r1 6))) 7 (some (r1 7)))))))), ((r1 0), .inl (z.2 0, 8, .inl (fun _ => 0))), ((r1 1), .inl (z.2 0, 8, .inl (fun _ => 0))), ((r1 2), .inl (z.2 0, 8, .inl (fun _ => 0))), ((r1 3), .inl (z.2 0, 8, .inl (fun _ => 0))), ((r1 4), .inl (z.2 0, 8, .inl (fun _ => 0))), ((r1 5), .inl (z.2 0, 8, .inl (fun _ => 0))), ((r1 6), .inl (z.2 0, 8, .inl (fun _ => 0))), ((r1 7), .inl (z.2 0, 8, .inl (fun _ => 0))), (a0, .inr (14, [.ref a1, .int 0, .ref a2, .ref a3, .int 0, .ref a4, .ref q0]))] := hD
  refine lv_iinc (v := 1) (lv' := [(3, .int 1), (4, .int 0), (2, .int 2), (1, .ref q0), (0, .ref a0)]) hx hb d_17_9_100 hl (k := 1) rfl (by decide +kernel) (by decide) rfl (fun ls hl => ?_)
  refine lv_goto (tgt := 34) hx hb d_17_9_103 (by decide) ?_
  refine lv_iload_n hx hb d_17_9_34 rfl (lv_at hl 0 rfl) ?_
  refine lv_bipush (v := 8) hx hb d_17_9_35 (by decide +kernel) ?_
  refine lv_icmp_ge (tgt := 106) hx hb d_17_9_37 (by decide) (fun c9 => absurd c9 (by decide +kernel)) (fun _ => ?_)
  refine lv_iload_n hx hb d_17_9_40 rfl (lv_at hl 2 rfl) ?_
  refine lv_iload_n hx hb d_17_9_41 rfl (lv_at hl 0 rfl) ?_
  refine lv_icmp_eq (tgt := 70) hx hb d_17_9_42 (by decide) (fun c9 => absurd c9 (by decide +kernel)) (fun _ => ?_)
  refine lv_aload_n hx hb d_17_9_45 rfl (lv_at hl 4 rfl) ?_
  refine lv_iload_n hx hb d_17_9_46 rfl (lv_at hl 2 rfl) ?_
  refine kV (As := [.int 2]) (rest := []) (wr := [(q0, .inl (z.2 8, 8, .inr (.inr (.inr (.inr (va_up (va_up (va_up (va_up (va_up (va_up (va_up (va_up g91 0 (some (r1 0))) 1 (some (r1 1))) 2 (some (r1 2))) 3 (some (r1 3))) 4 (some (r1 4))) 5 (some (r1 5))) 6 (some (r1 6))) 7 (some (r1 7)))))))), ((r1 0), .inl (z.2 0, 8, .inl (fun _ => 0))), ((r1 1), .inl (z.2 0, 8, .inl (fun _ => 0))), ((r1 2), .inl (z.2 0, 8, .inl (fun _ => 0))), ((r1 3), .inl (z.2 0, 8, .inl (fun _ => 0))), ((r1 4), .inl (z.2 0, 8, .inl (fun _ => 0))), ((r1 5), .inl (z.2 0, 8, .inl (fun _ => 0))), ((r1 6), .inl (z.2 0, 8, .inl (fun _ => 0))), ((r1 7), .inl (z.2 0, 8, .inl (fun _ => 0)))]) (c304_Poll_isIn l z a0 a1 a2 a3 a4 q0) hx hb hml hown hts w_2302 w_2299 w_2300 w_2301 w_36 md_2288df ⟨Nat.le_of_ble_eq_true rfl, Nat.le_of_ble_eq_true rfl⟩ hG hZ hP hD hS hA 9 rfl rfl rfl [9] [0, 1, 2, 3, 4, 5, 6, 7, 8] rfl rfl rfl rfl rfl hl.1 rfl (Nat.le_of_ble_eq_true rfl) d_17_9_47 ⟨Nat.le_of_ble_eq_true rfl, Nat.le_of_ble_eq_true rfl⟩ (fun u15 H locs hP hD hS => ?_)
  have hP : va_P z.1 classes [(q0, .inl (z.2 8, 8, .inr (.inr (.inr (.inr (va_up (va_up (va_up (va_up (va_up (va_up (va_up (va_up g91 0 (some (r1 0))) 1 (some (r1 1))) 2 (some (r1 2))) 3 (some (r1 3))) 4 (some (r1 4))) 5 (some (r1 5))) 6 (some (r1 6))) 7 (some (r1 7)))))))), ((r1 0), .inl (z.2 0, 8, .inl (fun _ => 0))), ((r1 1), .inl (z.2 0, 8, .inl (fun _ => 0))), ((r1 2), .inl (z.2 0, 8, .inl (fun _ => 0))), ((r1 3), .inl (z.2 0, 8, .inl (fun _ => 0))), ((r1 4), .inl (z.2 0, 8, .inl (fun _ => 0))), ((r1 5), .inl (z.2 0, 8, .inl (fun _ => 0))), ((r1 6), .inl (z.2 0, 8, .inl (fun _ => 0))), ((r1 7), .inl (z.2 0, 8, .inl (fun _ => 0))), (a0, .inr (14, [.ref a1, .int 0, .ref a2, .ref a3, .int 0, .ref a4, .ref q0]))] H := hP
  have hD : va_D A [(q0, .inl (z.2 8, 8, .inr (.inr (.inr (.inr (va_up (va_up (va_up (va_up (va_up (va_up (va_up (va_up g91 0 (some (r1 0))) 1 (some (r1 1))) 2 (some (r1 2))) 3 (some (r1 3))) 4 (some (r1 4))) 5 (some (r1 5))) 6 (some (r1 6))) 7 (some (r1 7)))))))), ((r1 0), .inl (z.2 0, 8, .inl (fun _ => 0))), ((r1 1), .inl (z.2 0, 8, .inl (fun _ => 0))), ((r1 2), .inl (z.2 0, 8, .inl (fun _ => 0))), ((r1 3), .inl (z.2 0, 8, .inl (fun _ => 0))), ((r1 4), .inl (z.2 0, 8, .inl (fun _ => 0))), ((r1 5), .inl (z.2 0, 8, .inl (fun _ => 0))), ((r1 6), .inl (z.2 0, 8, .inl (fun _ => 0))), ((r1 7), .inl (z.2 0, 8, .inl (fun _ => 0))), (a0, .inr (14, [.ref a1, .int 0, .ref a2, .ref a3, .int 0, .ref a4, .ref q0]))] := hD
  refine W.eq (g2 := F0 m 50 ls [.int 0]) rfl ?_
  refine lv_if_eq (tgt := 70) hx hb d_17_9_50 (by decide) (fun _ => ?_) (fun c9 => absurd (by decide +kernel) c9)
  refine lv_iconst (v := 0) hx hb d_17_9_70 (by decide +kernel) ?_
  refine lv_istore (lv' := [(4, .int 0), (3, .int 1), (2, .int 2), (1, .ref q0), (0, .ref a0)]) hx hb d_17_9_71 hl (by decide) rfl (fun ls hl => ?_)
  refine lv_aload_n hx hb d_17_9_73 rfl (lv_at hl 3 rfl) ?_
  refine lv_iload_n hx hb d_17_9_74 rfl (lv_at hl 2 rfl) ?_
  refine va_alda hx hb hG.1 hP 0 8 rfl rfl (vin rfl) d_17_9_75 ?_
  refine W.eq (g2 := F0 m 76 ls [.ref (r1 2)]) rfl ?_
  refine lv_iload_n hx hb d_17_9_76 rfl (lv_at hl 1 rfl) ?_
  refine lv_iload hx hb d_17_9_77 (lv_at hl 0 rfl) ?_
  refine lv_if_le (tgt := 98) hx hb d_17_9_79 (by decide) (fun _ => ?_) (fun c9 => absurd (by decide +kernel) c9)
  refine lv_iconst (v := 0) hx hb d_17_9_98 (by decide +kernel) ?_
  refine va_iast hx hb hG.1 hP hD hS 3 0 rfl rfl (vin rfl) d_17_9_99 (fun H locs hP hD hS => ?_)
  rw [upd_z] at hP hD
  have hP : va_P z.1 classes [(q0, .inl (z.2 8, 8, .inr (.inr (.inr (.inr (va_up (va_up (va_up (va_up (va_up (va_up (va_up (va_up g91 0 (some (r1 0))) 1 (some (r1 1))) 2 (some (r1 2))) 3 (some (r1 3))) 4 (some (r1 4))) 5 (some (r1 5))) 6 (some (r1 6))) 7 (some (r1 7)))))))), ((r1 0), .inl (z.2 0, 8, .inl (fun _ => 0))), ((r1 1), .inl (z.2 0, 8, .inl (fun _ => 0))), ((r1 2), .inl (z.2 0, 8, .inl (fun _ => 0))), ((r1 3), .inl (z.2 0, 8, .inl (fun _ => 0))), ((r1 4), .inl (z.2 0, 8, .inl (fun _ => 0))), ((r1 5), .inl (z.2 0, 8, .inl (fun _ => 0))), ((r1 6), .inl (z.2 0, 8, .inl (fun _ => 0))), ((r1 7), .inl (z.2 0, 8, .inl (fun _ => 0))), (a0, .inr (14, [.ref a1, .int 0, .ref a2, .ref a3, .int 0, .ref a4, .ref q0]))] H := hP
  have hD : va_D A [(q0, .inl (z.2 8, 8, .inr (.inr (.inr (.inr (va_up (va_up (va_up (va_up (va_up (va_up (va_up (va_up g91 0 (some (r1 0))) 1 (some (r1 1))) 2 (some (r1 2))) 3 (some (r1 3))) 4 (some (r1 4))) 5 (some (r1 5))) 6 (some (r1 6))) 7 (some (r1 7)))))))), ((r1 0), .inl (z.2 0, 8, .inl (fun _ => 0))), ((r1 1), .inl (z.2 0, 8, .inl (fun _ => 0))), ((r1 2), .inl (z.2 0, 8, .inl (fun _ => 0))), ((r1 3), .inl (z.2 0, 8, .inl (fun _ => 0))), ((r1 4), .inl (z.2 0, 8, .inl (fun _ => 0))), ((r1 5), .inl (z.2 0, 8, .inl (fun _ => 0))), ((r1 6), .inl (z.2 0, 8, .inl (fun _ => 0))), ((r1 7), .inl (z.2 0, 8, .inl (fun _ => 0))), (a0, .inr (14, [.ref a1, .int 0, .ref a2, .ref a3, .int 0, .ref a4, .ref q0]))] := hD
  refine lv_iinc (v := 2) (lv' := [(3, .int 2), (4, .int 0), (2, .int 2), (1, .ref q0), (0, .ref a0)]) hx hb d_17_9_100 hl (k := 1) rfl (by decide +kernel) (by decide) rfl (fun ls hl => ?_)
  refine lv_goto (tgt := 34) hx hb d_17_9_103 (by decide) ?_
  refine lv_iload_n hx hb d_17_9_34 rfl (lv_at hl 0 rfl) ?_
  refine lv_bipush (v := 8) hx hb d_17_9_35 (by decide +kernel) ?_
  refine lv_icmp_ge (tgt := 106) hx hb d_17_9_37 (by decide) (fun c9 => absurd c9 (by decide +kernel)) (fun _ => ?_)
  refine lv_iload_n hx hb d_17_9_40 rfl (lv_at hl 2 rfl) ?_
  refine lv_iload_n hx hb d_17_9_41 rfl (lv_at hl 0 rfl) ?_
  refine lv_icmp_eq (tgt := 70) hx hb d_17_9_42 (by decide) (fun _ => ?_) (fun c9 => absurd (by decide +kernel) c9)
  refine lv_iconst (v := 0) hx hb d_17_9_70 (by decide +kernel) ?_
  refine lv_istore (lv' := [(4, .int 0), (3, .int 2), (2, .int 2), (1, .ref q0), (0, .ref a0)]) hx hb d_17_9_71 hl (by decide) rfl (fun ls hl => ?_)
  refine lv_aload_n hx hb d_17_9_73 rfl (lv_at hl 3 rfl) ?_
  refine lv_iload_n hx hb d_17_9_74 rfl (lv_at hl 2 rfl) ?_
  refine va_alda hx hb hG.1 hP 0 8 rfl rfl (vin rfl) d_17_9_75 ?_
  refine W.eq (g2 := F0 m 76 ls [.ref (r1 2)]) rfl ?_
  refine lv_iload_n hx hb d_17_9_76 rfl (lv_at hl 1 rfl) ?_
  refine lv_iload hx hb d_17_9_77 (lv_at hl 0 rfl) ?_
  refine lv_if_le (tgt := 98) hx hb d_17_9_79 (by decide) (fun _ => ?_) (fun c9 => absurd (by decide +kernel) c9)
  refine lv_iconst (v := 0) hx hb d_17_9_98 (by decide +kernel) ?_
  refine va_iast hx hb hG.1 hP hD hS 3 0 rfl rfl (vin rfl) d_17_9_99 (fun H locs hP hD hS => ?_)
  rw [upd_z] at hP hD
  have hP : va_P z.1 classes [(q0, .inl (z.2 8, 8, .inr (.inr (.inr (.inr (va_up (va_up (va_up (va_up (va_up (va_up (va_up (va_up g91 0 (some (r1 0))) 1 (some (r1 1))) 2 (some (r1 2))) 3 (some (r1 3))) 4 (some (r1 4))) 5 (some (r1 5))) 6 (some (r1 6))) 7 (some (r1 7)))))))), ((r1 0), .inl (z.2 0, 8, .inl (fun _ => 0))), ((r1 1), .inl (z.2 0, 8, .inl (fun _ => 0))), ((r1 2), .inl (z.2 0, 8, .inl (fun _ => 0))), ((r1 3), .inl (z.2 0, 8, .inl (fun _ => 0))), ((r1 4), .inl (z.2 0, 8, .inl (fun _ => 0))), ((r1 5), .inl (z.2 0, 8, .inl (fun _ => 0))), ((r1 6), .inl (z.2 0, 8, .inl (fun _ => 0))), ((r1 7), .inl (z.2 0, 8, .inl (fun _ => 0))), (a0, .inr (14, [.ref a1, .int 0, .ref a2, .ref a3, .int 0, .ref a4, .ref q0]))] H := hP
  have hD : va_D A [(q0, .inl (z.2 8, 8, .inr (.inr (.inr (.inr (va_up (va_up (va_up (va_up (va_up (va_up (va_up (va_up g91 0 (some (r1 0))) 1 (some (r1 1))) 2 (some (r1 2))) 3 (some (r1 3))) 4 (some (r1 4))) 5 (some (r1 5))) 6 (some (r1 6))) 7 (some (r1 7)))))))), ((r1 0), .inl (z.2 0, 8, .inl (fun _ => 0))), ((r1 1), .inl (z.2 0, 8, .inl (fun _ => 0))), ((r1 2), .inl (z.2 0, 8, .inl (fun _ => 0))), ((r1 3), .inl (z.2 0, 8, .inl (fun _ => 0))), ((r1 4), .inl (z.2 0, 8, .inl (fun _ => 0))), ((r1 5), .inl (z.2 0, 8, .inl (fun _ => 0))), ((r1 6), .inl (z.2 0, 8, .inl (fun _ => 0))), ((r1 7), .inl (z.2 0, 8, .inl (fun _ => 0))), (a0, .inr (14, [.ref a1, .int 0, .ref a2, .ref a3, .int 0, .ref a4, .ref q0]))] := hD
  refine lv_iinc (v := 3) (lv' := [(3, .int 3), (4, .int 0), (2, .int 2), (1, .ref q0), (0, .ref a0)]) hx hb d_17_9_100 hl (k := 1) rfl (by decide +kernel) (by decide) rfl (fun ls hl => ?_)
  refine lv_goto (tgt := 34) hx hb d_17_9_103 (by decide) ?_
  refine lv_iload_n hx hb d_17_9_34 rfl (lv_at hl 0 rfl) ?_
  refine lv_bipush (v := 8) hx hb d_17_9_35 (by decide +kernel) ?_
  refine lv_icmp_ge (tgt := 106) hx hb d_17_9_37 (by decide) (fun c9 => absurd c9 (by decide +kernel)) (fun _ => ?_)
  refine lv_iload_n hx hb d_17_9_40 rfl (lv_at hl 2 rfl) ?_
  refine lv_iload_n hx hb d_17_9_41 rfl (lv_at hl 0 rfl) ?_
  refine lv_icmp_eq (tgt := 70) hx hb d_17_9_42 (by decide) (fun c9 => absurd c9 (by decide +kernel)) (fun _ => ?_)
  refine lv_aload_n hx hb d_17_9_45 rfl (lv_at hl 4 rfl) ?_
  refine lv_iload_n hx hb d_17_9_46 rfl (lv_at hl 2 rfl) ?_
  refine kV (As := [.int 2]) (rest := []) (wr := [(q0, .inl (z.2 8, 8, .inr (.inr (.inr (.inr (va_up (va_up (va_up (va_up (va_up (va_up (va_up (va_up g91 0 (some (r1 0))) 1 (some (r1 1))) 2 (some (r1 2))) 3 (some (r1 3))) 4 (some (r1 4))) 5 (some (r1 5))) 6 (some (r1 6))) 7 (some (r1 7)))))))), ((r1 0), .inl (z.2 0, 8, .inl (fun _ => 0))), ((r1 1), .inl (z.2 0, 8, .inl (fun _ => 0))), ((r1 2), .inl (z.2 0, 8, .inl (fun _ => 0))), ((r1 3), .inl (z.2 0, 8, .inl (fun _ => 0))), ((r1 4), .inl (z.2 0, 8, .inl (fun _ => 0))), ((r1 5), .inl (z.2 0, 8, .inl (fun _ => 0))), ((r1 6), .inl (z.2 0, 8, .inl (fun _ => 0))), ((r1 7), .inl (z.2 0, 8, .inl (fun _ => 0)))]) (c304_Poll_isIn l z a0 a1 a2 a3 a4 q0) hx hb hml hown hts w_2302 w_2299 w_2300 w_2301 w_36 md_2288df ⟨Nat.le_of_ble_eq_true rfl, Nat.le_of_ble_eq_true rfl⟩ hG hZ hP hD hS hA 9 rfl rfl rfl [9] [0, 1, 2, 3, 4, 5, 6, 7, 8] rfl rfl rfl rfl rfl hl.1 rfl (Nat.le_of_ble_eq_true rfl) d_17_9_47 ⟨Nat.le_of_ble_eq_true rfl, Nat.le_of_ble_eq_true rfl⟩ (fun u16 H locs hP hD hS => ?_)
  have hP : va_P z.1 classes [(q0, .inl (z.2 8, 8, .inr (.inr (.inr (.inr (va_up (va_up (va_up (va_up (va_up (va_up (va_up (va_up g91 0 (some (r1 0))) 1 (some (r1 1))) 2 (some (r1 2))) 3 (some (r1 3))) 4 (some (r1 4))) 5 (some (r1 5))) 6 (some (r1 6))) 7 (some (r1 7)))))))), ((r1 0), .inl (z.2 0, 8, .inl (fun _ => 0))), ((r1 1), .inl (z.2 0, 8, .inl (fun _ => 0))), ((r1 2), .inl (z.2 0, 8, .inl (fun _ => 0))), ((r1 3), .inl (z.2 0, 8, .inl (fun _ => 0))), ((r1 4), .inl (z.2 0, 8, .inl (fun _ => 0))), ((r1 5), .inl (z.2 0, 8, .inl (fun _ => 0))), ((r1 6), .inl (z.2 0, 8, .inl (fun _ => 0))), ((r1 7), .inl (z.2 0, 8, .inl (fun _ => 0))), (a0, .inr (14, [.ref a1, .int 0, .ref a2, .ref a3, .int 0, .ref a4, .ref q0]))] H := hP
  have hD : va_D A [(q0, .inl (z.2 8, 8, .inr (.inr (.inr (.inr (va_up (va_up (va_up (va_up (va_up (va_up (va_up (va_up g91 0 (some (r1 0))) 1 (some (r1 1))) 2 (some (r1 2))) 3 (some (r1 3))) 4 (some (r1 4))) 5 (some (r1 5))) 6 (some (r1 6))) 7 (some (r1 7)))))))), ((r1 0), .inl (z.2 0, 8, .inl (fun _ => 0))), ((r1 1), .inl (z.2 0, 8, .inl (fun _ => 0))), ((r1 2), .inl (z.2 0, 8, .inl (fun _ => 0))), ((r1 3), .inl (z.2 0, 8, .inl (fun _ => 0))), ((r1 4), .inl (z.2 0, 8, .inl (fun _ => 0))), ((r1 5), .inl (z.2 0, 8, .inl (fun _ => 0))), ((r1 6), .inl (z.2 0, 8, .inl (fun _ => 0))), ((r1 7), .inl (z.2 0, 8, .inl (fun _ => 0))), (a0, .inr (14, [.ref a1, .int 0, .ref a2, .ref a3, .int 0, .ref a4, .ref q0]))] := hD
  refine W.eq (g2 := F0 m 50 ls [.int 0]) rfl ?_
  refine lv_if_eq (tgt := 70) hx hb d_17_9_50 (by decide) (fun _ => ?_) (fun c9 => absurd (by decide +kernel) c9)
  refine lv_iconst (v := 0) hx hb d_17_9_70 (by decide +kernel) ?_
  refine lv_istore (lv' := [(4, .int 0), (3, .int 3), (2, .int 2), (1, .ref q0), (0, .ref a0)]) hx hb d_17_9_71 hl (by decide) rfl (fun ls hl => ?_)
  refine lv_aload_n hx hb d_17_9_73 rfl (lv_at hl 3 rfl) ?_
  refine lv_iload_n hx hb d_17_9_74 rfl (lv_at hl 2 rfl) ?_
  refine va_alda hx hb hG.1 hP 0 8 rfl rfl (vin rfl) d_17_9_75 ?_
  refine W.eq (g2 := F0 m 76 ls [.ref (r1 2)]) rfl ?_
  refine lv_iload_n hx hb d_17_9_76 rfl (lv_at hl 1 rfl) ?_
  refine lv_iload hx hb d_17_9_77 (lv_at hl 0 rfl) ?_
  refine lv_if_le (tgt := 98) hx hb d_17_9_79 (by decide) (fun _ => ?_) (fun c9 => absurd (by decide +kernel) c9)
  refine lv_iconst (v := 0) hx hb d_17_9_98 (by decide +kernel) ?_
  refine va_iast hx hb hG.1 hP hD hS 3 0 rfl rfl (vin rfl) d_17_9_99 (fun H locs hP hD hS => ?_)
  rw [upd_z] at hP hD
  have hP : va_P z.1 classes [(q0, .inl (z.2 8, 8, .inr (.inr (.inr (.inr (va_up (va_up (va_up (va_up (va_up (va_up (va_up (va_up g91 0 (some (r1 0))) 1 (some (r1 1))) 2 (some (r1 2))) 3 (some (r1 3))) 4 (some (r1 4))) 5 (some (r1 5))) 6 (some (r1 6))) 7 (some (r1 7)))))))), ((r1 0), .inl (z.2 0, 8, .inl (fun _ => 0))), ((r1 1), .inl (z.2 0, 8, .inl (fun _ => 0))), ((r1 2), .inl (z.2 0, 8, .inl (fun _ => 0))), ((r1 3), .inl (z.2 0, 8, .inl (fun _ => 0))), ((r1 4), .inl (z.2 0, 8, .inl (fun _ => 0))), ((r1 5), .inl (z.2 0, 8, .inl (fun _ => 0))), ((r1 6), .inl (z.2 0, 8, .inl (fun _ => 0))), ((r1 7), .inl (z.2 0, 8, .inl (fun _ => 0))), (a0, .inr (14, [.ref a1, .int 0, .ref a2, .ref a3, .int 0, .ref a4, .ref q0]))] H := hP
  have hD : va_D A [(q0, .inl (z.2 8, 8, .inr (.inr (.inr (.inr (va_up (va_up (va_up (va_up (va_up (va_up (va_up (va_up g91 0 (some (r1 0))) 1 (some (r1 1))) 2 (some (r1 2))) 3 (some (r1 3))) 4 (some (r1 4))) 5 (some (r1 5))) 6 (some (r1 6))) 7 (some (r1 7)))))))), ((r1 0), .inl (z.2 0, 8, .inl (fun _ => 0))), ((r1 1), .inl (z.2 0, 8, .inl (fun _ => 0))), ((r1 2), .inl (z.2 0, 8, .inl (fun _ => 0))), ((r1 3), .inl (z.2 0, 8, .inl (fun _ => 0))), ((r1 4), .inl (z.2 0, 8, .inl (fun _ => 0))), ((r1 5), .inl (z.2 0, 8, .inl (fun _ => 0))), ((r1 6), .inl (z.2 0, 8, .inl (fun _ => 0))), ((r1 7), .inl (z.2 0, 8, .inl (fun _ => 0))), (a0, .inr (14, [.ref a1, .int 0, .ref a2, .ref a3, .int 0, .ref a4, .ref q0]))] := hD
  refine lv_iinc (v := 4) (lv' := [(3, .int 4), (4, .int 0), (2, .int 2), (1, .ref q0), (0, .ref a0)]) hx hb d_17_9_100 hl (k := 1) rfl (by decide +kernel) (by decide) rfl (fun ls hl => ?_)
  refine lv_goto (tgt := 34) hx hb d_17_9_103 (by decide) ?_
  refine lv_iload_n hx hb d_17_9_34 rfl (lv_at hl 0 rfl) ?_
  refine lv_bipush (v := 8) hx hb d_17_9_35 (by decide +kernel) ?_
  refine lv_icmp_ge (tgt := 106) hx hb d_17_9_37 (by decide) (fun c9 => absurd c9 (by decide +kernel)) (fun _ => ?_)
  refine lv_iload_n hx hb d_17_9_40 rfl (lv_at hl 2 rfl) ?_
  refine lv_iload_n hx hb d_17_9_41 rfl (lv_at hl 0 rfl) ?_
  refine lv_icmp_eq (tgt := 70) hx hb d_17_9_42 (by decide) (fun c9 => absurd c9 (by decide +kernel)) (fun _ => ?_)
  refine lv_aload_n hx hb d_17_9_45 rfl (lv_at hl 4 rfl) ?_
  refine lv_iload_n hx hb d_17_9_46 rfl (lv_at hl 2 rfl) ?_
  refine kV (As := [.int 2]) (rest := []) (wr := [(q0, .inl (z.2 8, 8, .inr (.inr (.inr (.inr (va_up (va_up (va_up (va_up (va_up (va_up (va_up (va_up g91 0 (some (r1 0))) 1 (some (r1 1))) 2 (some (r1 2))) 3 (some (r1 3))) 4 (some (r1 4))) 5 (some (r1 5))) 6 (some (r1 6))) 7 (some (r1 7)))))))), ((r1 0), .inl (z.2 0, 8, .inl (fun _ => 0))), ((r1 1), .inl (z.2 0, 8, .inl (fun _ => 0))), ((r1 2), .inl (z.2 0, 8, .inl (fun _ => 0))), ((r1 3), .inl (z.2 0, 8, .inl (fun _ => 0))), ((r1 4), .inl (z.2 0, 8, .inl (fun _ => 0))), ((r1 5), .inl (z.2 0, 8, .inl (fun _ => 0))), ((r1 6), .inl (z.2 0, 8, .inl (fun _ => 0))), ((r1 7), .inl (z.2 0, 8, .inl (fun _ => 0)))]) (c304_Poll_isIn l z a0 a1 a2 a3 a4 q0) hx hb hml hown hts w_2302 w_2299 w_2300 w_2301 w_36 md_2288df ⟨Nat.le_of_ble_eq_true rfl, Nat.le_of_ble_eq_true rfl⟩ hG hZ hP hD hS hA 9 rfl rfl rfl [9] [0, 1, 2, 3, 4, 5, 6, 7, 8] rfl rfl rfl rfl rfl hl.1 rfl (Nat.le_of_ble_eq_true rfl) d_17_9_47 ⟨Nat.le_of_ble_eq_true rfl, Nat.le_of_ble_eq_true rfl⟩ (fun u17 H locs hP hD hS => ?_)
  have hP : va_P z.1 classes [(q0, .inl (z.2 8, 8, .inr (.inr (.inr (.inr (va_up (va_up (va_up (va_up (va_up (va_up (va_up (va_up g91 0 (some (r1 0))) 1 (some (r1 1))) 2 (some (r1 2))) 3 (some (r1 3))) 4 (some (r1 4))) 5 (some (r1 5))) 6 (some (r1 6))) 7 (some (r1 7)))))))), ((r1 0), .inl (z.2 0, 8, .inl (fun _ => 0))), ((r1 1), .inl (z.2 0, 8, .inl (fun _ => 0))), ((r1 2), .inl (z.2 0, 8, .inl (fun _ => 0))), ((r1 3), .inl (z.2 0, 8, .inl (fun _ => 0))), ((r1 4), .inl (z.2 0, 8, .inl (fun _ => 0))), ((r1 5), .inl (z.2 0, 8, .inl (fun _ => 0))), ((r1 6), .inl (z.2 0, 8, .inl (fun _ => 0))), ((r1 7), .inl (z.2 0, 8, .inl (fun _ => 0))), (a0, .inr (14, [.ref a1, .int 0, .ref a2, .ref a3, .int 0, .ref a4, .ref q0]))] H := hP
  have hD : va_D A [(q0, .inl (z.2 8, 8, .inr (.inr (.inr (.inr (va_up (va_up (va_up (va_up (va_up (va_up (va_up (va_up g91 0 (some (r1 0))) 1 (some (r1 1))) 2 (some (r1 2))) 3 (some (r1 3))) 4 (some (r1 4))) 5 (some (r1 5))) 6 (some (r1 6))) 7 (some (r1 7)))))))), ((r1 0), .inl (z.2 0, 8, .inl (fun _ => 0))), ((r1 1), .inl (z.2 0, 8, .inl (fun _ => 0))), ((r1 2), .inl (z.2 0, 8, .inl (fun _ => 0))), ((r1 3), .inl (z.2 0, 8, .inl (fun _ => 0))), ((r1 4), .inl (z.2 0, 8, .inl (fun _ => 0))), ((r1 5), .inl (z.2 0, 8, .inl (fun _ => 0))), ((r1 6), .inl (z.2 0, 8, .inl (fun _ => 0))), ((r1 7), .inl (z.2 0, 8, .inl (fun _ => 0))), (a0, .inr (14, [.ref a1, .int 0, .ref a2, .ref a3, .int 0, .ref a4, .ref q0]))] := hD
  refine W.eq (g2 := F0 m 50 ls [.int 0]) rfl ?_
  refine lv_if_eq (tgt := 70) hx hb d_17_9_50 (by decide) (fun _ => ?_) (fun c9 => absurd (by decide +kernel) c9)
  refine lv_iconst (v := 0) hx hb d_17_9_70 (by decide +kernel) ?_
  refine lv_istore (lv' := [(4, .int 0), (3, .int 4), (2, .int 2), (1, .ref q0), (0, .ref a0)]) hx hb d_17_9_71 hl (by decide) rfl (fun ls hl => ?_)
  refine lv_aload_n hx hb d_17_9_73 rfl (lv_at hl 3 rfl) ?_
  refine lv_iload_n hx hb d_17_9_74 rfl (lv_at hl 2 rfl) ?_
  refine va_alda hx hb hG.1 hP 0 8 rfl rfl (vin rfl) d_17_9_75 ?_
  refine W.eq (g2 := F0 m 76 ls [.ref (r1 2)]) rfl ?_
  refine lv_iload_n hx hb d_17_9_76 rfl (lv_at hl 1 rfl) ?_
  refine lv_iload hx hb d_17_9_77 (lv_at hl 0 rfl) ?_
  refine lv_if_le (tgt := 98) hx hb d_17_9_79 (by decide) (fun _ => ?_) (fun c9 => absurd (by decide +kernel) c9)
  refine lv_iconst (v := 0) hx hb d_17_9_98 (by decide +kernel) ?_
  refine va_iast hx hb hG.1 hP hD hS 3 0 rfl rfl (vin rfl) d_17_9_99 (fun H locs hP hD hS => ?_)
  rw [upd_z] at hP hD
  have hP : va_P z.1 classes [(q0, .inl (z.2 8, 8, .inr (.inr (.inr (.inr (va_up (va_up (va_up (va_up (va_up (va_up (va_up (va_up g91 0 (some (r1 0))) 1 (some (r1 1))) 2 (some (r1 2))) 3 (some (r1 3))) 4 (some (r1 4))) 5 (some (r1 5))) 6 (some (r1 6))) 7 (some (r1 7)))))))), ((r1 0), .inl (z.2 0, 8, .inl (fun _ => 0))), ((r1 1), .inl (z.2 0, 8, .inl (fun _ => 0))), ((r1 2), .inl (z.2 0, 8, .inl (fun _ => 0))), ((r1 3), .inl (z.2 0, 8, .inl (fun _ => 0))), ((r1 4), .inl (z.2 0, 8, .inl (fun _ => 0))), ((r1 5), .inl (z.2 0, 8, .inl (fun _ => 0))), ((r1 6), .inl (z.2 0, 8, .inl (fun _ => 0))), ((r1 7), .inl (z.2 0, 8, .inl (fun _ => 0))), (a0, .inr (14, [.ref a1, .int 0, .ref a2, .ref a3, .int 0, .ref a4, .ref q0]))] H := hP
  have hD : va_D A [(q0, .inl (z.2 8, 8, .inr (.inr (.inr (.inr (va_up (va_up (va_up (va_up (va_up (va_up (va_up (va_up g91 0 (some (r1 0))) 1 (some (r1 1))) 2 (some (r1 2))) 3 (some (r1 3))) 4 (some (r1 4))) 5 (some (r1 5))) 6 (some (r1 6))) 7 (some (r1 7)))))))), ((r1 0), .inl (z.2 0, 8, .inl (fun _ => 0))), ((r1 1), .inl (z.2 0, 8, .inl (fun _ => 0))), ((r1 2), .inl (z.2 0, 8, .inl (fun _ => 0))), ((r1 3), .inl (z.2 0, 8, .inl (fun _ => 0))), ((r1 4), .inl (z.2 0, 8, .inl (fun _ => 0))), ((r1 5), .inl (z.2 0, 8, .inl (fun _ => 0))), ((r1 6), .inl (z.2 0, 8, .inl (fun _ => 0))), ((r1 7), .inl (z.2 0, 8, .inl (fun _ => 0))), (a0, .inr (14, [.ref a1, .int 0, .ref a2, .ref a3, .int 0, .ref a4, .ref q0]))] := hD
  refine lv_iinc (v := 5) (lv' := [(3, .int 5), (4, .int 0), (2, .int 2), (1, .ref q0), (0, .ref a0)]) hx hb d_17_9_100 hl (k := 1) rfl (by decide +kernel) (by decide) rfl (fun ls hl => ?_)
  refine lv_goto (tgt := 34) hx hb d_17_9_103 (by decide) ?_
  refine lv_iload_n hx hb d_17_9_34 rfl (lv_at hl 0 rfl) ?_
  refine lv_bipush (v := 8) hx hb d_17_9_35 (by decide +kernel) ?_
  refine lv_icmp_ge (tgt := 106) hx hb d_17_9_37 (by decide) (fun c9 => absurd c9 (by decide +kernel)) (fun _ => ?_)
  refine lv_iload_n hx hb d_17_9_40 rfl (lv_at hl 2 rfl) ?_
  refine lv_iload_n hx hb d_17_9_41 rfl (lv_at hl 0 rfl) ?_
  refine lv_icmp_eq (tgt := 70) hx hb d_17_9_42 (by decide) (fun c9 => absurd c9 (by decide +kernel)) (fun _ => ?_)
  refine lv_aload_n hx hb d_17_9_45 rfl (lv_at hl 4 rfl) ?_
  refine lv_iload_n hx hb d_17_9_46 rfl (lv_at hl 2 rfl) ?_
  refine kV (As := [.int 2]) (rest := []) (wr := [(q0, .inl (z.2 8, 8, .inr (.inr (.inr (.inr (va_up (va_up (va_up (va_up (va_up (va_up (va_up (va_up g91 0 (some (r1 0))) 1 (some (r1 1))) 2 (some (r1 2))) 3 (some (r1 3))) 4 (some (r1 4))) 5 (some (r1 5))) 6 (some (r1 6))) 7 (some (r1 7)))))))), ((r1 0), .inl (z.2 0, 8, .inl (fun _ => 0))), ((r1 1), .inl (z.2 0, 8, .inl (fun _ => 0))), ((r1 2), .inl (z.2 0, 8, .inl (fun _ => 0))), ((r1 3), .inl (z.2 0, 8, .inl (fun _ => 0))), ((r1 4), .inl (z.2 0, 8, .inl (fun _ => 0))), ((r1 5), .inl (z.2 0, 8, .inl (fun _ => 0))), ((r1 6), .inl (z.2 0, 8, .inl (fun _ => 0))), ((r1 7), .inl (z.2 0, 8, .inl (fun _ => 0)))]) (c304_Poll_isIn l z a0 a1 a2 a3 a4 q0) hx hb hml hown hts w_2302 w_2299 w_2300 w_2301 w_36 md_2288df ⟨Nat.le_of_ble_eq_true rfl, Nat.le_of_ble_eq_true rfl⟩ hG hZ hP hD hS hA 9 rfl rfl rfl [9] [0, 1, 2, 3, 4, 5, 6, 7, 8] rfl rfl rfl rfl rfl hl.1 rfl (Nat.le_of_ble_eq_true rfl) d_17_9_47 ⟨Nat.le_of_ble_eq_true rfl, Nat.le_of_ble_eq_true rfl⟩ (fun u18 H locs hP hD hS => ?_)
  have hP : va_P z.1 classes [(q0, .inl (z.2 8, 8, .inr (.inr (.inr (.inr (va_up (va_up (va_up (va_up (va_up (va_up (va_up (va_up g91 0 (some (r1 0))) 1 (some (r1 1))) 2 (some (r1 2))) 3 (some (r1 3))) 4 (some (r1 4))) 5 (some (r1 5))) 6 (some (r1 6))) 7 (some (r1 7)))))))), ((r1 0), .inl (z.2 0, 8, .inl (fun _ => 0))), ((r1 1), .inl (z.2 0, 8, .inl (fun _ => 0))), ((r1 2), .inl (z.2 0, 8, .inl (fun _ => 0))), ((r1 3), .inl (z.2 0, 8, .inl (fun _ => 0))), ((r1 4), .inl (z.2 0, 8, .inl (fun _ => 0))), ((r1 5), .inl (z.2 0, 8, .inl (fun _ => 0))), ((r1 6), .inl (z.2 0, 8, .inl (fun _ => 0))), ((r1 7), .inl (z.2 0, 8, .inl (fun _ => 0))), (a0, .inr (14, [.ref a1, .int 0, .ref a2, .ref a3, .int 0, .ref a4, .ref q0]))] H := hP
  have hD : va_D A [(q0, .inl (z.2 8, 8, .inr (.inr (.inr (.inr (va_up (va_up (va_up (va_up (va_up (va_up (va_up (va_up g91 0 (some (r1 0))) 1 (some (r1 1))) 2 (some (r1 2))) 3 (some (r1 3))) 4 (some (r1 4))) 5 (some (r1 5))) 6 (some (r1 6))) 7 (some (r1 7)))))))), ((r1 0), .inl (z.2 0, 8, .inl (fun _ => 0))), ((r1 1), .inl (z.2 0, 8, .inl (fun _ => 0))), ((r1 2), .inl (z.2 0, 8, .inl (fun _ => 0))), ((r1 3), .inl (z.2 0, 8, .inl (fun _ => 0))), ((r1 4), .inl (z.2 0, 8, .inl (fun _ => 0))), ((r1 5), .inl (z.2 0, 8, .inl (fun _ => 0))), ((r1 6), .inl (z.2 0, 8, .inl (fun _ => 0))), ((r1 7), .inl (z.2 0, 8, .inl (fun _ => 0))), (a0, .inr (14, [.ref a1, .int 0, .ref a2, .ref a3, .int 0, .ref a4, .ref q0]))] := hD
  refine W.eq (g2 := F0 m 50 ls [.int 0]) rfl ?_
  refine lv_if_eq (tgt := 70) hx hb d_17_9_50 (by decide) (fun _ => ?_) (fun c9 => absurd (by decide +kernel) c9)
  refine lv_iconst (v := 0) hx hb d_17_9_70 (by decide +kernel) ?_
  refine lv_istore (lv' := [(4, .int 0), (3, .int 5), (2, .int 2), (1, .ref q0), (0, .ref a0)]) hx hb d_17_9_71 hl (by decide) rfl (fun ls hl => ?_)
  refine lv_aload_n hx hb d_17_9_73 rfl (lv_at hl 3 rfl) ?_
  refine lv_iload_n hx hb d_17_9_74 rfl (lv_at hl 2 rfl) ?_
  refine va_alda hx hb hG.1 hP 0 8 rfl rfl (vin rfl) d_17_9_75 ?_
  refine W.eq (g2 := F0 m 76 ls [.ref (r1 2)]) rfl ?_
  refine lv_iload_n hx hb d_17_9_76 rfl (lv_at hl 1 rfl) ?_
  refine lv_iload hx hb d_17_9_77 (lv_at hl 0 rfl) ?_
  refine lv_if_le (tgt := 98) hx hb d_17_9_79 (by decide) (fun _ => ?_) (fun c9 => absurd (by decide +kernel) c9)
  refine lv_iconst (v := 0) hx hb d_17_9_98 (by decide +kernel) ?_
  refine va_iast hx hb hG.1 hP hD hS 3 0 rfl rfl (vin rfl) d_17_9_99 (fun H locs hP hD hS => ?_)
  rw [upd_z] at hP hD
  have hP : va_P z.1 classes [(q0, .inl (z.2 8, 8, .inr (.inr (.inr (.inr (va_up (va_up (va_up (va_up (va_up (va_up (va_up (va_up g91 0 (some (r1 0))) 1 (some (r1 1))) 2 (some (r1 2))) 3 (some (r1 3))) 4 (some (r1 4))) 5 (some (r1 5))) 6 (some (r1 6))) 7 (some (r1 7)))))))), ((r1 0), .inl (z.2 0, 8, .inl (fun _ => 0))), ((r1 1), .inl (z.2 0, 8, .inl (fun _ => 0))), ((r1 2), .inl (z.2 0, 8, .inl (fun _ => 0))), ((r1 3), .inl (z.2 0, 8, .inl (fun _ => 0))), ((r1 4), .inl (z.2 0, 8, .inl (fun _ => 0))), ((r1 5), .inl (z.2 0, 8, .inl (fun _ => 0))), ((r1 6), .inl (z.2 0, 8, .inl (fun _ => 0))), ((r1 7), .inl (z.2 0, 8, .inl (fun _ => 0))), (a0, .inr (14, [.ref a1, .int 0, .ref a2, .ref a3, .int 0, .ref a4, .ref q0]))] H := hP
  have hD : va_D A [(q0, .inl (z.2 8, 8, .inr (.inr (.inr (.inr (va_up (va_up (va_up (va_up (va_up (va_up (va_up (va_up g91 0 (some (r1 0))) 1 (some (r1 1))) 2 (some (r1 2))) 3 (some (r1 3))) 4 (some (r1 4))) 5 (some (r1 5))) 6 (some (r1 6))) 7 (some (r1 7)))))))), ((r1 0), .inl (z.2 0, 8, .inl (fun _ => 0))), ((r1 1), .inl (z.2 0, 8, .inl (fun _ => 0))), ((r1 2), .inl (z.2 0, 8, .inl (fun _ => 0))), ((r1 3), .inl (z.2 0, 8, .inl (fun _ => 0))), ((r1 4), .inl (z.2 0, 8, .inl (fun _ => 0))), ((r1 5), .inl (z.2 0, 8, .inl (fun _ => 0))), ((r1 6), .inl (z.2 0, 8, .inl (fun _ => 0))), ((r1 7), .inl (z.2 0, 8, .inl (fun _ => 0))), (a0, .inr (14, [.ref a1, .int 0, .ref a2, .ref a3, .int 0, .ref a4, .ref q0]))] := hD
  refine lv_iinc (v := 6) (lv' := [(3, .int 6), (4, .int 0), (2, .int 2), (1, .ref q0), (0, .ref a0)]) hx hb d_17_9_100 hl (k := 1) rfl (by decide +kernel) (by decide) rfl (fun ls hl => ?_)
  refine lv_goto (tgt := 34) hx hb d_17_9_103 (by decide) ?_
  refine lv_iload_n hx hb d_17_9_34 rfl (lv_at hl 0 rfl) ?_
  refine lv_bipush (v := 8) hx hb d_17_9_35 (by decide +kernel) ?_
  refine lv_icmp_ge (tgt := 106) hx hb d_17_9_37 (by decide) (fun c9 => absurd c9 (by decide +kernel)) (fun _ => ?_)
  refine lv_iload_n hx hb d_17_9_40 rfl (lv_at hl 2 rfl) ?_
  refine lv_iload_n hx hb d_17_9_41 rfl (lv_at hl 0 rfl) ?_
  refine lv_icmp_eq (tgt := 70) hx hb d_17_9_42 (by decide) (fun c9 => absurd c9 (by decide +kernel)) (fun _ => ?_)
  refine lv_aload_n hx hb d_17_9_45 rfl (lv_at hl 4 rfl) ?_
  refine lv_iload_n hx hb d_17_9_46 rfl (lv_at hl 2 rfl) ?_
  refine kV (As := [.int 2]) (rest := []) (wr := [(q0, .inl (z.2 8, 8, .inr (.inr (.inr (.inr (va_up (va_up (va_up (va_up (va_up (va_up (va_up (va_up g91 0 (some (r1 0))) 1 (some (r1 1))) 2 (some (r1 2))) 3 (some (r1 3))) 4 (some (r1 4))) 5 (some (r1 5))) 6 (some (r1 6))) 7 (some (r1 7)))))))), ((r1 0), .inl (z.2 0, 8, .inl (fun _ => 0))), ((r1 1), .inl (z.2 0, 8, .inl (fun _ => 0))), ((r1 2), .inl (z.2 0, 8, .inl (fun _ => 0))), ((r1 3), .inl (z.2 0, 8, .inl (fun _ => 0))), ((r1 4), .inl (z.2 0, 8, .inl (fun _ => 0))), ((r1 5), .inl (z.2 0, 8, .inl (fun _ => 0))), ((r1 6), .inl (z.2 0, 8, .inl (fun _ => 0))), ((r1 7), .inl (z.2 0, 8, .inl (fun _ => 0)))]) (c304_Poll_isIn l z a0 a1 a2 a3 a4 q0) hx hb hml hown hts w_2302 w_2299 w_2300 w_2301 w_36 md_2288df ⟨Nat.le_of_ble_eq_true rfl, Nat.le_of_ble_eq_true rfl⟩ hG hZ hP hD hS hA 9 rfl rfl rfl [9] [0, 1, 2, 3, 4, 5, 6, 7, 8] rfl rfl rfl rfl rfl hl.1 rfl (Nat.le_of_ble_eq_true rfl) d_17_9_47 ⟨Nat.le_of_ble_eq_true rfl, Nat.le_of_ble_eq_true rfl⟩ (fun u19 H locs hP hD hS => ?_)
  have hP : va_P z.1 classes [(q0, .inl (z.2 8, 8, .inr (.inr (.inr (.inr (va_up (va_up (va_up (va_up (va_up (va_up (va_up (va_up g91 0 (some (r1 0))) 1 (some (r1 1))) 2 (some (r1 2))) 3 (some (r1 3))) 4 (some (r1 4))) 5 (some (r1 5))) 6 (some (r1 6))) 7 (some (r1 7)))))))), ((r1 0), .inl (z.2 0, 8, .inl (fun _ => 0))), ((r1 1), .inl (z.2 0, 8, .inl (fun _ => 0))), ((r1 2), .inl (z.2 0, 8, .inl (fun _ => 0))), ((r1 3), .inl (z.2 0, 8, .inl (fun _ => 0))), ((r1 4), .inl (z.2 0, 8, .inl (fun _ => 0))), ((r1 5), .inl (z.2 0, 8, .inl (fun _ => 0))), ((r1 6), .inl (z.2 0, 8, .inl (fun _ => 0))), ((r1 7), .inl (z.2 0, 8, .inl (fun _ => 0))), (a0, .inr (14, [.ref a1, .int 0, .ref a2, .ref a3, .int 0, .ref a4, .ref q0]))] H := hP
  have hD : va_D A [(q0, .inl (z.2 8, 8, .inr (.inr (.inr (.inr (va_up (va_up (va_up (va_up (va_up (va_up (va_up (va_up g91 0 (some (r1 0))) 1 (some (r1 1))) 2 (some (r1 2))) 3 (some (r1 3))) 4 (some (r1 4))) 5 (some (r1 5))) 6 (some (r1 6))) 7 (some (r1 7)))))))), ((r1 0), .inl (z.2 0, 8, .inl (fun _ => 0))), ((r1 1), .inl (z.2 0, 8, .inl (fun _ => 0))), ((r1 2), .inl (z.2 0, 8, .inl (fun _ => 0))), ((r1 3), .inl (z.2 0, 8, .inl (fun _ => 0))), ((r1 4), .inl (z.2 0, 8, .inl (fun _ => 0))), ((r1 5), .inl (z.2 0, 8, .inl (fun _ => 0))), ((r1 6), .inl (z.2 0, 8, .inl (fun _ => 0))), ((r1 7), .inl (z.2 0, 8, .inl (fun _ => 0))), (a0, .inr (14, [.ref a1, .int 0, .ref a2, .ref a3, .int 0, .ref a4, .ref q0]))] := hD
  refine W.eq (g2 := F0 m 50 ls [.int 0]) rfl ?_
  refine lv_if_eq (tgt := 70) hx hb d_17_9_50 (by decide) (fun _ => ?_) (fun c9 => absurd (by decide +kernel) c9)
  refine lv_iconst (v := 0) hx hb d_17_9_70 (by decide +kernel) ?_
  refine lv_istore (lv' := [(4, .int 0), (3, .int 6), (2, .int 2), (1, .ref q0), (0, .ref a0)]) hx hb d_17_9_71 hl (by decide) rfl (fun ls hl => ?_)
  refine lv_aload_n hx hb d_17_9_73 rfl (lv_at hl 3 rfl) ?_
  refine lv_iload_n hx hb d_17_9_74 rfl (lv_at hl 2 rfl) ?_
  refine va_alda hx hb hG.1 hP 0 8 rfl rfl (vin rfl) d_17_9_75 ?_
  refine W.eq (g2 := F0 m 76 ls [.ref (r1 2)]) rfl ?_
  refine lv_iload_n hx hb d_17_9_76 rfl (lv_at hl 1 rfl) ?_
  refine lv_iload hx hb d_17_9_77 (lv_at hl 0 rfl) ?_
  refine lv_if_le (tgt := 98) hx hb d_17_9_79 (by decide) (fun _ => ?_) (fun c9 => absurd (by decide +kernel) c9)
  refine lv_iconst (v := 0) hx hb d_17_9_98 (by decide +kernel) ?_
  refine va_iast hx hb hG.1 hP hD hS 3 0 rfl rfl (vin rfl) d_17_9_99 (fun H locs hP hD hS => ?_)
  rw [upd_z] at hP hD
  have hP : va_P z.1 classes [(q0, .inl (z.2 8, 8, .inr (.inr (.inr (.inr (va_up (va_up (va_up (va_up (va_up (va_up (va_up (va_up g91 0 (some (r1 0))) 1 (some (r1 1))) 2 (some (r1 2))) 3 (some (r1 3))) 4 (some (r1 4))) 5 (some (r1 5))) 6 (some (r1 6))) 7 (some (r1 7)))))))), ((r1 0), .inl (z.2 0, 8, .inl (fun _ => 0))), ((r1 1), .inl (z.2 0, 8, .inl (fun _ => 0))), ((r1 2), .inl (z.2 0, 8, .inl (fun _ => 0))), ((r1 3), .inl (z.2 0, 8, .inl (fun _ => 0))), ((r1 4), .inl (z.2 0, 8, .inl (fun _ => 0))), ((r1 5), .inl (z.2 0, 8, .inl (fun _ => 0))), ((r1 6), .inl (z.2 0, 8, .inl (fun _ => 0))), ((r1 7), .inl (z.2 0, 8, .inl (fun _ => 0))), (a0, .inr (14, [.ref a1, .int 0, .ref a2, .ref a3, .int 0, .ref a4, .ref q0]))] H := hP
  have hD : va_D A [(q0, .inl (z.2 8, 8, .inr (.inr (.inr (.inr (va_up (va_up (va_up (va_up (va_up (va_up (va_up (va_up g91 0 (some (r1 0))) 1 (some (r1 1))) 2 (some (r1 2))) 3 (some (r1 3))) 4 (some (r1 4))) 5 (some (r1 5))) 6 (some (r1 6))) 7 (some (r1 7)))))))), ((r1 0), .inl (z.2 0, 8, .inl (fun _ => 0))), ((r1 1), .inl (z.2 0, 8, .inl (fun _ => 0))), ((r1 2), .inl (z.2 0, 8, .inl (fun _ => 0))), ((r1 3), .inl (z.2 0, 8, .inl (fun _ => 0))), ((r1 4), .inl (z.2 0, 8, .inl (fun _ => 0))), ((r1 5), .inl (z.2 0, 8, .inl (fun _ => 0))), ((r1 6), .inl (z.2 0, 8, .inl (fun _ => 0))), ((r1 7), .inl (z.2 0, 8, .inl (fun _ => 0))), (a0, .inr (14, [.ref a1, .int 0, .ref a2, .ref a3, .int 0, .ref a4, .ref q0]))] := hD
  refine lv_iinc (v := 7) (lv' := [(3, .int 7), (4, .int 0), (2, .int 2), (1, .ref q0), (0, .ref a0)]) hx hb d_17_9_100 hl (k := 1) rfl (by decide +kernel) (by decide) rfl (fun ls hl => ?_)
  refine lv_goto (tgt := 34) hx hb d_17_9_103 (by decide) ?_
  refine lv_iload_n hx hb d_17_9_34 rfl (lv_at hl 0 rfl) ?_
  refine lv_bipush (v := 8) hx hb d_17_9_35 (by decide +kernel) ?_
  refine lv_icmp_ge (tgt := 106) hx hb d_17_9_37 (by decide) (fun c9 => absurd c9 (by decide +kernel)) (fun _ => ?_)
  refine lv_iload_n hx hb d_17_9_40 rfl (lv_at hl 2 rfl) ?_
  refine lv_iload_n hx hb d_17_9_41 rfl (lv_at hl 0 rfl) ?_
  refine lv_icmp_eq (tgt := 70) hx hb d_17_9_42 (by decide) (fun c9 => absurd c9 (by decide +kernel)) (fun _ => ?_)
  refine lv_aload_n hx hb d_17_9_45 rfl (lv_at hl 4 rfl) ?_
  refine lv_iload_n hx hb d_17_9_46 rfl (lv_at hl 2 rfl) ?_
  refine kV (As := [.int 2]) (rest := []) (wr := [(q0, .inl (z.2 8, 8, .inr (.inr (.inr (.inr (va_up (va_up (va_up (va_up (va_up (va_up (va_up (va_up g91 0 (some (r1 0))) 1 (some (r1 1))) 2 (some (r1 2))) 3 (some (r1 3))) 4 (some (r1 4))) 5 (some (r1 5))) 6 (some (r1 6))) 7 (some (r1 7)))))))), ((r1 0), .inl (z.2 0, 8, .inl (fun _ => 0))), ((r1 1), .inl (z.2 0, 8, .inl (fun _ => 0))), ((r1 2), .inl (z.2 0, 8, .inl (fun _ => 0))), ((r1 3), .inl (z.2 0, 8, .inl (fun _ => 0))), ((r1 4), .inl (z.2 0, 8, .inl (fun _ => 0))), ((r1 5), .inl (z.2 0, 8, .inl (fun _ => 0))), ((r1 6), .inl (z.2 0, 8, .inl (fun _ => 0))), ((r1 7), .inl (z.2 0, 8, .inl (fun _ => 0)))]) (c304_Poll_isIn l z a0 a1 a2 a3 a4 q0) hx hb hml hown hts w_2302 w_2299 w_2300 w_2301 w_36 md_2288df ⟨Nat.le_of_ble_eq_true rfl, Nat.le_of_ble_eq_true rfl⟩ hG hZ hP hD hS hA 9 rfl rfl rfl [9] [0, 1, 2, 3, 4, 5, 6, 7, 8] rfl rfl rfl rfl rfl hl.1 rfl (Nat.le_of_ble_eq_true rfl) d_17_9_47 ⟨Nat.le_of_ble_eq_true rfl, Nat.le_of_ble_eq_true rfl⟩ (fun u20 H locs hP hD hS => ?_)
  have hP : va_P z.1 classes [(q0, .inl (z.2 8, 8, .inr (.inr (.inr (.inr (va_up (va_up (va_up (va_up (va_up (va_up (va_up (va_up g91 0 (some (r1 0))) 1 (some (r1 1))) 2 (some (r1 2))) 3 (some (r1 3))) 4 (some (r1 4))) 5 (some (r1 5))) 6 (some (r1 6))) 7 (some (r1 7)))))))), ((r1 0), .inl (z.2 0, 8, .inl (fun _ => 0))), ((r1 1), .inl (z.2 0, 8, .inl (fun _ => 0))), ((r1 2), .inl (z.2 0, 8, .inl (fun _ => 0))), ((r1 3), .inl (z.2 0, 8, .inl (fun _ => 0))), ((r1 4), .inl (z.2 0, 8, .inl (fun _ => 0))), ((r1 5), .inl (z.2 0, 8, .inl (fun _ => 0))), ((r1 6), .inl (z.2 0, 8, .inl (fun _ => 0))), ((r1 7), .inl (z.2 0, 8, .inl (fun _ => 0))), (a0, .inr (14, [.ref a1, .int 0, .ref a2, .ref a3, .int 0, .ref a4, .ref q0]))] H := hP
  have hD : va_D A [(q0, .inl (z.2 8, 8, .inr (.inr (.inr (.inr (va_up (va_up (va_up (va_up (va_up (va_up (va_up (va_up g91 0 (some (r1 0))) 1 (some (r1 1))) 2 (some (r1 2))) 3 (some (r1 3))) 4 (some (r1 4))) 5 (some (r1 5))) 6 (some (r1 6))) 7 (some (r1 7)))))))), ((r1 0), .inl (z.2 0, 8, .inl (fun _ => 0))), ((r1 1), .inl (z.2 0, 8, .inl (fun _ => 0))), ((r1 2), .inl (z.2 0, 8, .inl (fun _ => 0))), ((r1 3), .inl (z.2 0, 8, .inl (fun _ => 0))), ((r1 4), .inl (z.2 0, 8, .inl (fun _ => 0))), ((r1 5), .inl (z.2 0, 8, .inl (fun _ => 0))), ((r1 6), .inl (z.2 0, 8, .inl (fun _ => 0))), ((r1 7), .inl (z.2 0, 8, .inl (fun _ => 0))), (a0, .inr (14, [.ref a1, .int 0, .ref a2, .ref a3, .int 0, .ref a4, .ref q0]))] := hD
  refine W.eq (g2 := F0 m 50 ls [.int 0]) rfl ?_
  refine lv_if_eq (tgt := 70) hx hb d_17_9_50 (by decide) (fun _ => ?_) (fun c9 => absurd (by decide +kernel) c9)
  refine lv_iconst (v := 0) hx hb d_17_9_70 (by decide +kernel) ?_
  refine lv_istore (lv' := [(4, .int 0), (3, .int 7), (2, .int 2), (1, .ref q0), (0, .ref a0)]) hx hb d_17_9_71 hl (by decide) rfl (fun ls hl => ?_)
  refine lv_aload_n hx hb d_17_9_73 rfl (lv_at hl 3 rfl) ?_
  refine lv_iload_n hx hb d_17_9_74 rfl (lv_at hl 2 rfl) ?_
  refine va_alda hx hb hG.1 hP 0 8 rfl rfl (vin rfl) d_17_9_75 ?_
  refine W.eq (g2 := F0 m 76 ls [.ref (r1 2)]) rfl ?_
  refine lv_iload_n hx hb d_17_9_76 rfl (lv_at hl 1 rfl) ?_
  refine lv_iload hx hb d_17_9_77 (lv_at hl 0 rfl) ?_
  refine lv_if_le (tgt := 98) hx hb d_17_9_79 (by decide) (fun _ => ?_) (fun c9 => absurd (by decide +kernel) c9)
  refine lv_iconst (v := 0) hx hb d_17_9_98 (by decide +kernel) ?_
  refine va_iast hx hb hG.1 hP hD hS 3 0 rfl rfl (vin rfl) d_17_9_99 (fun H locs hP hD hS => ?_)
  rw [upd_z] at hP hD
  have hP : va_P z.1 classes [(q0, .inl (z.2 8, 8, .inr (.inr (.inr (.inr (va_up (va_up (va_up (va_up (va_up (va_up (va_up (va_up g91 0 (some (r1 0))) 1 (some (r1 1))) 2 (some (r1 2))) 3 (some (r1 3))) 4 (some (r1 4))) 5 (some (r1 5))) 6 (some (r1 6))) 7 (some (r1 7)))))))), ((r1 0), .inl (z.2 0, 8, .inl (fun _ => 0))), ((r1 1), .inl (z.2 0, 8, .inl (fun _ => 0))), ((r1 2), .inl (z.2 0, 8, .inl (fun _ => 0))), ((r1 3), .inl (z.2 0, 8, .inl (fun _ => 0))), ((r1 4), .inl (z.2 0, 8, .inl (fun _ => 0))), ((r1 5), .inl (z.2 0, 8, .inl (fun _ => 0))), ((r1 6), .inl (z.2 0, 8, .inl (fun _ => 0))), ((r1 7), .inl (z.2 0, 8, .inl (fun _ => 0))), (a0, .inr (14, [.ref a1, .int 0, .ref a2, .ref a3, .int 0, .ref a4, .ref q0]))] H := hP
  have hD : va_D A [(q0, .inl (z.2 8, 8, .inr (.inr (.inr (.inr (va_up (va_up (va_up (va_up (va_up (va_up (va_up (va_up g91 0 (some (r1 0))) 1 (some (r1 1))) 2 (some (r1 2))) 3 (some (r1 3))) 4 (some (r1 4))) 5 (some (r1 5))) 6 (some (r1 6))) 7 (some (r1 7)))))))), ((r1 0), .inl (z.2 0, 8, .inl (fun _ => 0))), ((r1 1), .inl (z.2 0, 8, .inl (fun _ => 0))), ((r1 2), .inl (z.2 0, 8, .inl (fun _ => 0))), ((r1 3), .inl (z.2 0, 8, .inl (fun _ => 0))), ((r1 4), .inl (z.2 0, 8, .inl (fun _ => 0))), ((r1 5), .inl (z.2 0, 8, .inl (fun _ => 0))), ((r1 6), .inl (z.2 0, 8, .inl (fun _ => 0))), ((r1 7), .inl (z.2 0, 8, .inl (fun _ => 0))), (a0, .inr (14, [.ref a1, .int 0, .ref a2, .ref a3, .int 0, .ref a4, .ref q0]))] := hD
  refine lv_iinc (v := 8) (lv' := [(3, .int 8), (4, .int 0), (2, .int 2), (1, .ref q0), (0, .ref a0)]) hx hb d_17_9_100 hl (k := 1) rfl (by decide +kernel) (by decide) rfl (fun ls hl => ?_)
  refine lv_goto (tgt := 34) hx hb d_17_9_103 (by decide) ?_
  refine lv_iload_n hx hb d_17_9_34 rfl (lv_at hl 0 rfl) ?_
  refine lv_bipush (v := 8) hx hb d_17_9_35 (by decide +kernel) ?_
  refine lv_icmp_ge (tgt := 106) hx hb d_17_9_37 (by decide) (fun _ => ?_) (fun c9 => absurd (by decide +kernel) c9)
  refine lv_iinc (v := 3) (lv' := [(2, .int 3), (3, .int 8), (4, .int 0), (1, .ref q0), (0, .ref a0)]) hx hb d_17_9_106 hl (k := 2) rfl (by decide +kernel) (by decide) rfl (fun ls hl => ?_)
  refine lv_goto (tgt := 26) hx hb d_17_9_109 (by decide) ?_
  refine W.widen (k := 9) (n := 72) (Nat.le_of_ble_eq_true rfl) (Nat.le_of_ble_eq_true rfl) ?_
  exact hk H locs ls hP hD hS hl
