set_option maxRecDepth 100000 in
set_option maxHeartbeats 4000000 in
theorem c547_B_needRange (l : Launch) (z : Zz) (hl0 : l.stackTraces = false) (x0 : Int32) (h0 : ¬ x0 < 0) (h1 : 100000 < x0) : XT l z ⟨"Ballothall", "needRange", "(III)V"⟩ prog_1_method_57_code 3 none [.int x0, .int 0, .int 100000] [] 6 98 1 6 "java/lang/IllegalArgumentException" := by
  refine XT.of (own := "Ballothall") (by decide +kernel) (Nat.le_of_ble_eq_true rfl) rfl (fun p e s m below meth c A ls hx hb hml hr hts hown hlocks hin hA hG hZ hP hD hS hl hnt => ?_)
  have hl : lv_has ls 3 [(0, .int x0), (1, .int 0), (2, .int 100000)] := hl
  refine lv_iload_n hx hb d_1_57_0 rfl (lv_at hl 0 rfl) ?_
  refine lv_iload_n hx hb d_1_57_1 rfl (lv_at hl 1 rfl) ?_
  refine lv_icmp_lt (tgt := 10) hx hb d_1_57_2 (by decide) (fun c9 => absurd c9 h0) (fun _ => ?_)
  refine lv_iload_n hx hb d_1_57_5 rfl (lv_at hl 0 rfl) ?_
  refine lv_iload_n hx hb d_1_57_6 rfl (lv_at hl 2 rfl) ?_
  refine lv_icmp_le (tgt := 21) hx hb d_1_57_7 (by decide) (fun c9 => absurd c9 (Int32.not_le.mpr h1)) (fun _ => ?_)
  exact x_newW (text := "out of range") hl0 hx hb hml hown hts hlocks hnt hG hZ hS hl.1 (by decide +kernel) w_877 w_21 (by decide) xa_310_a xa_310_b d_1_57_10 d_1_57_13 d_1_57_14 d_1_57_17 d_1_57_20 ⟨Nat.le_of_ble_eq_true rfl, Nat.le_of_ble_eq_true rfl, Nat.le_of_ble_eq_true rfl, Nat.le_of_ble_eq_true rfl⟩ (Nat.le_of_ble_eq_true rfl) (Nat.le_of_ble_eq_true rfl) (Nat.le_of_ble_eq_true rfl)
set_option maxRecDepth 100000 in
set_option maxHeartbeats 4000000 in
theorem c548_B_ward (l : Launch) (z : Zz) (hl0 : l.stackTraces = false) (a0 : Nat) (x0 : Int32) (x1 : Int32) (x2 : Int32) (h0 : ¬ x0 < 1) (h1 : ¬ 100000 < x0) (h2 : ¬ x1 < 0) (h3 : 100000 < x1) : XT l z ⟨"Ballothall", "ward", "(III)I"⟩ prog_1_method_41_code 5 (some .int) [.ref a0, .int x0, .int x1, .int x2] [] 7 128 1 6 "java/lang/IllegalArgumentException" := by
  refine XT.of (own := "Ballothall") (by decide +kernel) (Nat.le_of_ble_eq_true rfl) rfl (fun p e s m below meth c A ls hx hb hml hr hts hown hlocks hin hA hG hZ hP hD hS hl hnt => ?_)
  have hl : lv_has ls 5 [(0, .ref a0), (1, .int x0), (2, .int x1), (3, .int x2)] := hl
  refine lv_iload_n hx hb d_1_41_0 rfl (lv_at hl 1 rfl) ?_
  refine lv_iconst (v := 1) hx hb d_1_41_1 (by decide +kernel) ?_
  refine lv_ldc hx hb hown (hts _ w_912) d_1_41_2 ?_
  refine kS (As := [.int x0, .int 1, .int 100000]) (rest := []) (wr := []) (c60_B_needRange l z x0 h0 h1) hx hb hml hown hts w_876 w_874 w_875 w_1 md_519134 ⟨Nat.le_of_ble_eq_true rfl, Nat.le_of_ble_eq_true rfl⟩ hG hZ hP hD hS hA [] [] rfl rfl rfl rfl rfl hl.1 rfl (Nat.le_of_ble_eq_true rfl) d_1_41_4 ⟨Nat.le_of_ble_eq_true rfl, Nat.le_of_ble_eq_true rfl⟩ (fun u0 H locs hP hD hS => ?_)
  have hP : va_P z.1 classes [] H := hP
  have hD : va_D A [] := hD
  refine W.eq (g2 := F0 m 7 ls []) rfl ?_
  refine lv_iload_n hx hb d_1_41_7 rfl (lv_at hl 2 rfl) ?_
  refine lv_iconst (v := 0) hx hb d_1_41_8 (by decide +kernel) ?_
  refine lv_ldc hx hb hown (hts _ w_912) d_1_41_9 ?_
  exact xS (As := [.int x1, .int 0, .int 100000]) (rest := []) (wr := []) (c547_B_needRange l z hl0 x1 h2 h3) hx hb hml hown hts w_876 w_874 w_875 w_1 md_519134 ⟨Nat.le_of_ble_eq_true rfl, Nat.le_of_ble_eq_true rfl⟩ hG hZ hP hD hS hA [] [] rfl rfl rfl rfl rfl hl.1 rfl (Nat.le_of_ble_eq_true rfl) d_1_41_11 ⟨Nat.le_of_ble_eq_true rfl, Nat.le_of_ble_eq_true rfl⟩ (fun q9 ce9 H locs hP hD hS h7 h8 h9 => x_out hnt hlocks hS h7 h8 h9 (Nat.le_of_ble_eq_true rfl) (Nat.le_of_ble_eq_true rfl))
set_option maxRecDepth 100000 in
set_option maxHeartbeats 4000000 in
theorem c549_BLaw_ward (l : Launch) (z : Zz) (hl0 : l.stackTraces = false) (a0 a1 a2 a3 a4 a5 a6 a7 a8 a9 a10 a11 a12 : Nat) (x0 : Int32) (x1 : Int32) (x2 : Int32) (h0 : ¬ x0 < 1) (h1 : ¬ 100000 < x0) (h2 : ¬ x1 < 0) (h3 : 100000 < x1) : HT l z ⟨"BallothallLaw", "ward", "(LBallothall;III[J)I"⟩ method_33_code 6 (some .int) [(0, 12, 15, 21), (0, 12, 19, 13)] [.ref a0, .int x0, .int x1, .int x2, .ref a1] [(a0, .inr (11, [.ref a2, .ref a3, .ref a4, .ref a5, .ref a6, .ref a7, .ref a8, .ref a9, .ref a10, .ref a11, .int 0, .int 0, .ref a12, .int 0]))] 8 160 1 6 (fun u => some (.int 1)) (fun u => [(a0, .inr (11, [.ref a2, .ref a3, .ref a4, .ref a5, .ref a6, .ref a7, .ref a8, .ref a9, .ref a10, .ref a11, .int 0, .int 0, .ref a12, .int 0]))]) := by
  refine HT.of (own := "BallothallLaw") (by decide +kernel) (Nat.le_of_ble_eq_true rfl) rfl (fun p e s m below meth c A ls hx hb hml hr hts hown hlocks hin hA hG hZ hP hD hS hl htab => ?_)
  have hl : lv_has ls 6 [(0, .ref a0), (1, .int x0), (2, .int x1), (3, .int x2), (4, .ref a1)] := hl
  refine lv_aload hx hb d_L33_0 (lv_at hl 4 rfl) ?_
  refine lv_iconst (v := 0) hx hb d_L33_2 (by decide +kernel) ?_
  refine lv_aload_n hx hb d_L33_3 rfl (lv_at hl 0 rfl) ?_
  refine lv_iload_n hx hb d_L33_4 rfl (lv_at hl 1 rfl) ?_
  refine lv_iload_n hx hb d_L33_5 rfl (lv_at hl 2 rfl) ?_
  refine lv_iload_n hx hb d_L33_6 rfl (lv_at hl 3 rfl) ?_
  refine xV (As := [.int x0, .int x1, .int x2]) (rest := [.int 0, .ref a1]) (wr := [(a0, .inr (11, [.ref a2, .ref a3, .ref a4, .ref a5, .ref a6, .ref a7, .ref a8, .ref a9, .ref a10, .ref a11, .int 0, .int 0, .ref a12, .int 0]))]) (c548_B_ward l z hl0 a0 x0 x1 x2 h0 h1 h2 h3) hx hb hml hown hts w_1457 w_1454 w_1455 w_1456 w_1 md_8c59c6 ⟨Nat.le_of_ble_eq_true rfl, Nat.le_of_ble_eq_true rfl⟩ hG hZ hP hD hS hA 0 rfl rfl rfl [] [0] rfl rfl rfl rfl rfl hl.1 rfl (Nat.le_of_ble_eq_true rfl) d_L33_7 ⟨Nat.le_of_ble_eq_true rfl, Nat.le_of_ble_eq_true rfl⟩ (fun q0 ce9 H locs hP hD hS h7 h8 h9 => ?_)
  have hP : va_P z.1 classes [(a0, .inr (11, [.ref a2, .ref a3, .ref a4, .ref a5, .ref a6, .ref a7, .ref a8, .ref a9, .ref a10, .ref a11, .int 0, .int 0, .ref a12, .int 0]))] H := hP
  have hD : va_D A [(a0, .inr (11, [.ref a2, .ref a3, .ref a4, .ref a5, .ref a6, .ref a7, .ref a8, .ref a9, .ref a10, .ref a11, .int 0, .int 0, .ref a12, .int 0]))] := hD
  refine vx_catch hown [] ⟨0, 12, 15, 21⟩ [⟨0, 12, 19, 13⟩] (htab.trans rfl) (fun _ h9 => absurd h9 List.not_mem_nil) rfl (by decide) (hts _ w_850) (va_Nw.use rfl (hG.2.1 _ n_879 rfl)) h7 h8 h9 ?_
  refine lv_astore (lv' := [(5, .ref q0), (0, .ref a0), (1, .int x0), (2, .int x1), (3, .int x2), (4, .ref a1)]) hx hb d_L33_15 hl (by decide) rfl (fun ls hl => ?_)
  refine lv_iconst (v := 1) hx hb d_L33_17 (by decide +kernel) ?_
  refine W.widen (k := 1) (n := 6) (Nat.le_of_ble_eq_true rfl) (Nat.le_of_ble_eq_true rfl) ?_
  refine vx_ret ?_
  exact W.iret hx hb hr (fun t ht hW => qk hP hD hS [0] rfl ((fun k => k), (fun _ _ => none)) rfl rfl rfl ht) hS.2.2 d_L33_18
set_option maxRecDepth 100000 in
set_option maxHeartbeats 4000000 in
theorem c550_BModel_isIn (l : Launch) (z : Zz) (x0 : Int32) (h0 : ¬ x0 < 0) (h1 : 100000 < x0) : CT l z ⟨"BallothallModel", "isIn", "(III)Z"⟩ prog_14_method_20_code 3 (some .boolean) [.int x0, .int 0, .int 100000] [] 0 0 0 0 (fun u => some (.int 0)) (fun u => []) := by
  refine CT.of (own := "BallothallModel") (by decide +kernel) (Nat.le_of_ble_eq_true rfl) rfl (fun p e s m below meth c A ls hx hb hml hr hts hown hlocks hin hA hG hZ hP hD hS hl => ?_)
  have hl : lv_has ls 3 [(0, .int x0), (1, .int 0), (2, .int 100000)] := hl
  refine lv_iload_n hx hb d_14_20_0 rfl (lv_at hl 0 rfl) ?_
  refine lv_iload_n hx hb d_14_20_1 rfl (lv_at hl 1 rfl) ?_
  refine lv_icmp_lt (tgt := 14) hx hb d_14_20_2 (by decide) (fun c9 => absurd c9 h0) (fun _ => ?_)
  refine lv_iload_n hx hb d_14_20_5 rfl (lv_at hl 0 rfl) ?_
  refine lv_iload_n hx hb d_14_20_6 rfl (lv_at hl 2 rfl) ?_
  refine lv_icmp_gt (tgt := 14) hx hb d_14_20_7 (by decide) (fun _ => ?_) (fun c9 => absurd h1 c9)
  refine lv_iconst (v := 0) hx hb d_14_20_14 (by decide +kernel) ?_
  refine W.widen (k := 0) (n := 0) (Nat.le_of_ble_eq_true rfl) (Nat.le_of_ble_eq_true rfl) ?_
  exact W.zret hx hb hr rfl (fun t ht hW => qk hP hD hS [] rfl ((fun k => k), (fun _ _ => none)) rfl rfl rfl ht) hS.2.2 d_14_20_15
set_option maxRecDepth 100000 in
set_option maxHeartbeats 4000000 in
theorem c551_BModel_ward (l : Launch) (z : Zz) (a0 a1 a2 a3 a4 : Nat) (x0 : Int32) (x1 : Int32) (x2 : Int32) (h0 : ¬ x0 < 1) (h1 : ¬ 100000 < x0) (h2 : ¬ x1 < 0) (h3 : 100000 < x1) : CT l z ⟨"BallothallModel", "ward", "(III)I"⟩ prog_14_method_79_code 4 (some .int) [.ref a0, .int x0, .int x1, .int x2] [(a0, .inr (18, [.ref a1, .ref a2, .int 0, .ref a3, .int 0, .ref a4, .int 0, .null, .int 0, .null, .long 0, .int 0, .null]))] 1 30 0 0 (fun u => some (.int 0)) (fun u => [(a0, .inr (18, [.ref a1, .ref a2, .int 0, .ref a3, .int 0, .ref a4, .int 1, .null, .int 0, .null, .long 0, .int 0, .null]))]) := by
  refine CT.of (own := "BallothallModel") (by decide +kernel) (Nat.le_of_ble_eq_true rfl) rfl (fun p e s m below meth c A ls hx hb hml hr hts hown hlocks hin hA hG hZ hP hD hS hl => ?_)
  have hl : lv_has ls 4 [(0, .ref a0), (1, .int x0), (2, .int x1), (3, .int x2)] := hl
  refine lv_aload_n hx hb d_14_79_0 rfl (lv_at hl 0 rfl) ?_
  refine lv_iload_n hx hb d_14_79_1 rfl (lv_at hl 1 rfl) ?_
  refine lv_iconst (v := 1) hx hb d_14_79_2 (by decide +kernel) ?_
  refine lv_ldc hx hb hown (hts _ w_1732) d_14_79_3 ?_
  refine kS (As := [.int x0, .int 1, .int 100000]) (rest := [.ref a0]) (wr := [(a0, .inr (18, [.ref a1, .ref a2, .int 0, .ref a3, .int 0, .ref a4, .int 0, .null, .int 0, .null, .long 0, .int 0, .null]))]) (c69_BModel_isIn l z x0 h0 h1) hx hb hml hown hts w_1718 w_1716 w_1717 w_12 md_bca45c ⟨Nat.le_of_ble_eq_true rfl, Nat.le_of_ble_eq_true rfl⟩ hG hZ hP hD hS hA [] [0] rfl rfl rfl rfl rfl hl.1 rfl (Nat.le_of_ble_eq_true rfl) d_14_79_5 ⟨Nat.le_of_ble_eq_true rfl, Nat.le_of_ble_eq_true rfl⟩ (fun u0 H locs hP hD hS => ?_)
  have hP : va_P z.1 classes [(a0, .inr (18, [.ref a1, .ref a2, .int 0, .ref a3, .int 0, .ref a4, .int 0, .null, .int 0, .null, .long 0, .int 0, .null]))] H := hP
  have hD : va_D A [(a0, .inr (18, [.ref a1, .ref a2, .int 0, .ref a3, .int 0, .ref a4, .int 0, .null, .int 0, .null, .long 0, .int 0, .null]))] := hD
  refine W.eq (g2 := F0 m 8 ls [.int 1, .ref a0]) rfl ?_
  refine lv_if_eq (tgt := 35) hx hb d_14_79_8 (by decide) (fun c9 => absurd c9 (by decide +kernel)) (fun _ => ?_)
  refine lv_iload_n hx hb d_14_79_11 rfl (lv_at hl 2 rfl) ?_
  refine lv_iconst (v := 0) hx hb d_14_79_12 (by decide +kernel) ?_
  refine lv_ldc hx hb hown (hts _ w_1732) d_14_79_13 ?_
  refine kS (As := [.int x1, .int 0, .int 100000]) (rest := [.ref a0]) (wr := [(a0, .inr (18, [.ref a1, .ref a2, .int 0, .ref a3, .int 0, .ref a4, .int 0, .null, .int 0, .null, .long 0, .int 0, .null]))]) (c550_BModel_isIn l z x1 h2 h3) hx hb hml hown hts w_1718 w_1716 w_1717 w_12 md_bca45c ⟨Nat.le_of_ble_eq_true rfl, Nat.le_of_ble_eq_true rfl⟩ hG hZ hP hD hS hA [] [0] rfl rfl rfl rfl rfl hl.1 rfl (Nat.le_of_ble_eq_true rfl) d_14_79_15 ⟨Nat.le_of_ble_eq_true rfl, Nat.le_of_ble_eq_true rfl⟩ (fun u1 H locs hP hD hS => ?_)
  have hP : va_P z.1 classes [(a0, .inr (18, [.ref a1, .ref a2, .int 0, .ref a3, .int 0, .ref a4, .int 0, .null, .int 0, .null, .long 0, .int 0, .null]))] H := hP
  have hD : va_D A [(a0, .inr (18, [.ref a1, .ref a2, .int 0, .ref a3, .int 0, .ref a4, .int 0, .null, .int 0, .null, .long 0, .int 0, .null]))] := hD
  refine W.eq (g2 := F0 m 18 ls [.int 0, .ref a0]) rfl ?_
  refine lv_if_eq (tgt := 35) hx hb d_14_79_18 (by decide) (fun _ => ?_) (fun c9 => absurd (by decide +kernel) c9)
  refine lv_iconst (v := 0) hx hb d_14_79_35 (by decide +kernel) ?_
  refine lv_iconst (v := 1) hx hb d_14_79_36 (by decide +kernel) ?_
  refine kV (As := [.int 0, .int 1]) (rest := []) (wr := []) (c31_BModel_ends l z a0 a1 a2 a3 a4) hx hb hml hown hts w_1696 w_1693 w_1695 w_s_f8f2b7 w_12 md_77b0f8 ⟨Nat.le_of_ble_eq_true rfl, Nat.le_of_ble_eq_true rfl⟩ hG hZ hP hD hS hA 0 rfl rfl rfl [0] [] rfl rfl rfl rfl rfl hl.1 rfl (Nat.le_of_ble_eq_true rfl) d_14_79_37 ⟨Nat.le_of_ble_eq_true rfl, Nat.le_of_ble_eq_true rfl⟩ (fun u2 H locs hP hD hS => ?_)
  have hP : va_P z.1 classes [(a0, .inr (18, [.ref a1, .ref a2, .int 0, .ref a3, .int 0, .ref a4, .int 1, .null, .int 0, .null, .long 0, .int 0, .null]))] H := hP
  have hD : va_D A [(a0, .inr (18, [.ref a1, .ref a2, .int 0, .ref a3, .int 0, .ref a4, .int 1, .null, .int 0, .null, .long 0, .int 0, .null]))] := hD
  refine W.eq (g2 := F0 m 40 ls [.int 1]) rfl ?_
  refine lv_if_ne (tgt := 68) hx hb d_14_79_40 (by decide) (fun _ => ?_) (fun c9 => absurd c9 (by decide +kernel))
  refine lv_iconst (v := 0) hx hb d_14_79_68 (by decide +kernel) ?_
  refine W.widen (k := 0) (n := 0) (Nat.le_of_ble_eq_true rfl) (Nat.le_of_ble_eq_true rfl) ?_
  exact W.iret hx hb hr (fun t ht hW => qk hP hD hS [0] rfl ((fun k => k), (fun _ _ => none)) rfl rfl rfl ht) hS.2.2 d_14_79_69
set_option maxRecDepth 100000 in
set_option maxHeartbeats 4000000 in
theorem c552_B_needRange (l : Launch) (z : Zz) (x0 : Int32) (h0 : ¬ x0 < 0) (h1 : ¬ 100000 < x0) : CT l z ⟨"Ballothall", "needRange", "(III)V"⟩ prog_1_method_57_code 3 none [.int x0, .int 0, .int 100000] [] 0 0 0 0 (fun u => none) (fun u => []) := by
  refine CT.of (own := "Ballothall") (by decide +kernel) (Nat.le_of_ble_eq_true rfl) rfl (fun p e s m below meth c A ls hx hb hml hr hts hown hlocks hin hA hG hZ hP hD hS hl => ?_)
  have hl : lv_has ls 3 [(0, .int x0), (1, .int 0), (2, .int 100000)] := hl
  refine lv_iload_n hx hb d_1_57_0 rfl (lv_at hl 0 rfl) ?_
  refine lv_iload_n hx hb d_1_57_1 rfl (lv_at hl 1 rfl) ?_
  refine lv_icmp_lt (tgt := 10) hx hb d_1_57_2 (by decide) (fun c9 => absurd c9 h0) (fun _ => ?_)
  refine lv_iload_n hx hb d_1_57_5 rfl (lv_at hl 0 rfl) ?_
  refine lv_iload_n hx hb d_1_57_6 rfl (lv_at hl 2 rfl) ?_
  refine lv_icmp_le (tgt := 21) hx hb d_1_57_7 (by decide) (fun _ => ?_) (fun c9 => absurd (Int32.not_lt.mp h1) c9)
  refine W.widen (k := 0) (n := 0) (Nat.le_of_ble_eq_true rfl) (Nat.le_of_ble_eq_true rfl) ?_
  exact W.vret hx hb hr (fun t ht hW => qk hP hD hS [] rfl ((fun k => k), (fun _ _ => none)) rfl rfl rfl ht) hS.2.2 d_1_57_21
set_option maxRecDepth 100000 in
set_option maxHeartbeats 4000000 in
theorem c553_B_ward (l : Launch) (z : Zz) (hl0 : l.stackTraces = false) (a0 : Nat) (x0 : Int32) (x1 : Int32) (x2 : Int32) (h0 : ¬ x0 < 1) (h1 : ¬ 100000 < x0) (h2 : ¬ x1 < 0) (h3 : ¬ 100000 < x1) (h4 : x2 < 0) : XT l z ⟨"Ballothall", "ward", "(III)I"⟩ prog_1_method_41_code 5 (some .int) [.ref a0, .int x0, .int x1, .int x2] [] 7 128 1 6 "java/lang/IllegalArgumentException" := by
  refine XT.of (own := "Ballothall") (by decide +kernel) (Nat.le_of_ble_eq_true rfl) rfl (fun p e s m below meth c A ls hx hb hml hr hts hown hlocks hin hA hG hZ hP hD hS hl hnt => ?_)
  have hl : lv_has ls 5 [(0, .ref a0), (1, .int x0), (2, .int x1), (3, .int x2)] := hl
  refine lv_iload_n hx hb d_1_41_0 rfl (lv_at hl 1 rfl) ?_
  refine lv_iconst (v := 1) hx hb d_1_41_1 (by decide +kernel) ?_
  refine lv_ldc hx hb hown (hts _ w_912) d_1_41_2 ?_
  refine kS (As := [.int x0, .int 1, .int 100000]) (rest := []) (wr := []) (c60_B_needRange l z x0 h0 h1) hx hb hml hown hts w_876 w_874 w_875 w_1 md_519134 ⟨Nat.le_of_ble_eq_true rfl, Nat.le_of_ble_eq_true rfl⟩ hG hZ hP hD hS hA [] [] rfl rfl rfl rfl rfl hl.1 rfl (Nat.le_of_ble_eq_true rfl) d_1_41_4 ⟨Nat.le_of_ble_eq_true rfl, Nat.le_of_ble_eq_true rfl⟩ (fun u0 H locs hP hD hS => ?_)
  have hP : va_P z.1 classes [] H := hP
  have hD : va_D A [] := hD
  refine W.eq (g2 := F0 m 7 ls []) rfl ?_
  refine lv_iload_n hx hb d_1_41_7 rfl (lv_at hl 2 rfl) ?_
  refine lv_iconst (v := 0) hx hb d_1_41_8 (by decide +kernel) ?_
  refine lv_ldc hx hb hown (hts _ w_912) d_1_41_9 ?_
  refine kS (As := [.int x1, .int 0, .int 100000]) (rest := []) (wr := []) (c552_B_needRange l z x1 h2 h3) hx hb hml hown hts w_876 w_874 w_875 w_1 md_519134 ⟨Nat.le_of_ble_eq_true rfl, Nat.le_of_ble_eq_true rfl⟩ hG hZ hP hD hS hA [] [] rfl rfl rfl rfl rfl hl.1 rfl (Nat.le_of_ble_eq_true rfl) d_1_41_11 ⟨Nat.le_of_ble_eq_true rfl, Nat.le_of_ble_eq_true rfl⟩ (fun u1 H locs hP hD hS => ?_)
  have hP : va_P z.1 classes [] H := hP
  have hD : va_D A [] := hD
  refine W.eq (g2 := F0 m 14 ls []) rfl ?_
  refine lv_iload_n hx hb d_1_41_14 rfl (lv_at hl 3 rfl) ?_
  refine lv_iconst (v := 0) hx hb d_1_41_15 (by decide +kernel) ?_
  refine lv_ldc hx hb hown (hts _ w_912) d_1_41_16 ?_
  exact xS (As := [.int x2, .int 0, .int 100000]) (rest := []) (wr := []) (c542_B_needRange l z hl0 x2 h4) hx hb hml hown hts w_876 w_874 w_875 w_1 md_519134 ⟨Nat.le_of_ble_eq_true rfl, Nat.le_of_ble_eq_true rfl⟩ hG hZ hP hD hS hA [] [] rfl rfl rfl rfl rfl hl.1 rfl (Nat.le_of_ble_eq_true rfl) d_1_41_18 ⟨Nat.le_of_ble_eq_true rfl, Nat.le_of_ble_eq_true rfl⟩ (fun q9 ce9 H locs hP hD hS h7 h8 h9 => x_out hnt hlocks hS h7 h8 h9 (Nat.le_of_ble_eq_true rfl) (Nat.le_of_ble_eq_true rfl))
set_option maxRecDepth 100000 in
set_option maxHeartbeats 4000000 in
theorem c554_BLaw_ward (l : Launch) (z : Zz) (hl0 : l.stackTraces = false) (a0 a1 a2 a3 a4 a5 a6 a7 a8 a9 a10 a11 a12 : Nat) (x0 : Int32) (x1 : Int32) (x2 : Int32) (h0 : ¬ x0 < 1) (h1 : ¬ 100000 < x0) (h2 : ¬ x1 < 0) (h3 : ¬ 100000 < x1) (h4 : x2 < 0) : HT l z ⟨"BallothallLaw", "ward", "(LBallothall;III[J)I"⟩ method_33_code 6 (some .int) [(0, 12, 15, 21), (0, 12, 19, 13)] [.ref a0, .int x0, .int x1, .int x2, .ref a1] [(a0, .inr (11, [.ref a2, .ref a3, .ref a4, .ref a5, .ref a6, .ref a7, .ref a8, .ref a9, .ref a10, .ref a11, .int 0, .int 0, .ref a12, .int 0]))] 8 160 1 6 (fun u => some (.int 1)) (fun u => [(a0, .inr (11, [.ref a2, .ref a3, .ref a4, .ref a5, .ref a6, .ref a7, .ref a8, .ref a9, .ref a10, .ref a11, .int 0, .int 0, .ref a12, .int 0]))]) := by
  refine HT.of (own := "BallothallLaw") (by decide +kernel) (Nat.le_of_ble_eq_true rfl) rfl (fun p e s m below meth c A ls hx hb hml hr hts hown hlocks hin hA hG hZ hP hD hS hl htab => ?_)
  have hl : lv_has ls 6 [(0, .ref a0), (1, .int x0), (2, .int x1), (3, .int x2), (4, .ref a1)] := hl
  refine lv_aload hx hb d_L33_0 (lv_at hl 4 rfl) ?_
  refine lv_iconst (v := 0) hx hb d_L33_2 (by decide +kernel) ?_
  refine lv_aload_n hx hb d_L33_3 rfl (lv_at hl 0 rfl) ?_
  refine lv_iload_n hx hb d_L33_4 rfl (lv_at hl 1 rfl) ?_
  refine lv_iload_n hx hb d_L33_5 rfl (lv_at hl 2 rfl) ?_
  refine lv_iload_n hx hb d_L33_6 rfl (lv_at hl 3 rfl) ?_
  refine xV (As := [.int x0, .int x1, .int x2]) (rest := [.int 0, .ref a1]) (wr := [(a0, .inr (11, [.ref a2, .ref a3, .ref a4, .ref a5, .ref a6, .ref a7, .ref a8, .ref a9, .ref a10, .ref a11, .int 0, .int 0, .ref a12, .int 0]))]) (c553_B_ward l z hl0 a0 x0 x1 x2 h0 h1 h2 h3 h4) hx hb hml hown hts w_1457 w_1454 w_1455 w_1456 w_1 md_8c59c6 ⟨Nat.le_of_ble_eq_true rfl, Nat.le_of_ble_eq_true rfl⟩ hG hZ hP hD hS hA 0 rfl rfl rfl [] [0] rfl rfl rfl rfl rfl hl.1 rfl (Nat.le_of_ble_eq_true rfl) d_L33_7 ⟨Nat.le_of_ble_eq_true rfl, Nat.le_of_ble_eq_true rfl⟩ (fun q0 ce9 H locs hP hD hS h7 h8 h9 => ?_)
  have hP : va_P z.1 classes [(a0, .inr (11, [.ref a2, .ref a3, .ref a4, .ref a5, .ref a6, .ref a7, .ref a8, .ref a9, .ref a10, .ref a11, .int 0, .int 0, .ref a12, .int 0]))] H := hP
  have hD : va_D A [(a0, .inr (11, [.ref a2, .ref a3, .ref a4, .ref a5, .ref a6, .ref a7, .ref a8, .ref a9, .ref a10, .ref a11, .int 0, .int 0, .ref a12, .int 0]))] := hD
  refine vx_catch hown [] ⟨0, 12, 15, 21⟩ [⟨0, 12, 19, 13⟩] (htab.trans rfl) (fun _ h9 => absurd h9 List.not_mem_nil) rfl (by decide) (hts _ w_850) (va_Nw.use rfl (hG.2.1 _ n_879 rfl)) h7 h8 h9 ?_
  refine lv_astore (lv' := [(5, .ref q0), (0, .ref a0), (1, .int x0), (2, .int x1), (3, .int x2), (4, .ref a1)]) hx hb d_L33_15 hl (by decide) rfl (fun ls hl => ?_)
  refine lv_iconst (v := 1) hx hb d_L33_17 (by decide +kernel) ?_
  refine W.widen (k := 1) (n := 6) (Nat.le_of_ble_eq_true rfl) (Nat.le_of_ble_eq_true rfl) ?_
  refine vx_ret ?_
  exact W.iret hx hb hr (fun t ht hW => qk hP hD hS [0] rfl ((fun k => k), (fun _ _ => none)) rfl rfl rfl ht) hS.2.2 d_L33_18
set_option maxRecDepth 100000 in
set_option maxHeartbeats 4000000 in
theorem c555_BModel_isIn (l : Launch) (z : Zz) (x0 : Int32) (h0 : ¬ x0 < 0) (h1 : ¬ 100000 < x0) : CT l z ⟨"BallothallModel", "isIn", "(III)Z"⟩ prog_14_method_20_code 3 (some .boolean) [.int x0, .int 0, .int 100000] [] 0 0 0 0 (fun u => some (.int 1)) (fun u => []) := by
  refine CT.of (own := "BallothallModel") (by decide +kernel) (Nat.le_of_ble_eq_true rfl) rfl (fun p e s m below meth c A ls hx hb hml hr hts hown hlocks hin hA hG hZ hP hD hS hl => ?_)
  have hl : lv_has ls 3 [(0, .int x0), (1, .int 0), (2, .int 100000)] := hl
  refine lv_iload_n hx hb d_14_20_0 rfl (lv_at hl 0 rfl) ?_
  refine lv_iload_n hx hb d_14_20_1 rfl (lv_at hl 1 rfl) ?_
  refine lv_icmp_lt (tgt := 14) hx hb d_14_20_2 (by decide) (fun c9 => absurd c9 h0) (fun _ => ?_)
  refine lv_iload_n hx hb d_14_20_5 rfl (lv_at hl 0 rfl) ?_
  refine lv_iload_n hx hb d_14_20_6 rfl (lv_at hl 2 rfl) ?_
  refine lv_icmp_gt (tgt := 14) hx hb d_14_20_7 (by decide) (fun c9 => absurd c9 h1) (fun _ => ?_)
  refine lv_iconst (v := 1) hx hb d_14_20_10 (by decide +kernel) ?_
  refine lv_goto (tgt := 15) hx hb d_14_20_11 (by decide) ?_
  refine W.widen (k := 0) (n := 0) (Nat.le_of_ble_eq_true rfl) (Nat.le_of_ble_eq_true rfl) ?_
  exact W.zret hx hb hr rfl (fun t ht hW => qk hP hD hS [] rfl ((fun k => k), (fun _ _ => none)) rfl rfl rfl ht) hS.2.2 d_14_20_15
set_option maxRecDepth 100000 in
set_option maxHeartbeats 4000000 in
theorem c556_BModel_ward (l : Launch) (z : Zz) (a0 a1 a2 a3 a4 : Nat) (x0 : Int32) (x1 : Int32) (x2 : Int32) (h0 : ¬ x0 < 1) (h1 : ¬ 100000 < x0) (h2 : ¬ x1 < 0) (h3 : ¬ 100000 < x1) (h4 : x2 < 0) : CT l z ⟨"BallothallModel", "ward", "(III)I"⟩ prog_14_method_79_code 4 (some .int) [.ref a0, .int x0, .int x1, .int x2] [(a0, .inr (18, [.ref a1, .ref a2, .int 0, .ref a3, .int 0, .ref a4, .int 0, .null, .int 0, .null, .long 0, .int 0, .null]))] 1 30 0 0 (fun u => some (.int 0)) (fun u => [(a0, .inr (18, [.ref a1, .ref a2, .int 0, .ref a3, .int 0, .ref a4, .int 1, .null, .int 0, .null, .long 0, .int 0, .null]))]) := by
  refine CT.of (own := "BallothallModel") (by decide +kernel) (Nat.le_of_ble_eq_true rfl) rfl (fun p e s m below meth c A ls hx hb hml hr hts hown hlocks hin hA hG hZ hP hD hS hl => ?_)
  have hl : lv_has ls 4 [(0, .ref a0), (1, .int x0), (2, .int x1), (3, .int x2)] := hl
  refine lv_aload_n hx hb d_14_79_0 rfl (lv_at hl 0 rfl) ?_
  refine lv_iload_n hx hb d_14_79_1 rfl (lv_at hl 1 rfl) ?_
  refine lv_iconst (v := 1) hx hb d_14_79_2 (by decide +kernel) ?_
  refine lv_ldc hx hb hown (hts _ w_1732) d_14_79_3 ?_
  refine kS (As := [.int x0, .int 1, .int 100000]) (rest := [.ref a0]) (wr := [(a0, .inr (18, [.ref a1, .ref a2, .int 0, .ref a3, .int 0, .ref a4, .int 0, .null, .int 0, .null, .long 0, .int 0, .null]))]) (c69_BModel_isIn l z x0 h0 h1) hx hb hml hown hts w_1718 w_1716 w_1717 w_12 md_bca45c ⟨Nat.le_of_ble_eq_true rfl, Nat.le_of_ble_eq_true rfl⟩ hG hZ hP hD hS hA [] [0] rfl rfl rfl rfl rfl hl.1 rfl (Nat.le_of_ble_eq_true rfl) d_14_79_5 ⟨Nat.le_of_ble_eq_true rfl, Nat.le_of_ble_eq_true rfl⟩ (fun u0 H locs hP hD hS => ?_)
  have hP : va_P z.1 classes [(a0, .inr (18, [.ref a1, .ref a2, .int 0, .ref a3, .int 0, .ref a4, .int 0, .null, .int 0, .null, .long 0, .int 0, .null]))] H := hP
  have hD : va_D A [(a0, .inr (18, [.ref a1, .ref a2, .int 0, .ref a3, .int 0, .ref a4, .int 0, .null, .int 0, .null, .long 0, .int 0, .null]))] := hD
  refine W.eq (g2 := F0 m 8 ls [.int 1, .ref a0]) rfl ?_
  refine lv_if_eq (tgt := 35) hx hb d_14_79_8 (by decide) (fun c9 => absurd c9 (by decide +kernel)) (fun _ => ?_)
  refine lv_iload_n hx hb d_14_79_11 rfl (lv_at hl 2 rfl) ?_
  refine lv_iconst (v := 0) hx hb d_14_79_12 (by decide +kernel) ?_
  refine lv_ldc hx hb hown (hts _ w_1732) d_14_79_13 ?_
  refine kS (As := [.int x1, .int 0, .int 100000]) (rest := [.ref a0]) (wr := [(a0, .inr (18, [.ref a1, .ref a2, .int 0, .ref a3, .int 0, .ref a4, .int 0, .null, .int 0, .null, .long 0, .int 0, .null]))]) (c555_BModel_isIn l z x1 h2 h3) hx hb hml hown hts w_1718 w_1716 w_1717 w_12 md_bca45c ⟨Nat.le_of_ble_eq_true rfl, Nat.le_of_ble_eq_true rfl⟩ hG hZ hP hD hS hA [] [0] rfl rfl rfl rfl rfl hl.1 rfl (Nat.le_of_ble_eq_true rfl) d_14_79_15 ⟨Nat.le_of_ble_eq_true rfl, Nat.le_of_ble_eq_true rfl⟩ (fun u1 H locs hP hD hS => ?_)
  have hP : va_P z.1 classes [(a0, .inr (18, [.ref a1, .ref a2, .int 0, .ref a3, .int 0, .ref a4, .int 0, .null, .int 0, .null, .long 0, .int 0, .null]))] H := hP
  have hD : va_D A [(a0, .inr (18, [.ref a1, .ref a2, .int 0, .ref a3, .int 0, .ref a4, .int 0, .null, .int 0, .null, .long 0, .int 0, .null]))] := hD
  refine W.eq (g2 := F0 m 18 ls [.int 1, .ref a0]) rfl ?_
  refine lv_if_eq (tgt := 35) hx hb d_14_79_18 (by decide) (fun c9 => absurd c9 (by decide +kernel)) (fun _ => ?_)
  refine lv_iload_n hx hb d_14_79_21 rfl (lv_at hl 3 rfl) ?_
  refine lv_iconst (v := 0) hx hb d_14_79_22 (by decide +kernel) ?_
  refine lv_ldc hx hb hown (hts _ w_1732) d_14_79_23 ?_
  refine kS (As := [.int x2, .int 0, .int 100000]) (rest := [.ref a0]) (wr := [(a0, .inr (18, [.ref a1, .ref a2, .int 0, .ref a3, .int 0, .ref a4, .int 0, .null, .int 0, .null, .long 0, .int 0, .null]))]) (c545_BModel_isIn l z x2 h4) hx hb hml hown hts w_1718 w_1716 w_1717 w_12 md_bca45c ⟨Nat.le_of_ble_eq_true rfl, Nat.le_of_ble_eq_true rfl⟩ hG hZ hP hD hS hA [] [0] rfl rfl rfl rfl rfl hl.1 rfl (Nat.le_of_ble_eq_true rfl) d_14_79_25 ⟨Nat.le_of_ble_eq_true rfl, Nat.le_of_ble_eq_true rfl⟩ (fun u2 H locs hP hD hS => ?_)
  have hP : va_P z.1 classes [(a0, .inr (18, [.ref a1, .ref a2, .int 0, .ref a3, .int 0, .ref a4, .int 0, .null, .int 0, .null, .long 0, .int 0, .null]))] H := hP
  have hD : va_D A [(a0, .inr (18, [.ref a1, .ref a2, .int 0, .ref a3, .int 0, .ref a4, .int 0, .null, .int 0, .null, .long 0, .int 0, .null]))] := hD
  refine W.eq (g2 := F0 m 28 ls [.int 0, .ref a0]) rfl ?_
  refine lv_if_eq (tgt := 35) hx hb d_14_79_28 (by decide) (fun _ => ?_) (fun c9 => absurd (by decide +kernel) c9)
  refine lv_iconst (v := 0) hx hb d_14_79_35 (by decide +kernel) ?_
  refine lv_iconst (v := 1) hx hb d_14_79_36 (by decide +kernel) ?_
  refine kV (As := [.int 0, .int 1]) (rest := []) (wr := []) (c31_BModel_ends l z a0 a1 a2 a3 a4) hx hb hml hown hts w_1696 w_1693 w_1695 w_s_f8f2b7 w_12 md_77b0f8 ⟨Nat.le_of_ble_eq_true rfl, Nat.le_of_ble_eq_true rfl⟩ hG hZ hP hD hS hA 0 rfl rfl rfl [0] [] rfl rfl rfl rfl rfl hl.1 rfl (Nat.le_of_ble_eq_true rfl) d_14_79_37 ⟨Nat.le_of_ble_eq_true rfl, Nat.le_of_ble_eq_true rfl⟩ (fun u3 H locs hP hD hS => ?_)
  have hP : va_P z.1 classes [(a0, .inr (18, [.ref a1, .ref a2, .int 0, .ref a3, .int 0, .ref a4, .int 1, .null, .int 0, .null, .long 0, .int 0, .null]))] H := hP
  have hD : va_D A [(a0, .inr (18, [.ref a1, .ref a2, .int 0, .ref a3, .int 0, .ref a4, .int 1, .null, .int 0, .null, .long 0, .int 0, .null]))] := hD
  refine W.eq (g2 := F0 m 40 ls [.int 1]) rfl ?_
  refine lv_if_ne (tgt := 68) hx hb d_14_79_40 (by decide) (fun _ => ?_) (fun c9 => absurd c9 (by decide +kernel))
  refine lv_iconst (v := 0) hx hb d_14_79_68 (by decide +kernel) ?_
  refine W.widen (k := 0) (n := 0) (Nat.le_of_ble_eq_true rfl) (Nat.le_of_ble_eq_true rfl) ?_
  exact W.iret hx hb hr (fun t ht hW => qk hP hD hS [0] rfl ((fun k => k), (fun _ _ => none)) rfl rfl rfl ht) hS.2.2 d_14_79_69
set_option maxRecDepth 100000 in
set_option maxHeartbeats 4000000 in
theorem c557_B_ward (l : Launch) (z : Zz) (hl0 : l.stackTraces = false) (a0 : Nat) (x0 : Int32) (x1 : Int32) (x2 : Int32) (h0 : ¬ x0 < 1) (h1 : ¬ 100000 < x0) (h2 : ¬ x1 < 0) (h3 : ¬ 100000 < x1) (h4 : ¬ x2 < 0) (h5 : 100000 < x2) : XT l z ⟨"Ballothall", "ward", "(III)I"⟩ prog_1_method_41_code 5 (some .int) [.ref a0, .int x0, .int x1, .int x2] [] 7 128 1 6 "java/lang/IllegalArgumentException" := by
  refine XT.of (own := "Ballothall") (by decide +kernel) (Nat.le_of_ble_eq_true rfl) rfl (fun p e s m below meth c A ls hx hb hml hr hts hown hlocks hin hA hG hZ hP hD hS hl hnt => ?_)
  have hl : lv_has ls 5 [(0, .ref a0), (1, .int x0), (2, .int x1), (3, .int x2)] := hl
  refine lv_iload_n hx hb d_1_41_0 rfl (lv_at hl 1 rfl) ?_
  refine lv_iconst (v := 1) hx hb d_1_41_1 (by decide +kernel) ?_
  refine lv_ldc hx hb hown (hts _ w_912) d_1_41_2 ?_
  refine kS (As := [.int x0, .int 1, .int 100000]) (rest := []) (wr := []) (c60_B_needRange l z x0 h0 h1) hx hb hml hown hts w_876 w_874 w_875 w_1 md_519134 ⟨Nat.le_of_ble_eq_true rfl, Nat.le_of_ble_eq_true rfl⟩ hG hZ hP hD hS hA [] [] rfl rfl rfl rfl rfl hl.1 rfl (Nat.le_of_ble_eq_true rfl) d_1_41_4 ⟨Nat.le_of_ble_eq_true rfl, Nat.le_of_ble_eq_true rfl⟩ (fun u0 H locs hP hD hS => ?_)
  have hP : va_P z.1 classes [] H := hP
  have hD : va_D A [] := hD
  refine W.eq (g2 := F0 m 7 ls []) rfl ?_
  refine lv_iload_n hx hb d_1_41_7 rfl (lv_at hl 2 rfl) ?_
  refine lv_iconst (v := 0) hx hb d_1_41_8 (by decide +kernel) ?_
  refine lv_ldc hx hb hown (hts _ w_912) d_1_41_9 ?_
  refine kS (As := [.int x1, .int 0, .int 100000]) (rest := []) (wr := []) (c552_B_needRange l z x1 h2 h3) hx hb hml hown hts w_876 w_874 w_875 w_1 md_519134 ⟨Nat.le_of_ble_eq_true rfl, Nat.le_of_ble_eq_true rfl⟩ hG hZ hP hD hS hA [] [] rfl rfl rfl rfl rfl hl.1 rfl (Nat.le_of_ble_eq_true rfl) d_1_41_11 ⟨Nat.le_of_ble_eq_true rfl, Nat.le_of_ble_eq_true rfl⟩ (fun u1 H locs hP hD hS => ?_)
  have hP : va_P z.1 classes [] H := hP
  have hD : va_D A [] := hD
  refine W.eq (g2 := F0 m 14 ls []) rfl ?_
  refine lv_iload_n hx hb d_1_41_14 rfl (lv_at hl 3 rfl) ?_
  refine lv_iconst (v := 0) hx hb d_1_41_15 (by decide +kernel) ?_
  refine lv_ldc hx hb hown (hts _ w_912) d_1_41_16 ?_
  exact xS (As := [.int x2, .int 0, .int 100000]) (rest := []) (wr := []) (c547_B_needRange l z hl0 x2 h4 h5) hx hb hml hown hts w_876 w_874 w_875 w_1 md_519134 ⟨Nat.le_of_ble_eq_true rfl, Nat.le_of_ble_eq_true rfl⟩ hG hZ hP hD hS hA [] [] rfl rfl rfl rfl rfl hl.1 rfl (Nat.le_of_ble_eq_true rfl) d_1_41_18 ⟨Nat.le_of_ble_eq_true rfl, Nat.le_of_ble_eq_true rfl⟩ (fun q9 ce9 H locs hP hD hS h7 h8 h9 => x_out hnt hlocks hS h7 h8 h9 (Nat.le_of_ble_eq_true rfl) (Nat.le_of_ble_eq_true rfl))
set_option maxRecDepth 100000 in
set_option maxHeartbeats 4000000 in
theorem c558_BLaw_ward (l : Launch) (z : Zz) (hl0 : l.stackTraces = false) (a0 a1 a2 a3 a4 a5 a6 a7 a8 a9 a10 a11 a12 : Nat) (x0 : Int32) (x1 : Int32) (x2 : Int32) (h0 : ¬ x0 < 1) (h1 : ¬ 100000 < x0) (h2 : ¬ x1 < 0) (h3 : ¬ 100000 < x1) (h4 : ¬ x2 < 0) (h5 : 100000 < x2) : HT l z ⟨"BallothallLaw", "ward", "(LBallothall;III[J)I"⟩ method_33_code 6 (some .int) [(0, 12, 15, 21), (0, 12, 19, 13)] [.ref a0, .int x0, .int x1, .int x2, .ref a1] [(a0, .inr (11, [.ref a2, .ref a3, .ref a4, .ref a5, .ref a6, .ref a7, .ref a8, .ref a9, .ref a10, .ref a11, .int 0, .int 0, .ref a12, .int 0]))] 8 160 1 6 (fun u => some (.int 1)) (fun u => [(a0, .inr (11, [.ref a2, .ref a3, .ref a4, .ref a5, .ref a6, .ref a7, .ref a8, .ref a9, .ref a10, .ref a11, .int 0, .int 0, .ref a12, .int 0]))]) := by
  refine HT.of (own := "BallothallLaw") (by decide +kernel) (Nat.le_of_ble_eq_true rfl) rfl (fun p e s m below meth c A ls hx hb hml hr hts hown hlocks hin hA hG hZ hP hD hS hl htab => ?_)
  have hl : lv_has ls 6 [(0, .ref a0), (1, .int x0), (2, .int x1), (3, .int x2), (4, .ref a1)] := hl
  refine lv_aload hx hb d_L33_0 (lv_at hl 4 rfl) ?_
  refine lv_iconst (v := 0) hx hb d_L33_2 (by decide +kernel) ?_
  refine lv_aload_n hx hb d_L33_3 rfl (lv_at hl 0 rfl) ?_
  refine lv_iload_n hx hb d_L33_4 rfl (lv_at hl 1 rfl) ?_
  refine lv_iload_n hx hb d_L33_5 rfl (lv_at hl 2 rfl) ?_
  refine lv_iload_n hx hb d_L33_6 rfl (lv_at hl 3 rfl) ?_
  refine xV (As := [.int x0, .int x1, .int x2]) (rest := [.int 0, .ref a1]) (wr := [(a0, .inr (11, [.ref a2, .ref a3, .ref a4, .ref a5, .ref a6, .ref a7, .ref a8, .ref a9, .ref a10, .ref a11, .int 0, .int 0, .ref a12, .int 0]))]) (c557_B_ward l z hl0 a0 x0 x1 x2 h0 h1 h2 h3 h4 h5) hx hb hml hown hts w_1457 w_1454 w_1455 w_1456 w_1 md_8c59c6 ⟨Nat.le_of_ble_eq_true rfl, Nat.le_of_ble_eq_true rfl⟩ hG hZ hP hD hS hA 0 rfl rfl rfl [] [0] rfl rfl rfl rfl rfl hl.1 rfl (Nat.le_of_ble_eq_true rfl) d_L33_7 ⟨Nat.le_of_ble_eq_true rfl, Nat.le_of_ble_eq_true rfl⟩ (fun q0 ce9 H locs hP hD hS h7 h8 h9 => ?_)
  have hP : va_P z.1 classes [(a0, .inr (11, [.ref a2, .ref a3, .ref a4, .ref a5, .ref a6, .ref a7, .ref a8, .ref a9, .ref a10, .ref a11, .int 0, .int 0, .ref a12, .int 0]))] H := hP
  have hD : va_D A [(a0, .inr (11, [.ref a2, .ref a3, .ref a4, .ref a5, .ref a6, .ref a7, .ref a8, .ref a9, .ref a10, .ref a11, .int 0, .int 0, .ref a12, .int 0]))] := hD
  refine vx_catch hown [] ⟨0, 12, 15, 21⟩ [⟨0, 12, 19, 13⟩] (htab.trans rfl) (fun _ h9 => absurd h9 List.not_mem_nil) rfl (by decide) (hts _ w_850) (va_Nw.use rfl (hG.2.1 _ n_879 rfl)) h7 h8 h9 ?_
  refine lv_astore (lv' := [(5, .ref q0), (0, .ref a0), (1, .int x0), (2, .int x1), (3, .int x2), (4, .ref a1)]) hx hb d_L33_15 hl (by decide) rfl (fun ls hl => ?_)
  refine lv_iconst (v := 1) hx hb d_L33_17 (by decide +kernel) ?_
  refine W.widen (k := 1) (n := 6) (Nat.le_of_ble_eq_true rfl) (Nat.le_of_ble_eq_true rfl) ?_
  refine vx_ret ?_
  exact W.iret hx hb hr (fun t ht hW => qk hP hD hS [0] rfl ((fun k => k), (fun _ _ => none)) rfl rfl rfl ht) hS.2.2 d_L33_18
set_option maxRecDepth 100000 in
set_option maxHeartbeats 4000000 in
theorem c559_BModel_ward (l : Launch) (z : Zz) (a0 a1 a2 a3 a4 : Nat) (x0 : Int32) (x1 : Int32) (x2 : Int32) (h0 : ¬ x0 < 1) (h1 : ¬ 100000 < x0) (h2 : ¬ x1 < 0) (h3 : ¬ 100000 < x1) (h4 : ¬ x2 < 0) (h5 : 100000 < x2) : CT l z ⟨"BallothallModel", "ward", "(III)I"⟩ prog_14_method_79_code 4 (some .int) [.ref a0, .int x0, .int x1, .int x2] [(a0, .inr (18, [.ref a1, .ref a2, .int 0, .ref a3, .int 0, .ref a4, .int 0, .null, .int 0, .null, .long 0, .int 0, .null]))] 1 30 0 0 (fun u => some (.int 0)) (fun u => [(a0, .inr (18, [.ref a1, .ref a2, .int 0, .ref a3, .int 0, .ref a4, .int 1, .null, .int 0, .null, .long 0, .int 0, .null]))]) := by
  refine CT.of (own := "BallothallModel") (by decide +kernel) (Nat.le_of_ble_eq_true rfl) rfl (fun p e s m below meth c A ls hx hb hml hr hts hown hlocks hin hA hG hZ hP hD hS hl => ?_)
  have hl : lv_has ls 4 [(0, .ref a0), (1, .int x0), (2, .int x1), (3, .int x2)] := hl
  refine lv_aload_n hx hb d_14_79_0 rfl (lv_at hl 0 rfl) ?_
  refine lv_iload_n hx hb d_14_79_1 rfl (lv_at hl 1 rfl) ?_
  refine lv_iconst (v := 1) hx hb d_14_79_2 (by decide +kernel) ?_
  refine lv_ldc hx hb hown (hts _ w_1732) d_14_79_3 ?_
  refine kS (As := [.int x0, .int 1, .int 100000]) (rest := [.ref a0]) (wr := [(a0, .inr (18, [.ref a1, .ref a2, .int 0, .ref a3, .int 0, .ref a4, .int 0, .null, .int 0, .null, .long 0, .int 0, .null]))]) (c69_BModel_isIn l z x0 h0 h1) hx hb hml hown hts w_1718 w_1716 w_1717 w_12 md_bca45c ⟨Nat.le_of_ble_eq_true rfl, Nat.le_of_ble_eq_true rfl⟩ hG hZ hP hD hS hA [] [0] rfl rfl rfl rfl rfl hl.1 rfl (Nat.le_of_ble_eq_true rfl) d_14_79_5 ⟨Nat.le_of_ble_eq_true rfl, Nat.le_of_ble_eq_true rfl⟩ (fun u0 H locs hP hD hS => ?_)
  have hP : va_P z.1 classes [(a0, .inr (18, [.ref a1, .ref a2, .int 0, .ref a3, .int 0, .ref a4, .int 0, .null, .int 0, .null, .long 0, .int 0, .null]))] H := hP
  have hD : va_D A [(a0, .inr (18, [.ref a1, .ref a2, .int 0, .ref a3, .int 0, .ref a4, .int 0, .null, .int 0, .null, .long 0, .int 0, .null]))] := hD
  refine W.eq (g2 := F0 m 8 ls [.int 1, .ref a0]) rfl ?_
  refine lv_if_eq (tgt := 35) hx hb d_14_79_8 (by decide) (fun c9 => absurd c9 (by decide +kernel)) (fun _ => ?_)
  refine lv_iload_n hx hb d_14_79_11 rfl (lv_at hl 2 rfl) ?_
  refine lv_iconst (v := 0) hx hb d_14_79_12 (by decide +kernel) ?_
  refine lv_ldc hx hb hown (hts _ w_1732) d_14_79_13 ?_
  refine kS (As := [.int x1, .int 0, .int 100000]) (rest := [.ref a0]) (wr := [(a0, .inr (18, [.ref a1, .ref a2, .int 0, .ref a3, .int 0, .ref a4, .int 0, .null, .int 0, .null, .long 0, .int 0, .null]))]) (c555_BModel_isIn l z x1 h2 h3) hx hb hml hown hts w_1718 w_1716 w_1717 w_12 md_bca45c ⟨Nat.le_of_ble_eq_true rfl, Nat.le_of_ble_eq_true rfl⟩ hG hZ hP hD hS hA [] [0] rfl rfl rfl rfl rfl hl.1 rfl (Nat.le_of_ble_eq_true rfl) d_14_79_15 ⟨Nat.le_of_ble_eq_true rfl, Nat.le_of_ble_eq_true rfl⟩ (fun u1 H locs hP hD hS => ?_)
  have hP : va_P z.1 classes [(a0, .inr (18, [.ref a1, .ref a2, .int 0, .ref a3, .int 0, .ref a4, .int 0, .null, .int 0, .null, .long 0, .int 0, .null]))] H := hP
  have hD : va_D A [(a0, .inr (18, [.ref a1, .ref a2, .int 0, .ref a3, .int 0, .ref a4, .int 0, .null, .int 0, .null, .long 0, .int 0, .null]))] := hD
  refine W.eq (g2 := F0 m 18 ls [.int 1, .ref a0]) rfl ?_
  refine lv_if_eq (tgt := 35) hx hb d_14_79_18 (by decide) (fun c9 => absurd c9 (by decide +kernel)) (fun _ => ?_)
  refine lv_iload_n hx hb d_14_79_21 rfl (lv_at hl 3 rfl) ?_
  refine lv_iconst (v := 0) hx hb d_14_79_22 (by decide +kernel) ?_
  refine lv_ldc hx hb hown (hts _ w_1732) d_14_79_23 ?_
  refine kS (As := [.int x2, .int 0, .int 100000]) (rest := [.ref a0]) (wr := [(a0, .inr (18, [.ref a1, .ref a2, .int 0, .ref a3, .int 0, .ref a4, .int 0, .null, .int 0, .null, .long 0, .int 0, .null]))]) (c550_BModel_isIn l z x2 h4 h5) hx hb hml hown hts w_1718 w_1716 w_1717 w_12 md_bca45c ⟨Nat.le_of_ble_eq_true rfl, Nat.le_of_ble_eq_true rfl⟩ hG hZ hP hD hS hA [] [0] rfl rfl rfl rfl rfl hl.1 rfl (Nat.le_of_ble_eq_true rfl) d_14_79_25 ⟨Nat.le_of_ble_eq_true rfl, Nat.le_of_ble_eq_true rfl⟩ (fun u2 H locs hP hD hS => ?_)
  have hP : va_P z.1 classes [(a0, .inr (18, [.ref a1, .ref a2, .int 0, .ref a3, .int 0, .ref a4, .int 0, .null, .int 0, .null, .long 0, .int 0, .null]))] H := hP
  have hD : va_D A [(a0, .inr (18, [.ref a1, .ref a2, .int 0, .ref a3, .int 0, .ref a4, .int 0, .null, .int 0, .null, .long 0, .int 0, .null]))] := hD
  refine W.eq (g2 := F0 m 28 ls [.int 0, .ref a0]) rfl ?_
  refine lv_if_eq (tgt := 35) hx hb d_14_79_28 (by decide) (fun _ => ?_) (fun c9 => absurd (by decide +kernel) c9)
  refine lv_iconst (v := 0) hx hb d_14_79_35 (by decide +kernel) ?_
  refine lv_iconst (v := 1) hx hb d_14_79_36 (by decide +kernel) ?_
  refine kV (As := [.int 0, .int 1]) (rest := []) (wr := []) (c31_BModel_ends l z a0 a1 a2 a3 a4) hx hb hml hown hts w_1696 w_1693 w_1695 w_s_f8f2b7 w_12 md_77b0f8 ⟨Nat.le_of_ble_eq_true rfl, Nat.le_of_ble_eq_true rfl⟩ hG hZ hP hD hS hA 0 rfl rfl rfl [0] [] rfl rfl rfl rfl rfl hl.1 rfl (Nat.le_of_ble_eq_true rfl) d_14_79_37 ⟨Nat.le_of_ble_eq_true rfl, Nat.le_of_ble_eq_true rfl⟩ (fun u3 H locs hP hD hS => ?_)
  have hP : va_P z.1 classes [(a0, .inr (18, [.ref a1, .ref a2, .int 0, .ref a3, .int 0, .ref a4, .int 1, .null, .int 0, .null, .long 0, .int 0, .null]))] H := hP
  have hD : va_D A [(a0, .inr (18, [.ref a1, .ref a2, .int 0, .ref a3, .int 0, .ref a4, .int 1, .null, .int 0, .null, .long 0, .int 0, .null]))] := hD
  refine W.eq (g2 := F0 m 40 ls [.int 1]) rfl ?_
  refine lv_if_ne (tgt := 68) hx hb d_14_79_40 (by decide) (fun _ => ?_) (fun c9 => absurd c9 (by decide +kernel))
  refine lv_iconst (v := 0) hx hb d_14_79_68 (by decide +kernel) ?_
  refine W.widen (k := 0) (n := 0) (Nat.le_of_ble_eq_true rfl) (Nat.le_of_ble_eq_true rfl) ?_
  exact W.iret hx hb hr (fun t ht hW => qk hP hD hS [0] rfl ((fun k => k), (fun _ _ => none)) rfl rfl rfl ht) hS.2.2 d_14_79_69
set_option maxRecDepth 100000 in
set_option maxHeartbeats 4000000 in
theorem c560_B_needRoom (l : Launch) (z : Zz) : CT l z ⟨"Ballothall", "needRoom", "(II)V"⟩ prog_1_method_58_code 2 none [.int 1, .int 16] [] 0 0 0 0 (fun u => none) (fun u => []) := by
  refine CT.of (own := "Ballothall") (by decide +kernel) (Nat.le_of_ble_eq_true rfl) rfl (fun p e s m below meth c A ls hx hb hml hr hts hown hlocks hin hA hG hZ hP hD hS hl => ?_)
  have hl : lv_has ls 2 [(0, .int 1), (1, .int 16)] := hl
  refine lv_iload_n hx hb d_1_58_0 rfl (lv_at hl 0 rfl) ?_
  refine lv_iload_n hx hb d_1_58_1 rfl (lv_at hl 1 rfl) ?_
  refine lv_icmp_le (tgt := 16) hx hb d_1_58_2 (by decide) (fun _ => ?_) (fun c9 => absurd (by decide +kernel) c9)
  refine W.widen (k := 0) (n := 0) (Nat.le_of_ble_eq_true rfl) (Nat.le_of_ble_eq_true rfl) ?_
  exact W.vret hx hb hr (fun t ht hW => qk hP hD hS [] rfl ((fun k => k), (fun _ _ => none)) rfl rfl rfl ht) hS.2.2 d_1_58_16
set_option maxRecDepth 100000 in
set_option maxHeartbeats 4000000 in
theorem c561_Wards_append (l : Launch) (z : Zz) (a0 a1 a2 a3 a4 a5 a6 : Nat) (g0 : Nat → Option Nat) (x0 : Int32) (x1 : Int32) (x2 : Int32) : CT l z ⟨"Ballothall$Wards", "append", "(III)I"⟩ prog_12_method_2_code 5 (some .int) [.ref a0, .int x0, .int x1, .int x2] [(a0, .inr (10, [.int 0, .ref a1, .ref a2, .ref a3, .ref a4])), (a1, .inl (z.2 0, 16, .inl (fun _ => 0))), (a2, .inl (z.2 8, 2, .inr (.inr (.inr (.inr (va_up (va_up g0 0 (some a5)) 1 (some a6))))))), (a5, .inl (z.2 0, 16, .inl (fun _ => 0))), (a6, .inl (z.2 0, 16, .inl (fun _ => 0)))] 0 0 0 0 (fun u => some (.int 0)) (fun u => [(a0, .inr (10, [.int 1, .ref a1, .ref a2, .ref a3, .ref a4])), (a1, .inl (z.2 0, 16, .inl (upd (fun _ => 0) 0 x0))), (a2, .inl (z.2 8, 2, .inr (.inr (.inr (.inr (va_up (va_up g0 0 (some a5)) 1 (some a6))))))), (a5, .inl (z.2 0, 16, .inl (upd (fun _ => 0) 0 x1))), (a6, .inl (z.2 0, 16, .inl (upd (fun _ => 0) 0 x2)))]) := by
  refine CT.of (own := "Ballothall$Wards") (by decide +kernel) (Nat.le_of_ble_eq_true rfl) rfl (fun p e s m below meth c A ls hx hb hml hr hts hown hlocks hin hA hG hZ hP hD hS hl => ?_)
  have hl : lv_has ls 5 [(0, .ref a0), (1, .int x0), (2, .int x1), (3, .int x2)] := hl
  refine lv_aload_n hx hb d_12_2_0 rfl (lv_at hl 0 rfl) ?_
  refine va_get (D := z.1) (ci := 10) (v := .int 0) (C := "Ballothall$Wards") (T := TX10) (N := 5) hx hb hts iX10 hown hG.1 hP 0 rfl rfl 0 (by decide) (hts _ w_366) (fun _ h9 => h9) rfl d_12_2_1 ?_
  refine lv_istore (lv' := [(4, .int 0), (0, .ref a0), (1, .int x0), (2, .int x1), (3, .int x2)]) hx hb d_12_2_4 hl (by decide) rfl (fun ls hl => ?_)
  refine lv_aload_n hx hb d_12_2_6 rfl (lv_at hl 1 rfl) ?_
  refine va_get (D := z.1) (ci := 10) (v := .ref a1) (C := "Ballothall$Wards") (T := TX10) (N := 5) hx hb hts iX10 hown hG.1 hP 0 rfl rfl 1 (by decide) (hts _ w_368) (fun _ h9 => h9) rfl d_12_2_7 ?_
  refine lv_iload hx hb d_12_2_10 (lv_at hl 0 rfl) ?_
  refine lv_iload_n hx hb d_12_2_12 rfl (lv_at hl 2 rfl) ?_
  refine va_iast hx hb hG.1 hP hD hS 1 0 rfl rfl (vin rfl) d_12_2_13 (fun H locs hP hD hS => ?_)
  have hP : va_P z.1 classes [(a0, .inr (10, [.int 0, .ref a1, .ref a2, .ref a3, .ref a4])), (a1, .inl (z.2 0, 16, .inl (upd (fun _ => 0) 0 x0))), (a2, .inl (z.2 8, 2, .inr (.inr (.inr (.inr (va_up (va_up g0 0 (some a5)) 1 (some a6))))))), (a5, .inl (z.2 0, 16, .inl (fun _ => 0))), (a6, .inl (z.2 0, 16, .inl (fun _ => 0)))] H := hP
  have hD : va_D A [(a0, .inr (10, [.int 0, .ref a1, .ref a2, .ref a3, .ref a4])), (a1, .inl (z.2 0, 16, .inl (upd (fun _ => 0) 0 x0))), (a2, .inl (z.2 8, 2, .inr (.inr (.inr (.inr (va_up (va_up g0 0 (some a5)) 1 (some a6))))))), (a5, .inl (z.2 0, 16, .inl (fun _ => 0))), (a6, .inl (z.2 0, 16, .inl (fun _ => 0)))] := hD
  refine lv_aload_n hx hb d_12_2_14 rfl (lv_at hl 1 rfl) ?_
  refine va_get (D := z.1) (ci := 10) (v := .ref a2) (C := "Ballothall$Wards") (T := TX10) (N := 5) hx hb hts iX10 hown hG.1 hP 0 rfl rfl 2 (by decide) (hts _ w_369) (fun _ h9 => h9) rfl d_12_2_15 ?_
  refine lv_iconst (v := 0) hx hb d_12_2_18 (by decide +kernel) ?_
  refine va_alda hx hb hG.1 hP 2 8 rfl rfl (vin rfl) d_12_2_19 ?_
  refine W.eq (g2 := F0 m 20 ls [.ref a5]) rfl ?_
  refine lv_iload hx hb d_12_2_20 (lv_at hl 0 rfl) ?_
  refine lv_iload_n hx hb d_12_2_22 rfl (lv_at hl 3 rfl) ?_
  refine va_iast hx hb hG.1 hP hD hS 3 0 rfl rfl (vin rfl) d_12_2_23 (fun H locs hP hD hS => ?_)
  have hP : va_P z.1 classes [(a0, .inr (10, [.int 0, .ref a1, .ref a2, .ref a3, .ref a4])), (a1, .inl (z.2 0, 16, .inl (upd (fun _ => 0) 0 x0))), (a2, .inl (z.2 8, 2, .inr (.inr (.inr (.inr (va_up (va_up g0 0 (some a5)) 1 (some a6))))))), (a5, .inl (z.2 0, 16, .inl (upd (fun _ => 0) 0 x1))), (a6, .inl (z.2 0, 16, .inl (fun _ => 0)))] H := hP
  have hD : va_D A [(a0, .inr (10, [.int 0, .ref a1, .ref a2, .ref a3, .ref a4])), (a1, .inl (z.2 0, 16, .inl (upd (fun _ => 0) 0 x0))), (a2, .inl (z.2 8, 2, .inr (.inr (.inr (.inr (va_up (va_up g0 0 (some a5)) 1 (some a6))))))), (a5, .inl (z.2 0, 16, .inl (upd (fun _ => 0) 0 x1))), (a6, .inl (z.2 0, 16, .inl (fun _ => 0)))] := hD
  refine lv_aload_n hx hb d_12_2_24 rfl (lv_at hl 1 rfl) ?_
  refine va_get (D := z.1) (ci := 10) (v := .ref a2) (C := "Ballothall$Wards") (T := TX10) (N := 5) hx hb hts iX10 hown hG.1 hP 0 rfl rfl 2 (by decide) (hts _ w_369) (fun _ h9 => h9) rfl d_12_2_25 ?_
  refine lv_iconst (v := 1) hx hb d_12_2_28 (by decide +kernel) ?_
  refine va_alda hx hb hG.1 hP 2 8 rfl rfl (vin rfl) d_12_2_29 ?_
  refine W.eq (g2 := F0 m 30 ls [.ref a6]) rfl ?_
  refine lv_iload hx hb d_12_2_30 (lv_at hl 0 rfl) ?_
  refine lv_iload_n hx hb d_12_2_32 rfl (lv_at hl 4 rfl) ?_
  refine va_iast hx hb hG.1 hP hD hS 4 0 rfl rfl (vin rfl) d_12_2_33 (fun H locs hP hD hS => ?_)
  have hP : va_P z.1 classes [(a0, .inr (10, [.int 0, .ref a1, .ref a2, .ref a3, .ref a4])), (a1, .inl (z.2 0, 16, .inl (upd (fun _ => 0) 0 x0))), (a2, .inl (z.2 8, 2, .inr (.inr (.inr (.inr (va_up (va_up g0 0 (some a5)) 1 (some a6))))))), (a5, .inl (z.2 0, 16, .inl (upd (fun _ => 0) 0 x1))), (a6, .inl (z.2 0, 16, .inl (upd (fun _ => 0) 0 x2)))] H := hP
  have hD : va_D A [(a0, .inr (10, [.int 0, .ref a1, .ref a2, .ref a3, .ref a4])), (a1, .inl (z.2 0, 16, .inl (upd (fun _ => 0) 0 x0))), (a2, .inl (z.2 8, 2, .inr (.inr (.inr (.inr (va_up (va_up g0 0 (some a5)) 1 (some a6))))))), (a5, .inl (z.2 0, 16, .inl (upd (fun _ => 0) 0 x1))), (a6, .inl (z.2 0, 16, .inl (upd (fun _ => 0) 0 x2)))] := hD
  refine lv_aload_n hx hb d_12_2_34 rfl (lv_at hl 1 rfl) ?_
  refine lv_dup hx hb d_12_2_35 rfl ?_
  refine va_get (D := z.1) (ci := 10) (v := .int 0) (C := "Ballothall$Wards") (T := TX10) (N := 5) hx hb hts iX10 hown hG.1 hP 0 rfl rfl 0 (by decide) (hts _ w_366) (fun _ h9 => h9) rfl d_12_2_36 ?_
  refine lv_iconst (v := 1) hx hb d_12_2_39 (by decide +kernel) ?_
  refine lv_iadd hx hb d_12_2_40 ?_
  refine nrm (x1 := 1) (by decide +kernel) ?_
  refine va_put (D := z.1) (ci := 10) (v := .int 1) (ty := .int) (C := "Ballothall$Wards") (T := TX10) (N := 5) hx hb hts iX10 tyX10 tyX10_ok nmX10 hown hG.1 hP hD hS 0 rfl rfl 0 (by decide) (hts _ w_366) (fun _ h9 => h9) rfl (by decide +kernel) rfl rfl (Nat.le_of_ble_eq_true rfl) d_12_2_41 (fun H locs hP hD hS => ?_)
  have hP : va_P z.1 classes [(a0, .inr (10, [.int 1, .ref a1, .ref a2, .ref a3, .ref a4])), (a1, .inl (z.2 0, 16, .inl (upd (fun _ => 0) 0 x0))), (a2, .inl (z.2 8, 2, .inr (.inr (.inr (.inr (va_up (va_up g0 0 (some a5)) 1 (some a6))))))), (a5, .inl (z.2 0, 16, .inl (upd (fun _ => 0) 0 x1))), (a6, .inl (z.2 0, 16, .inl (upd (fun _ => 0) 0 x2)))] H := hP
  have hD : va_D A [(a0, .inr (10, [.int 1, .ref a1, .ref a2, .ref a3, .ref a4])), (a1, .inl (z.2 0, 16, .inl (upd (fun _ => 0) 0 x0))), (a2, .inl (z.2 8, 2, .inr (.inr (.inr (.inr (va_up (va_up g0 0 (some a5)) 1 (some a6))))))), (a5, .inl (z.2 0, 16, .inl (upd (fun _ => 0) 0 x1))), (a6, .inl (z.2 0, 16, .inl (upd (fun _ => 0) 0 x2)))] := hD
  refine lv_iload hx hb d_12_2_44 (lv_at hl 0 rfl) ?_
  refine W.widen (k := 0) (n := 0) (Nat.le_of_ble_eq_true rfl) (Nat.le_of_ble_eq_true rfl) ?_
  exact W.iret hx hb hr (fun t ht hW => qk hP hD hS [0, 1, 2, 3, 4] rfl ((fun k => k), (fun _ _ => none)) rfl rfl rfl ht) hS.2.2 d_12_2_46
set_option maxRecDepth 100000 in
set_option maxHeartbeats 4000000 in
theorem c562_B_remember (l : Launch) (z : Zz) (a0 a1 a2 a3 a4 a5 a6 a7 a8 a9 a10 a11 : Nat) : CT l z ⟨"Ballothall", "remember", "(III)V"⟩ prog_1_method_61_code 4 none [.ref a0, .int 10, .int 0, .int 0] [(a0, .inr (11, [.ref a1, .ref a2, .ref a3, .ref a4, .ref a5, .ref a6, .ref a7, .ref a8, .ref a9, .ref a10, .int 0, .int 0, .ref a11, .int 0])), (a8, .inl (z.2 0, 20, .inl (fun _ => 0))), (a9, .inl (z.2 0, 20, .inl (fun _ => 0))), (a10, .inl (z.2 0, 20, .inl (fun _ => 0)))] 1 29 0 0 (fun u => none) (fun u => [(a0, .inr (11, [.ref a1, .ref a2, .ref a3, .ref a4, .ref a5, .ref a6, .ref a7, .ref a8, .ref a9, .ref a10, .int 1, .int 1, .ref a11, .int 0])), (a8, .inl (z.2 0, 20, .inl (upd (fun _ => 0) 1 10))), (a9, .inl (z.2 0, 20, .inl (fun _ => 0))), (a10, .inl (z.2 0, 20, .inl (fun _ => 0)))]) := by
  refine CT.of (own := "Ballothall") (by decide +kernel) (Nat.le_of_ble_eq_true rfl) rfl (fun p e s m below meth c A ls hx hb hml hr hts hown hlocks hin hA hG hZ hP hD hS hl => ?_)
  have hl : lv_has ls 4 [(0, .ref a0), (1, .int 10), (2, .int 0), (3, .int 0)] := hl
  refine lv_aload_n hx hb d_1_61_0 rfl (lv_at hl 0 rfl) ?_
  refine lv_aload_n hx hb d_1_61_1 rfl (lv_at hl 0 rfl) ?_
  refine va_get (D := z.1) (ci := 11) (v := .int 0) (C := "Ballothall") (T := TX11) (N := 14) hx hb hts iX11 hown hG.1 hP 0 rfl rfl 10 (by decide) (hts _ w_416) (fun _ h9 => h9) rfl d_1_61_2 ?_
  refine lv_iconst (v := 1) hx hb d_1_61_5 (by decide +kernel) ?_
  refine lv_iadd hx hb d_1_61_6 ?_
  refine nrm (x1 := 1) (by decide +kernel) ?_
  refine lv_bipush (v := 20) hx hb d_1_61_7 (by decide +kernel) ?_
  refine lv_irem hx hb d_1_61_9 (by decide +kernel) ?_
  refine nrm (x1 := 1) (by decide +kernel) ?_
  refine va_put (D := z.1) (ci := 11) (v := .int 1) (ty := .int) (C := "Ballothall") (T := TX11) (N := 14) hx hb hts iX11 tyX11 tyX11_ok nmX11 hown hG.1 hP hD hS 0 rfl rfl 10 (by decide) (hts _ w_416) (fun _ h9 => h9) rfl (by decide +kernel) rfl rfl (Nat.le_of_ble_eq_true rfl) d_1_61_10 (fun H locs hP hD hS => ?_)
  have hP : va_P z.1 classes [(a0, .inr (11, [.ref a1, .ref a2, .ref a3, .ref a4, .ref a5, .ref a6, .ref a7, .ref a8, .ref a9, .ref a10, .int 1, .int 0, .ref a11, .int 0])), (a8, .inl (z.2 0, 20, .inl (fun _ => 0))), (a9, .inl (z.2 0, 20, .inl (fun _ => 0))), (a10, .inl (z.2 0, 20, .inl (fun _ => 0)))] H := hP
  have hD : va_D A [(a0, .inr (11, [.ref a1, .ref a2, .ref a3, .ref a4, .ref a5, .ref a6, .ref a7, .ref a8, .ref a9, .ref a10, .int 1, .int 0, .ref a11, .int 0])), (a8, .inl (z.2 0, 20, .inl (fun _ => 0))), (a9, .inl (z.2 0, 20, .inl (fun _ => 0))), (a10, .inl (z.2 0, 20, .inl (fun _ => 0)))] := hD
  refine lv_aload_n hx hb d_1_61_13 rfl (lv_at hl 0 rfl) ?_
  refine va_get (D := z.1) (ci := 11) (v := .ref a8) (C := "Ballothall") (T := TX11) (N := 14) hx hb hts iX11 hown hG.1 hP 0 rfl rfl 7 (by decide) (hts _ w_413) (fun _ h9 => h9) rfl d_1_61_14 ?_
  refine lv_aload_n hx hb d_1_61_17 rfl (lv_at hl 0 rfl) ?_
  refine va_get (D := z.1) (ci := 11) (v := .int 1) (C := "Ballothall") (T := TX11) (N := 14) hx hb hts iX11 hown hG.1 hP 0 rfl rfl 10 (by decide) (hts _ w_416) (fun _ h9 => h9) rfl d_1_61_18 ?_
  refine lv_iload_n hx hb d_1_61_21 rfl (lv_at hl 1 rfl) ?_
  refine va_iast hx hb hG.1 hP hD hS 1 0 rfl rfl (vin rfl) d_1_61_22 (fun H locs hP hD hS => ?_)
  have hP : va_P z.1 classes [(a0, .inr (11, [.ref a1, .ref a2, .ref a3, .ref a4, .ref a5, .ref a6, .ref a7, .ref a8, .ref a9, .ref a10, .int 1, .int 0, .ref a11, .int 0])), (a8, .inl (z.2 0, 20, .inl (upd (fun _ => 0) 1 10))), (a9, .inl (z.2 0, 20, .inl (fun _ => 0))), (a10, .inl (z.2 0, 20, .inl (fun _ => 0)))] H := hP
  have hD : va_D A [(a0, .inr (11, [.ref a1, .ref a2, .ref a3, .ref a4, .ref a5, .ref a6, .ref a7, .ref a8, .ref a9, .ref a10, .int 1, .int 0, .ref a11, .int 0])), (a8, .inl (z.2 0, 20, .inl (upd (fun _ => 0) 1 10))), (a9, .inl (z.2 0, 20, .inl (fun _ => 0))), (a10, .inl (z.2 0, 20, .inl (fun _ => 0)))] := hD
  refine lv_aload_n hx hb d_1_61_23 rfl (lv_at hl 0 rfl) ?_
  refine va_get (D := z.1) (ci := 11) (v := .ref a9) (C := "Ballothall") (T := TX11) (N := 14) hx hb hts iX11 hown hG.1 hP 0 rfl rfl 8 (by decide) (hts _ w_414) (fun _ h9 => h9) rfl d_1_61_24 ?_
  refine lv_aload_n hx hb d_1_61_27 rfl (lv_at hl 0 rfl) ?_
  refine va_get (D := z.1) (ci := 11) (v := .int 1) (C := "Ballothall") (T := TX11) (N := 14) hx hb hts iX11 hown hG.1 hP 0 rfl rfl 10 (by decide) (hts _ w_416) (fun _ h9 => h9) rfl d_1_61_28 ?_
  refine lv_iload_n hx hb d_1_61_31 rfl (lv_at hl 2 rfl) ?_
  refine va_iast hx hb hG.1 hP hD hS 2 0 rfl rfl (vin rfl) d_1_61_32 (fun H locs hP hD hS => ?_)
  rw [upd_z] at hP hD
  have hP : va_P z.1 classes [(a0, .inr (11, [.ref a1, .ref a2, .ref a3, .ref a4, .ref a5, .ref a6, .ref a7, .ref a8, .ref a9, .ref a10, .int 1, .int 0, .ref a11, .int 0])), (a8, .inl (z.2 0, 20, .inl (upd (fun _ => 0) 1 10))), (a9, .inl (z.2 0, 20, .inl (fun _ => 0))), (a10, .inl (z.2 0, 20, .inl (fun _ => 0)))] H := hP
  have hD : va_D A [(a0, .inr (11, [.ref a1, .ref a2, .ref a3, .ref a4, .ref a5, .ref a6, .ref a7, .ref a8, .ref a9, .ref a10, .int 1, .int 0, .ref a11, .int 0])), (a8, .inl (z.2 0, 20, .inl (upd (fun _ => 0) 1 10))), (a9, .inl (z.2 0, 20, .inl (fun _ => 0))), (a10, .inl (z.2 0, 20, .inl (fun _ => 0)))] := hD
  refine lv_aload_n hx hb d_1_61_33 rfl (lv_at hl 0 rfl) ?_
  refine va_get (D := z.1) (ci := 11) (v := .ref a10) (C := "Ballothall") (T := TX11) (N := 14) hx hb hts iX11 hown hG.1 hP 0 rfl rfl 9 (by decide) (hts _ w_415) (fun _ h9 => h9) rfl d_1_61_34 ?_
  refine lv_aload_n hx hb d_1_61_37 rfl (lv_at hl 0 rfl) ?_
  refine va_get (D := z.1) (ci := 11) (v := .int 1) (C := "Ballothall") (T := TX11) (N := 14) hx hb hts iX11 hown hG.1 hP 0 rfl rfl 10 (by decide) (hts _ w_416) (fun _ h9 => h9) rfl d_1_61_38 ?_
  refine lv_iload_n hx hb d_1_61_41 rfl (lv_at hl 3 rfl) ?_
  refine va_iast hx hb hG.1 hP hD hS 3 0 rfl rfl (vin rfl) d_1_61_42 (fun H locs hP hD hS => ?_)
  rw [upd_z] at hP hD
  have hP : va_P z.1 classes [(a0, .inr (11, [.ref a1, .ref a2, .ref a3, .ref a4, .ref a5, .ref a6, .ref a7, .ref a8, .ref a9, .ref a10, .int 1, .int 0, .ref a11, .int 0])), (a8, .inl (z.2 0, 20, .inl (upd (fun _ => 0) 1 10))), (a9, .inl (z.2 0, 20, .inl (fun _ => 0))), (a10, .inl (z.2 0, 20, .inl (fun _ => 0)))] H := hP
  have hD : va_D A [(a0, .inr (11, [.ref a1, .ref a2, .ref a3, .ref a4, .ref a5, .ref a6, .ref a7, .ref a8, .ref a9, .ref a10, .int 1, .int 0, .ref a11, .int 0])), (a8, .inl (z.2 0, 20, .inl (upd (fun _ => 0) 1 10))), (a9, .inl (z.2 0, 20, .inl (fun _ => 0))), (a10, .inl (z.2 0, 20, .inl (fun _ => 0)))] := hD
  refine lv_aload_n hx hb d_1_61_43 rfl (lv_at hl 0 rfl) ?_
  refine lv_aload_n hx hb d_1_61_44 rfl (lv_at hl 0 rfl) ?_
  refine va_get (D := z.1) (ci := 11) (v := .int 0) (C := "Ballothall") (T := TX11) (N := 14) hx hb hts iX11 hown hG.1 hP 0 rfl rfl 11 (by decide) (hts _ w_417) (fun _ h9 => h9) rfl d_1_61_45 ?_
  refine lv_iconst (v := 1) hx hb d_1_61_48 (by decide +kernel) ?_
  refine lv_iadd hx hb d_1_61_49 ?_
  refine nrm (x1 := 1) (by decide +kernel) ?_
  refine lv_bipush (v := 20) hx hb d_1_61_50 (by decide +kernel) ?_
  refine va_mmin hx hb (by rw [hml]; exact hl.1.symm) hown (hts _ w_845) (hts _ w_550) (hts _ w_18) (hts _ w_min) (Nat.le_of_ble_eq_true rfl) (Nat.le_of_ble_eq_true rfl) (Nat.le_of_ble_eq_true rfl) (Nat.le_of_ble_eq_true rfl) d_1_61_52 ?_
  refine nrm (x1 := 1) (by decide +kernel) ?_
  refine va_put (D := z.1) (ci := 11) (v := .int 1) (ty := .int) (C := "Ballothall") (T := TX11) (N := 14) hx hb hts iX11 tyX11 tyX11_ok nmX11 hown hG.1 hP hD hS 0 rfl rfl 11 (by decide) (hts _ w_417) (fun _ h9 => h9) rfl (by decide +kernel) rfl rfl (Nat.le_of_ble_eq_true rfl) d_1_61_55 (fun H locs hP hD hS => ?_)
  have hP : va_P z.1 classes [(a0, .inr (11, [.ref a1, .ref a2, .ref a3, .ref a4, .ref a5, .ref a6, .ref a7, .ref a8, .ref a9, .ref a10, .int 1, .int 1, .ref a11, .int 0])), (a8, .inl (z.2 0, 20, .inl (upd (fun _ => 0) 1 10))), (a9, .inl (z.2 0, 20, .inl (fun _ => 0))), (a10, .inl (z.2 0, 20, .inl (fun _ => 0)))] H := hP
  have hD : va_D A [(a0, .inr (11, [.ref a1, .ref a2, .ref a3, .ref a4, .ref a5, .ref a6, .ref a7, .ref a8, .ref a9, .ref a10, .int 1, .int 1, .ref a11, .int 0])), (a8, .inl (z.2 0, 20, .inl (upd (fun _ => 0) 1 10))), (a9, .inl (z.2 0, 20, .inl (fun _ => 0))), (a10, .inl (z.2 0, 20, .inl (fun _ => 0)))] := hD
  refine W.widen (k := 0) (n := 0) (Nat.le_of_ble_eq_true rfl) (Nat.le_of_ble_eq_true rfl) ?_
  exact W.vret hx hb hr (fun t ht hW => qk hP hD hS [0, 1, 2, 3] rfl ((fun k => k), (fun _ _ => none)) rfl rfl rfl ht) hS.2.2 d_1_61_58
set_option maxRecDepth 100000 in
set_option maxHeartbeats 4000000 in
theorem c563_B_ward (l : Launch) (z : Zz) (a0 a1 a2 a3 a4 a5 a6 a7 a8 a9 a10 a11 a12 a13 a14 a15 a16 a17 : Nat) (g0 : Nat → Option Nat) (x0 : Int32) (x1 : Int32) (x2 : Int32) (h0 : ¬ x0 < 1) (h1 : ¬ 100000 < x0) (h2 : ¬ x1 < 0) (h3 : ¬ 100000 < x1) (h4 : ¬ x2 < 0) (h5 : ¬ 100000 < x2) : CT l z ⟨"Ballothall", "ward", "(III)I"⟩ prog_1_method_41_code 5 (some .int) [.ref a0, .int x0, .int x1, .int x2] [(a0, .inr (11, [.ref a1, .ref a2, .ref a3, .ref a4, .ref a5, .ref a6, .ref a7, .ref a8, .ref a9, .ref a10, .int 0, .int 0, .ref a11, .int 0])), (a6, .inr (10, [.int 0, .ref a12, .ref a13, .ref a14, .ref a15])), (a12, .inl (z.2 0, 16, .inl (fun _ => 0))), (a13, .inl (z.2 8, 2, .inr (.inr (.inr (.inr (va_up (va_up g0 0 (some a16)) 1 (some a17))))))), (a16, .inl (z.2 0, 16, .inl (fun _ => 0))), (a17, .inl (z.2 0, 16, .inl (fun _ => 0))), (a8, .inl (z.2 0, 20, .inl (fun _ => 0))), (a9, .inl (z.2 0, 20, .inl (fun _ => 0))), (a10, .inl (z.2 0, 20, .inl (fun _ => 0)))] 2 60 0 0 (fun u => some (.int 0)) (fun u => [(a0, .inr (11, [.ref a1, .ref a2, .ref a3, .ref a4, .ref a5, .ref a6, .ref a7, .ref a8, .ref a9, .ref a10, .int 1, .int 1, .ref a11, .int 0])), (a6, .inr (10, [.int 1, .ref a12, .ref a13, .ref a14, .ref a15])), (a12, .inl (z.2 0, 16, .inl (upd (fun _ => 0) 0 x0))), (a13, .inl (z.2 8, 2, .inr (.inr (.inr (.inr (va_up (va_up g0 0 (some a16)) 1 (some a17))))))), (a16, .inl (z.2 0, 16, .inl (upd (fun _ => 0) 0 x1))), (a17, .inl (z.2 0, 16, .inl (upd (fun _ => 0) 0 x2))), (a8, .inl (z.2 0, 20, .inl (upd (fun _ => 0) 1 10))), (a9, .inl (z.2 0, 20, .inl (fun _ => 0))), (a10, .inl (z.2 0, 20, .inl (fun _ => 0)))]) := by
  refine CT.of (own := "Ballothall") (by decide +kernel) (Nat.le_of_ble_eq_true rfl) rfl (fun p e s m below meth c A ls hx hb hml hr hts hown hlocks hin hA hG hZ hP hD hS hl => ?_)
  have hl : lv_has ls 5 [(0, .ref a0), (1, .int x0), (2, .int x1), (3, .int x2)] := hl
  refine lv_iload_n hx hb d_1_41_0 rfl (lv_at hl 1 rfl) ?_
  refine lv_iconst (v := 1) hx hb d_1_41_1 (by decide +kernel) ?_
  refine lv_ldc hx hb hown (hts _ w_912) d_1_41_2 ?_
  refine kS (As := [.int x0, .int 1, .int 100000]) (rest := []) (wr := [(a0, .inr (11, [.ref a1, .ref a2, .ref a3, .ref a4, .ref a5, .ref a6, .ref a7, .ref a8, .ref a9, .ref a10, .int 0, .int 0, .ref a11, .int 0])), (a6, .inr (10, [.int 0, .ref a12, .ref a13, .ref a14, .ref a15])), (a12, .inl (z.2 0, 16, .inl (fun _ => 0))), (a13, .inl (z.2 8, 2, .inr (.inr (.inr (.inr (va_up (va_up g0 0 (some a16)) 1 (some a17))))))), (a16, .inl (z.2 0, 16, .inl (fun _ => 0))), (a17, .inl (z.2 0, 16, .inl (fun _ => 0))), (a8, .inl (z.2 0, 20, .inl (fun _ => 0))), (a9, .inl (z.2 0, 20, .inl (fun _ => 0))), (a10, .inl (z.2 0, 20, .inl (fun _ => 0)))]) (c60_B_needRange l z x0 h0 h1) hx hb hml hown hts w_876 w_874 w_875 w_1 md_519134 ⟨Nat.le_of_ble_eq_true rfl, Nat.le_of_ble_eq_true rfl⟩ hG hZ hP hD hS hA [] [0, 1, 2, 3, 4, 5, 6, 7, 8] rfl rfl rfl rfl rfl hl.1 rfl (Nat.le_of_ble_eq_true rfl) d_1_41_4 ⟨Nat.le_of_ble_eq_true rfl, Nat.le_of_ble_eq_true rfl⟩ (fun u0 H locs hP hD hS => ?_)
  have hP : va_P z.1 classes [(a0, .inr (11, [.ref a1, .ref a2, .ref a3, .ref a4, .ref a5, .ref a6, .ref a7, .ref a8, .ref a9, .ref a10, .int 0, .int 0, .ref a11, .int 0])), (a6, .inr (10, [.int 0, .ref a12, .ref a13, .ref a14, .ref a15])), (a12, .inl (z.2 0, 16, .inl (fun _ => 0))), (a13, .inl (z.2 8, 2, .inr (.inr (.inr (.inr (va_up (va_up g0 0 (some a16)) 1 (some a17))))))), (a16, .inl (z.2 0, 16, .inl (fun _ => 0))), (a17, .inl (z.2 0, 16, .inl (fun _ => 0))), (a8, .inl (z.2 0, 20, .inl (fun _ => 0))), (a9, .inl (z.2 0, 20, .inl (fun _ => 0))), (a10, .inl (z.2 0, 20, .inl (fun _ => 0)))] H := hP
  have hD : va_D A [(a0, .inr (11, [.ref a1, .ref a2, .ref a3, .ref a4, .ref a5, .ref a6, .ref a7, .ref a8, .ref a9, .ref a10, .int 0, .int 0, .ref a11, .int 0])), (a6, .inr (10, [.int 0, .ref a12, .ref a13, .ref a14, .ref a15])), (a12, .inl (z.2 0, 16, .inl (fun _ => 0))), (a13, .inl (z.2 8, 2, .inr (.inr (.inr (.inr (va_up (va_up g0 0 (some a16)) 1 (some a17))))))), (a16, .inl (z.2 0, 16, .inl (fun _ => 0))), (a17, .inl (z.2 0, 16, .inl (fun _ => 0))), (a8, .inl (z.2 0, 20, .inl (fun _ => 0))), (a9, .inl (z.2 0, 20, .inl (fun _ => 0))), (a10, .inl (z.2 0, 20, .inl (fun _ => 0)))] := hD
  refine W.eq (g2 := F0 m 7 ls []) rfl ?_
  refine lv_iload_n hx hb d_1_41_7 rfl (lv_at hl 2 rfl) ?_
  refine lv_iconst (v := 0) hx hb d_1_41_8 (by decide +kernel) ?_
  refine lv_ldc hx hb hown (hts _ w_912) d_1_41_9 ?_
  refine kS (As := [.int x1, .int 0, .int 100000]) (rest := []) (wr := [(a0, .inr (11, [.ref a1, .ref a2, .ref a3, .ref a4, .ref a5, .ref a6, .ref a7, .ref a8, .ref a9, .ref a10, .int 0, .int 0, .ref a11, .int 0])), (a6, .inr (10, [.int 0, .ref a12, .ref a13, .ref a14, .ref a15])), (a12, .inl (z.2 0, 16, .inl (fun _ => 0))), (a13, .inl (z.2 8, 2, .inr (.inr (.inr (.inr (va_up (va_up g0 0 (some a16)) 1 (some a17))))))), (a16, .inl (z.2 0, 16, .inl (fun _ => 0))), (a17, .inl (z.2 0, 16, .inl (fun _ => 0))), (a8, .inl (z.2 0, 20, .inl (fun _ => 0))), (a9, .inl (z.2 0, 20, .inl (fun _ => 0))), (a10, .inl (z.2 0, 20, .inl (fun _ => 0)))]) (c552_B_needRange l z x1 h2 h3) hx hb hml hown hts w_876 w_874 w_875 w_1 md_519134 ⟨Nat.le_of_ble_eq_true rfl, Nat.le_of_ble_eq_true rfl⟩ hG hZ hP hD hS hA [] [0, 1, 2, 3, 4, 5, 6, 7, 8] rfl rfl rfl rfl rfl hl.1 rfl (Nat.le_of_ble_eq_true rfl) d_1_41_11 ⟨Nat.le_of_ble_eq_true rfl, Nat.le_of_ble_eq_true rfl⟩ (fun u1 H locs hP hD hS => ?_)
  have hP : va_P z.1 classes [(a0, .inr (11, [.ref a1, .ref a2, .ref a3, .ref a4, .ref a5, .ref a6, .ref a7, .ref a8, .ref a9, .ref a10, .int 0, .int 0, .ref a11, .int 0])), (a6, .inr (10, [.int 0, .ref a12, .ref a13, .ref a14, .ref a15])), (a12, .inl (z.2 0, 16, .inl (fun _ => 0))), (a13, .inl (z.2 8, 2, .inr (.inr (.inr (.inr (va_up (va_up g0 0 (some a16)) 1 (some a17))))))), (a16, .inl (z.2 0, 16, .inl (fun _ => 0))), (a17, .inl (z.2 0, 16, .inl (fun _ => 0))), (a8, .inl (z.2 0, 20, .inl (fun _ => 0))), (a9, .inl (z.2 0, 20, .inl (fun _ => 0))), (a10, .inl (z.2 0, 20, .inl (fun _ => 0)))] H := hP
  have hD : va_D A [(a0, .inr (11, [.ref a1, .ref a2, .ref a3, .ref a4, .ref a5, .ref a6, .ref a7, .ref a8, .ref a9, .ref a10, .int 0, .int 0, .ref a11, .int 0])), (a6, .inr (10, [.int 0, .ref a12, .ref a13, .ref a14, .ref a15])), (a12, .inl (z.2 0, 16, .inl (fun _ => 0))), (a13, .inl (z.2 8, 2, .inr (.inr (.inr (.inr (va_up (va_up g0 0 (some a16)) 1 (some a17))))))), (a16, .inl (z.2 0, 16, .inl (fun _ => 0))), (a17, .inl (z.2 0, 16, .inl (fun _ => 0))), (a8, .inl (z.2 0, 20, .inl (fun _ => 0))), (a9, .inl (z.2 0, 20, .inl (fun _ => 0))), (a10, .inl (z.2 0, 20, .inl (fun _ => 0)))] := hD
  refine W.eq (g2 := F0 m 14 ls []) rfl ?_
  refine lv_iload_n hx hb d_1_41_14 rfl (lv_at hl 3 rfl) ?_
  refine lv_iconst (v := 0) hx hb d_1_41_15 (by decide +kernel) ?_
  refine lv_ldc hx hb hown (hts _ w_912) d_1_41_16 ?_
  refine kS (As := [.int x2, .int 0, .int 100000]) (rest := []) (wr := [(a0, .inr (11, [.ref a1, .ref a2, .ref a3, .ref a4, .ref a5, .ref a6, .ref a7, .ref a8, .ref a9, .ref a10, .int 0, .int 0, .ref a11, .int 0])), (a6, .inr (10, [.int 0, .ref a12, .ref a13, .ref a14, .ref a15])), (a12, .inl (z.2 0, 16, .inl (fun _ => 0))), (a13, .inl (z.2 8, 2, .inr (.inr (.inr (.inr (va_up (va_up g0 0 (some a16)) 1 (some a17))))))), (a16, .inl (z.2 0, 16, .inl (fun _ => 0))), (a17, .inl (z.2 0, 16, .inl (fun _ => 0))), (a8, .inl (z.2 0, 20, .inl (fun _ => 0))), (a9, .inl (z.2 0, 20, .inl (fun _ => 0))), (a10, .inl (z.2 0, 20, .inl (fun _ => 0)))]) (c552_B_needRange l z x2 h4 h5) hx hb hml hown hts w_876 w_874 w_875 w_1 md_519134 ⟨Nat.le_of_ble_eq_true rfl, Nat.le_of_ble_eq_true rfl⟩ hG hZ hP hD hS hA [] [0, 1, 2, 3, 4, 5, 6, 7, 8] rfl rfl rfl rfl rfl hl.1 rfl (Nat.le_of_ble_eq_true rfl) d_1_41_18 ⟨Nat.le_of_ble_eq_true rfl, Nat.le_of_ble_eq_true rfl⟩ (fun u2 H locs hP hD hS => ?_)
  have hP : va_P z.1 classes [(a0, .inr (11, [.ref a1, .ref a2, .ref a3, .ref a4, .ref a5, .ref a6, .ref a7, .ref a8, .ref a9, .ref a10, .int 0, .int 0, .ref a11, .int 0])), (a6, .inr (10, [.int 0, .ref a12, .ref a13, .ref a14, .ref a15])), (a12, .inl (z.2 0, 16, .inl (fun _ => 0))), (a13, .inl (z.2 8, 2, .inr (.inr (.inr (.inr (va_up (va_up g0 0 (some a16)) 1 (some a17))))))), (a16, .inl (z.2 0, 16, .inl (fun _ => 0))), (a17, .inl (z.2 0, 16, .inl (fun _ => 0))), (a8, .inl (z.2 0, 20, .inl (fun _ => 0))), (a9, .inl (z.2 0, 20, .inl (fun _ => 0))), (a10, .inl (z.2 0, 20, .inl (fun _ => 0)))] H := hP
  have hD : va_D A [(a0, .inr (11, [.ref a1, .ref a2, .ref a3, .ref a4, .ref a5, .ref a6, .ref a7, .ref a8, .ref a9, .ref a10, .int 0, .int 0, .ref a11, .int 0])), (a6, .inr (10, [.int 0, .ref a12, .ref a13, .ref a14, .ref a15])), (a12, .inl (z.2 0, 16, .inl (fun _ => 0))), (a13, .inl (z.2 8, 2, .inr (.inr (.inr (.inr (va_up (va_up g0 0 (some a16)) 1 (some a17))))))), (a16, .inl (z.2 0, 16, .inl (fun _ => 0))), (a17, .inl (z.2 0, 16, .inl (fun _ => 0))), (a8, .inl (z.2 0, 20, .inl (fun _ => 0))), (a9, .inl (z.2 0, 20, .inl (fun _ => 0))), (a10, .inl (z.2 0, 20, .inl (fun _ => 0)))] := hD
  refine W.eq (g2 := F0 m 21 ls []) rfl ?_
  refine lv_aload_n hx hb d_1_41_21 rfl (lv_at hl 0 rfl) ?_
  refine va_get (D := z.1) (ci := 11) (v := .ref a6) (C := "Ballothall") (T := TX11) (N := 14) hx hb hts iX11 hown hG.1 hP 0 rfl rfl 5 (by decide) (hts _ w_411) (fun _ h9 => h9) rfl d_1_41_22 ?_
  refine va_getN (D := z.1) (ci := 10) (v := .int 0) (C := "Ballothall$Wards") (T := TX10) (N := 5) hx hb hts iX10 hown hG.1 hP 1 rfl rfl 0 (by decide) (va_Nw.use rfl (hG.2.1 _ n_367 rfl)) (fun _ h9 => h9) rfl d_1_41_25 ?_
  refine lv_iconst (v := 1) hx hb d_1_41_28 (by decide +kernel) ?_
  refine lv_iadd hx hb d_1_41_29 ?_
  refine nrm (x1 := 1) (by decide +kernel) ?_
  refine lv_bipush (v := 16) hx hb d_1_41_30 (by decide +kernel) ?_
  refine kS (As := [.int 1, .int 16]) (rest := []) (wr := [(a0, .inr (11, [.ref a1, .ref a2, .ref a3, .ref a4, .ref a5, .ref a6, .ref a7, .ref a8, .ref a9, .ref a10, .int 0, .int 0, .ref a11, .int 0])), (a6, .inr (10, [.int 0, .ref a12, .ref a13, .ref a14, .ref a15])), (a12, .inl (z.2 0, 16, .inl (fun _ => 0))), (a13, .inl (z.2 8, 2, .inr (.inr (.inr (.inr (va_up (va_up g0 0 (some a16)) 1 (some a17))))))), (a16, .inl (z.2 0, 16, .inl (fun _ => 0))), (a17, .inl (z.2 0, 16, .inl (fun _ => 0))), (a8, .inl (z.2 0, 20, .inl (fun _ => 0))), (a9, .inl (z.2 0, 20, .inl (fun _ => 0))), (a10, .inl (z.2 0, 20, .inl (fun _ => 0)))]) (c560_B_needRoom l z ) hx hb hml hown hts w_771 w_769 w_770 w_1 md_ec9fa9 ⟨Nat.le_of_ble_eq_true rfl, Nat.le_of_ble_eq_true rfl⟩ hG hZ hP hD hS hA [] [0, 1, 2, 3, 4, 5, 6, 7, 8] rfl rfl rfl rfl rfl hl.1 rfl (Nat.le_of_ble_eq_true rfl) d_1_41_32 ⟨Nat.le_of_ble_eq_true rfl, Nat.le_of_ble_eq_true rfl⟩ (fun u3 H locs hP hD hS => ?_)
  have hP : va_P z.1 classes [(a0, .inr (11, [.ref a1, .ref a2, .ref a3, .ref a4, .ref a5, .ref a6, .ref a7, .ref a8, .ref a9, .ref a10, .int 0, .int 0, .ref a11, .int 0])), (a6, .inr (10, [.int 0, .ref a12, .ref a13, .ref a14, .ref a15])), (a12, .inl (z.2 0, 16, .inl (fun _ => 0))), (a13, .inl (z.2 8, 2, .inr (.inr (.inr (.inr (va_up (va_up g0 0 (some a16)) 1 (some a17))))))), (a16, .inl (z.2 0, 16, .inl (fun _ => 0))), (a17, .inl (z.2 0, 16, .inl (fun _ => 0))), (a8, .inl (z.2 0, 20, .inl (fun _ => 0))), (a9, .inl (z.2 0, 20, .inl (fun _ => 0))), (a10, .inl (z.2 0, 20, .inl (fun _ => 0)))] H := hP
  have hD : va_D A [(a0, .inr (11, [.ref a1, .ref a2, .ref a3, .ref a4, .ref a5, .ref a6, .ref a7, .ref a8, .ref a9, .ref a10, .int 0, .int 0, .ref a11, .int 0])), (a6, .inr (10, [.int 0, .ref a12, .ref a13, .ref a14, .ref a15])), (a12, .inl (z.2 0, 16, .inl (fun _ => 0))), (a13, .inl (z.2 8, 2, .inr (.inr (.inr (.inr (va_up (va_up g0 0 (some a16)) 1 (some a17))))))), (a16, .inl (z.2 0, 16, .inl (fun _ => 0))), (a17, .inl (z.2 0, 16, .inl (fun _ => 0))), (a8, .inl (z.2 0, 20, .inl (fun _ => 0))), (a9, .inl (z.2 0, 20, .inl (fun _ => 0))), (a10, .inl (z.2 0, 20, .inl (fun _ => 0)))] := hD
  refine W.eq (g2 := F0 m 35 ls []) rfl ?_
  refine lv_aload_n hx hb d_1_41_35 rfl (lv_at hl 0 rfl) ?_
  refine va_get (D := z.1) (ci := 11) (v := .ref a6) (C := "Ballothall") (T := TX11) (N := 14) hx hb hts iX11 hown hG.1 hP 0 rfl rfl 5 (by decide) (hts _ w_411) (fun _ h9 => h9) rfl d_1_41_36 ?_
  refine lv_iload_n hx hb d_1_41_39 rfl (lv_at hl 1 rfl) ?_
  refine lv_iload_n hx hb d_1_41_40 rfl (lv_at hl 2 rfl) ?_
  refine lv_iload_n hx hb d_1_41_41 rfl (lv_at hl 3 rfl) ?_
  refine kVN (As := [.int x0, .int x1, .int x2]) (rest := []) (wr := [(a0, .inr (11, [.ref a1, .ref a2, .ref a3, .ref a4, .ref a5, .ref a6, .ref a7, .ref a8, .ref a9, .ref a10, .int 0, .int 0, .ref a11, .int 0])), (a8, .inl (z.2 0, 20, .inl (fun _ => 0))), (a9, .inl (z.2 0, 20, .inl (fun _ => 0))), (a10, .inl (z.2 0, 20, .inl (fun _ => 0)))]) (c561_Wards_append l z a6 a12 a13 a14 a15 a16 a17 g0 x0 x1 x2) hx hb hml hown hts w_1461 n_1458 w_1460 w_s_c4bf49 w_10 md_d51d3b ⟨Nat.le_of_ble_eq_true rfl, Nat.le_of_ble_eq_true rfl⟩ hG hZ hP hD hS hA 1 rfl rfl rfl [1, 2, 3, 4, 5] [0, 6, 7, 8] rfl rfl rfl rfl rfl hl.1 rfl (Nat.le_of_ble_eq_true rfl) d_1_41_42 ⟨Nat.le_of_ble_eq_true rfl, Nat.le_of_ble_eq_true rfl⟩ (fun u4 H locs hP hD hS => ?_)
  have hP : va_P z.1 classes [(a0, .inr (11, [.ref a1, .ref a2, .ref a3, .ref a4, .ref a5, .ref a6, .ref a7, .ref a8, .ref a9, .ref a10, .int 0, .int 0, .ref a11, .int 0])), (a8, .inl (z.2 0, 20, .inl (fun _ => 0))), (a9, .inl (z.2 0, 20, .inl (fun _ => 0))), (a10, .inl (z.2 0, 20, .inl (fun _ => 0))), (a6, .inr (10, [.int 1, .ref a12, .ref a13, .ref a14, .ref a15])), (a12, .inl (z.2 0, 16, .inl (upd (fun _ => 0) 0 x0))), (a13, .inl (z.2 8, 2, .inr (.inr (.inr (.inr (va_up (va_up g0 0 (some a16)) 1 (some a17))))))), (a16, .inl (z.2 0, 16, .inl (upd (fun _ => 0) 0 x1))), (a17, .inl (z.2 0, 16, .inl (upd (fun _ => 0) 0 x2)))] H := hP
  have hD : va_D A [(a0, .inr (11, [.ref a1, .ref a2, .ref a3, .ref a4, .ref a5, .ref a6, .ref a7, .ref a8, .ref a9, .ref a10, .int 0, .int 0, .ref a11, .int 0])), (a8, .inl (z.2 0, 20, .inl (fun _ => 0))), (a9, .inl (z.2 0, 20, .inl (fun _ => 0))), (a10, .inl (z.2 0, 20, .inl (fun _ => 0))), (a6, .inr (10, [.int 1, .ref a12, .ref a13, .ref a14, .ref a15])), (a12, .inl (z.2 0, 16, .inl (upd (fun _ => 0) 0 x0))), (a13, .inl (z.2 8, 2, .inr (.inr (.inr (.inr (va_up (va_up g0 0 (some a16)) 1 (some a17))))))), (a16, .inl (z.2 0, 16, .inl (upd (fun _ => 0) 0 x1))), (a17, .inl (z.2 0, 16, .inl (upd (fun _ => 0) 0 x2)))] := hD
  refine W.eq (g2 := F0 m 45 ls [.int 0]) rfl ?_
  refine lv_istore (lv' := [(4, .int 0), (0, .ref a0), (1, .int x0), (2, .int x1), (3, .int x2)]) hx hb d_1_41_45 hl (by decide) rfl (fun ls hl => ?_)
  refine lv_aload_n hx hb d_1_41_47 rfl (lv_at hl 1 rfl) ?_
  refine lv_bipush (v := 10) hx hb d_1_41_48 (by decide +kernel) ?_
  refine lv_iload hx hb d_1_41_50 (lv_at hl 0 rfl) ?_
  refine lv_iconst (v := 0) hx hb d_1_41_52 (by decide +kernel) ?_
  refine kV (As := [.int 10, .int 0, .int 0]) (rest := []) (wr := [(a6, .inr (10, [.int 1, .ref a12, .ref a13, .ref a14, .ref a15])), (a12, .inl (z.2 0, 16, .inl (upd (fun _ => 0) 0 x0))), (a13, .inl (z.2 8, 2, .inr (.inr (.inr (.inr (va_up (va_up g0 0 (some a16)) 1 (some a17))))))), (a16, .inl (z.2 0, 16, .inl (upd (fun _ => 0) 0 x1))), (a17, .inl (z.2 0, 16, .inl (upd (fun _ => 0) 0 x2)))]) (c562_B_remember l z a0 a1 a2 a3 a4 a5 a6 a7 a8 a9 a10 a11) hx hb hml hown hts w_844 w_841 w_843 w_s_b872b3 w_1 md_7af0bb ⟨Nat.le_of_ble_eq_true rfl, Nat.le_of_ble_eq_true rfl⟩ hG hZ hP hD hS hA 0 rfl rfl rfl [0, 1, 2, 3] [4, 5, 6, 7, 8] rfl rfl rfl rfl rfl hl.1 rfl (Nat.le_of_ble_eq_true rfl) d_1_41_53 ⟨Nat.le_of_ble_eq_true rfl, Nat.le_of_ble_eq_true rfl⟩ (fun u5 H locs hP hD hS => ?_)
  have hP : va_P z.1 classes [(a6, .inr (10, [.int 1, .ref a12, .ref a13, .ref a14, .ref a15])), (a12, .inl (z.2 0, 16, .inl (upd (fun _ => 0) 0 x0))), (a13, .inl (z.2 8, 2, .inr (.inr (.inr (.inr (va_up (va_up g0 0 (some a16)) 1 (some a17))))))), (a16, .inl (z.2 0, 16, .inl (upd (fun _ => 0) 0 x1))), (a17, .inl (z.2 0, 16, .inl (upd (fun _ => 0) 0 x2))), (a0, .inr (11, [.ref a1, .ref a2, .ref a3, .ref a4, .ref a5, .ref a6, .ref a7, .ref a8, .ref a9, .ref a10, .int 1, .int 1, .ref a11, .int 0])), (a8, .inl (z.2 0, 20, .inl (upd (fun _ => 0) 1 10))), (a9, .inl (z.2 0, 20, .inl (fun _ => 0))), (a10, .inl (z.2 0, 20, .inl (fun _ => 0)))] H := hP
  have hD : va_D A [(a6, .inr (10, [.int 1, .ref a12, .ref a13, .ref a14, .ref a15])), (a12, .inl (z.2 0, 16, .inl (upd (fun _ => 0) 0 x0))), (a13, .inl (z.2 8, 2, .inr (.inr (.inr (.inr (va_up (va_up g0 0 (some a16)) 1 (some a17))))))), (a16, .inl (z.2 0, 16, .inl (upd (fun _ => 0) 0 x1))), (a17, .inl (z.2 0, 16, .inl (upd (fun _ => 0) 0 x2))), (a0, .inr (11, [.ref a1, .ref a2, .ref a3, .ref a4, .ref a5, .ref a6, .ref a7, .ref a8, .ref a9, .ref a10, .int 1, .int 1, .ref a11, .int 0])), (a8, .inl (z.2 0, 20, .inl (upd (fun _ => 0) 1 10))), (a9, .inl (z.2 0, 20, .inl (fun _ => 0))), (a10, .inl (z.2 0, 20, .inl (fun _ => 0)))] := hD
  refine W.eq (g2 := F0 m 56 ls []) rfl ?_
  refine lv_iload hx hb d_1_41_56 (lv_at hl 0 rfl) ?_
  refine W.widen (k := 0) (n := 0) (Nat.le_of_ble_eq_true rfl) (Nat.le_of_ble_eq_true rfl) ?_
  exact W.iret hx hb hr (fun t ht hW => qk hP hD hS [5, 0, 1, 2, 3, 4, 6, 7, 8] rfl ((fun k => k), (fun _ _ => none)) rfl rfl rfl ht) hS.2.2 d_1_41_58
set_option maxRecDepth 100000 in
set_option maxHeartbeats 4000000 in
theorem c564_BLaw_ward (l : Launch) (z : Zz) (a0 a1 a2 a3 a4 a5 a6 a7 a8 a9 a10 a11 a12 a13 a14 a15 a16 a17 a18 : Nat) (g0 : Nat → Option Nat) (x0 : Int32) (x1 : Int32) (x2 : Int32) (h0 : ¬ x0 < 1) (h1 : ¬ 100000 < x0) (h2 : ¬ x1 < 0) (h3 : ¬ 100000 < x1) (h4 : ¬ x2 < 0) (h5 : ¬ 100000 < x2) : HT l z ⟨"BallothallLaw", "ward", "(LBallothall;III[J)I"⟩ method_33_code 6 (some .int) [(0, 12, 15, 21), (0, 12, 19, 13)] [.ref a0, .int x0, .int x1, .int x2, .ref a1] [(a0, .inr (11, [.ref a2, .ref a3, .ref a4, .ref a5, .ref a6, .ref a7, .ref a8, .ref a9, .ref a10, .ref a11, .int 0, .int 0, .ref a12, .int 0])), (a7, .inr (10, [.int 0, .ref a13, .ref a14, .ref a15, .ref a16])), (a13, .inl (z.2 0, 16, .inl (fun _ => 0))), (a14, .inl (z.2 8, 2, .inr (.inr (.inr (.inr (va_up (va_up g0 0 (some a17)) 1 (some a18))))))), (a17, .inl (z.2 0, 16, .inl (fun _ => 0))), (a18, .inl (z.2 0, 16, .inl (fun _ => 0))), (a9, .inl (z.2 0, 20, .inl (fun _ => 0))), (a10, .inl (z.2 0, 20, .inl (fun _ => 0))), (a11, .inl (z.2 0, 20, .inl (fun _ => 0))), (a1, .inl (z.2 1, 1, .inr (.inl (fun _ => 0))))] 3 92 0 0 (fun u => some (.int 0)) (fun u => [(a0, .inr (11, [.ref a2, .ref a3, .ref a4, .ref a5, .ref a6, .ref a7, .ref a8, .ref a9, .ref a10, .ref a11, .int 1, .int 1, .ref a12, .int 0])), (a7, .inr (10, [.int 1, .ref a13, .ref a14, .ref a15, .ref a16])), (a13, .inl (z.2 0, 16, .inl (upd (fun _ => 0) 0 x0))), (a14, .inl (z.2 8, 2, .inr (.inr (.inr (.inr (va_up (va_up g0 0 (some a17)) 1 (some a18))))))), (a17, .inl (z.2 0, 16, .inl (upd (fun _ => 0) 0 x1))), (a18, .inl (z.2 0, 16, .inl (upd (fun _ => 0) 0 x2))), (a9, .inl (z.2 0, 20, .inl (upd (fun _ => 0) 1 10))), (a10, .inl (z.2 0, 20, .inl (fun _ => 0))), (a11, .inl (z.2 0, 20, .inl (fun _ => 0))), (a1, .inl (z.2 1, 1, .inr (.inl (fun _ => 0))))]) := by
  refine HT.of (own := "BallothallLaw") (by decide +kernel) (Nat.le_of_ble_eq_true rfl) rfl (fun p e s m below meth c A ls hx hb hml hr hts hown hlocks hin hA hG hZ hP hD hS hl htab => ?_)
  have hl : lv_has ls 6 [(0, .ref a0), (1, .int x0), (2, .int x1), (3, .int x2), (4, .ref a1)] := hl
  refine lv_aload hx hb d_L33_0 (lv_at hl 4 rfl) ?_
  refine lv_iconst (v := 0) hx hb d_L33_2 (by decide +kernel) ?_
  refine lv_aload_n hx hb d_L33_3 rfl (lv_at hl 0 rfl) ?_
  refine lv_iload_n hx hb d_L33_4 rfl (lv_at hl 1 rfl) ?_
  refine lv_iload_n hx hb d_L33_5 rfl (lv_at hl 2 rfl) ?_
  refine lv_iload_n hx hb d_L33_6 rfl (lv_at hl 3 rfl) ?_
  refine kV (As := [.int x0, .int x1, .int x2]) (rest := [.int 0, .ref a1]) (wr := [(a1, .inl (z.2 1, 1, .inr (.inl (fun _ => 0))))]) (c563_B_ward l z a0 a2 a3 a4 a5 a6 a7 a8 a9 a10 a11 a12 a13 a14 a15 a16 a17 a18 g0 x0 x1 x2 h0 h1 h2 h3 h4 h5) hx hb hml hown hts w_1457 w_1454 w_1455 w_1456 w_1 md_8c59c6 ⟨Nat.le_of_ble_eq_true rfl, Nat.le_of_ble_eq_true rfl⟩ hG hZ hP hD hS hA 0 rfl rfl rfl [0, 1, 2, 3, 4, 5, 6, 7, 8] [9] rfl rfl rfl rfl rfl hl.1 rfl (Nat.le_of_ble_eq_true rfl) d_L33_7 ⟨Nat.le_of_ble_eq_true rfl, Nat.le_of_ble_eq_true rfl⟩ (fun u0 H locs hP hD hS => ?_)
  have hP : va_P z.1 classes [(a1, .inl (z.2 1, 1, .inr (.inl (fun _ => 0)))), (a0, .inr (11, [.ref a2, .ref a3, .ref a4, .ref a5, .ref a6, .ref a7, .ref a8, .ref a9, .ref a10, .ref a11, .int 1, .int 1, .ref a12, .int 0])), (a7, .inr (10, [.int 1, .ref a13, .ref a14, .ref a15, .ref a16])), (a13, .inl (z.2 0, 16, .inl (upd (fun _ => 0) 0 x0))), (a14, .inl (z.2 8, 2, .inr (.inr (.inr (.inr (va_up (va_up g0 0 (some a17)) 1 (some a18))))))), (a17, .inl (z.2 0, 16, .inl (upd (fun _ => 0) 0 x1))), (a18, .inl (z.2 0, 16, .inl (upd (fun _ => 0) 0 x2))), (a9, .inl (z.2 0, 20, .inl (upd (fun _ => 0) 1 10))), (a10, .inl (z.2 0, 20, .inl (fun _ => 0))), (a11, .inl (z.2 0, 20, .inl (fun _ => 0)))] H := hP
  have hD : va_D A [(a1, .inl (z.2 1, 1, .inr (.inl (fun _ => 0)))), (a0, .inr (11, [.ref a2, .ref a3, .ref a4, .ref a5, .ref a6, .ref a7, .ref a8, .ref a9, .ref a10, .ref a11, .int 1, .int 1, .ref a12, .int 0])), (a7, .inr (10, [.int 1, .ref a13, .ref a14, .ref a15, .ref a16])), (a13, .inl (z.2 0, 16, .inl (upd (fun _ => 0) 0 x0))), (a14, .inl (z.2 8, 2, .inr (.inr (.inr (.inr (va_up (va_up g0 0 (some a17)) 1 (some a18))))))), (a17, .inl (z.2 0, 16, .inl (upd (fun _ => 0) 0 x1))), (a18, .inl (z.2 0, 16, .inl (upd (fun _ => 0) 0 x2))), (a9, .inl (z.2 0, 20, .inl (upd (fun _ => 0) 1 10))), (a10, .inl (z.2 0, 20, .inl (fun _ => 0))), (a11, .inl (z.2 0, 20, .inl (fun _ => 0)))] := hD
  refine W.eq (g2 := F0 m 10 ls [.int 0, .int 0, .ref a1]) rfl ?_
  refine lv_i2l (v := 0) hx hb d_L33_10 (by decide +kernel) ?_
  refine va_last hx hb hG.1 hP hD hS 0 1 rfl rfl (vin rfl) d_L33_11 (fun H locs hP hD hS => ?_)
  rw [updL_z] at hP hD
  have hP : va_P z.1 classes [(a1, .inl (z.2 1, 1, .inr (.inl (fun _ => 0)))), (a0, .inr (11, [.ref a2, .ref a3, .ref a4, .ref a5, .ref a6, .ref a7, .ref a8, .ref a9, .ref a10, .ref a11, .int 1, .int 1, .ref a12, .int 0])), (a7, .inr (10, [.int 1, .ref a13, .ref a14, .ref a15, .ref a16])), (a13, .inl (z.2 0, 16, .inl (upd (fun _ => 0) 0 x0))), (a14, .inl (z.2 8, 2, .inr (.inr (.inr (.inr (va_up (va_up g0 0 (some a17)) 1 (some a18))))))), (a17, .inl (z.2 0, 16, .inl (upd (fun _ => 0) 0 x1))), (a18, .inl (z.2 0, 16, .inl (upd (fun _ => 0) 0 x2))), (a9, .inl (z.2 0, 20, .inl (upd (fun _ => 0) 1 10))), (a10, .inl (z.2 0, 20, .inl (fun _ => 0))), (a11, .inl (z.2 0, 20, .inl (fun _ => 0)))] H := hP
  have hD : va_D A [(a1, .inl (z.2 1, 1, .inr (.inl (fun _ => 0)))), (a0, .inr (11, [.ref a2, .ref a3, .ref a4, .ref a5, .ref a6, .ref a7, .ref a8, .ref a9, .ref a10, .ref a11, .int 1, .int 1, .ref a12, .int 0])), (a7, .inr (10, [.int 1, .ref a13, .ref a14, .ref a15, .ref a16])), (a13, .inl (z.2 0, 16, .inl (upd (fun _ => 0) 0 x0))), (a14, .inl (z.2 8, 2, .inr (.inr (.inr (.inr (va_up (va_up g0 0 (some a17)) 1 (some a18))))))), (a17, .inl (z.2 0, 16, .inl (upd (fun _ => 0) 0 x1))), (a18, .inl (z.2 0, 16, .inl (upd (fun _ => 0) 0 x2))), (a9, .inl (z.2 0, 20, .inl (upd (fun _ => 0) 1 10))), (a10, .inl (z.2 0, 20, .inl (fun _ => 0))), (a11, .inl (z.2 0, 20, .inl (fun _ => 0)))] := hD
  refine lv_goto (tgt := 23) hx hb d_L33_12 (by decide) ?_
  refine lv_iconst (v := 0) hx hb d_L33_23 (by decide +kernel) ?_
  refine W.widen (k := 0) (n := 0) (Nat.le_of_ble_eq_true rfl) (Nat.le_of_ble_eq_true rfl) ?_
  refine vx_ret ?_
  exact W.iret hx hb hr (fun t ht hW => qk hP hD hS [1, 2, 3, 4, 5, 6, 7, 8, 9, 0] rfl ((fun k => k), (fun _ _ => none)) rfl rfl rfl ht) hS.2.2 d_L33_24
set_option maxRecDepth 100000 in
set_option maxHeartbeats 4000000 in
theorem c565_BModel_ward (l : Launch) (z : Zz) (a0 a1 a2 a3 a4 a5 a6 a7 a8 a9 a10 a11 a12 a13 : Nat) (x0 : Int32) (x1 : Int32) (x2 : Int32) (h0 : ¬ x0 < 1) (h1 : ¬ 100000 < x0) (h2 : ¬ x1 < 0) (h3 : ¬ 100000 < x1) (h4 : ¬ x2 < 0) (h5 : ¬ 100000 < x2) : CT l z ⟨"BallothallModel", "ward", "(III)I"⟩ prog_14_method_79_code 4 (some .int) [.ref a0, .int x0, .int x1, .int x2] [(a0, .inr (18, [.ref a1, .ref a2, .int 0, .ref a3, .int 0, .ref a4, .int 0, .null, .int 0, .null, .long 0, .int 0, .null])), (a1, .inr (17, [.int 0, .ref a5, .ref a6, .int 0, .ref a7, .ref a8, .ref a9, .null, .null, .int 0, .ref a10, .ref a11, .ref a12, .int 0, .ref a13, .int 1])), (a5, .inl (z.2 0, 8, .inl (fun _ => 0))), (a7, .inl (z.2 0, 8, .inl (fun _ => 0))), (a8, .inl (z.2 0, 8, .inl (fun _ => 0))), (a9, .inl (z.2 0, 8, .inl (fun _ => 0))), (a10, .inl (z.2 0, 16, .inl (fun _ => 0))), (a11, .inl (z.2 0, 16, .inl (fun _ => 0))), (a12, .inl (z.2 0, 16, .inl (fun _ => 0))), (a13, .inl (z.2 0, 12, .inl (fun _ => 0))), (a2, .inl (z.2 6, 20, .inr (.inr (.inr (.inr (fun _ => none))))))] 4 118 10 108 (fun u => some (.int 0)) (fun u => [(a0, .inr (18, [.ref a1, .ref a2, .int 1, .ref a3, .int 0, .ref a4, .int 0, .null, .int 0, .null, .long 0, .int 0, .null])), (a1, .inr (17, [.int 0, .ref a5, .ref a6, .int 0, .ref a7, .ref a8, .ref a9, .null, .null, .int 1, .ref a10, .ref a11, .ref a12, .int 0, .ref a13, .int 1])), (a5, .inl (z.2 0, 8, .inl (fun _ => 0))), (a7, .inl (z.2 0, 8, .inl (fun _ => 0))), (a8, .inl (z.2 0, 8, .inl (fun _ => 0))), (a9, .inl (z.2 0, 8, .inl (fun _ => 0))), (a10, .inl (z.2 0, 16, .inl (upd (fun _ => 0) 0 x0))), (a11, .inl (z.2 0, 16, .inl (upd (fun _ => 0) 0 x1))), (a12, .inl (z.2 0, 16, .inl (upd (fun _ => 0) 0 x2))), (a13, .inl (z.2 0, 12, .inl (fun _ => 0))), (a2, .inl (z.2 6, 20, .inr (.inr (.inr (.inr (va_up (fun _ => none) 0 (some (u.1 0))))))))]) := by
  refine CT.of (own := "BallothallModel") (by decide +kernel) (Nat.le_of_ble_eq_true rfl) rfl (fun p e s m below meth c A ls hx hb hml hr hts hown hlocks hin hA hG hZ hP hD hS hl => ?_)
  have hl : lv_has ls 4 [(0, .ref a0), (1, .int x0), (2, .int x1), (3, .int x2)] := hl
  refine lv_aload_n hx hb d_14_79_0 rfl (lv_at hl 0 rfl) ?_
  refine lv_iload_n hx hb d_14_79_1 rfl (lv_at hl 1 rfl) ?_
  refine lv_iconst (v := 1) hx hb d_14_79_2 (by decide +kernel) ?_
  refine lv_ldc hx hb hown (hts _ w_1732) d_14_79_3 ?_
  refine kS (As := [.int x0, .int 1, .int 100000]) (rest := [.ref a0]) (wr := [(a0, .inr (18, [.ref a1, .ref a2, .int 0, .ref a3, .int 0, .ref a4, .int 0, .null, .int 0, .null, .long 0, .int 0, .null])), (a1, .inr (17, [.int 0, .ref a5, .ref a6, .int 0, .ref a7, .ref a8, .ref a9, .null, .null, .int 0, .ref a10, .ref a11, .ref a12, .int 0, .ref a13, .int 1])), (a5, .inl (z.2 0, 8, .inl (fun _ => 0))), (a7, .inl (z.2 0, 8, .inl (fun _ => 0))), (a8, .inl (z.2 0, 8, .inl (fun _ => 0))), (a9, .inl (z.2 0, 8, .inl (fun _ => 0))), (a10, .inl (z.2 0, 16, .inl (fun _ => 0))), (a11, .inl (z.2 0, 16, .inl (fun _ => 0))), (a12, .inl (z.2 0, 16, .inl (fun _ => 0))), (a13, .inl (z.2 0, 12, .inl (fun _ => 0))), (a2, .inl (z.2 6, 20, .inr (.inr (.inr (.inr (fun _ => none))))))]) (c69_BModel_isIn l z x0 h0 h1) hx hb hml hown hts w_1718 w_1716 w_1717 w_12 md_bca45c ⟨Nat.le_of_ble_eq_true rfl, Nat.le_of_ble_eq_true rfl⟩ hG hZ hP hD hS hA [] [0, 1, 2, 3, 4, 5, 6, 7, 8, 9, 10] rfl rfl rfl rfl rfl hl.1 rfl (Nat.le_of_ble_eq_true rfl) d_14_79_5 ⟨Nat.le_of_ble_eq_true rfl, Nat.le_of_ble_eq_true rfl⟩ (fun u0 H locs hP hD hS => ?_)
  have hP : va_P z.1 classes [(a0, .inr (18, [.ref a1, .ref a2, .int 0, .ref a3, .int 0, .ref a4, .int 0, .null, .int 0, .null, .long 0, .int 0, .null])), (a1, .inr (17, [.int 0, .ref a5, .ref a6, .int 0, .ref a7, .ref a8, .ref a9, .null, .null, .int 0, .ref a10, .ref a11, .ref a12, .int 0, .ref a13, .int 1])), (a5, .inl (z.2 0, 8, .inl (fun _ => 0))), (a7, .inl (z.2 0, 8, .inl (fun _ => 0))), (a8, .inl (z.2 0, 8, .inl (fun _ => 0))), (a9, .inl (z.2 0, 8, .inl (fun _ => 0))), (a10, .inl (z.2 0, 16, .inl (fun _ => 0))), (a11, .inl (z.2 0, 16, .inl (fun _ => 0))), (a12, .inl (z.2 0, 16, .inl (fun _ => 0))), (a13, .inl (z.2 0, 12, .inl (fun _ => 0))), (a2, .inl (z.2 6, 20, .inr (.inr (.inr (.inr (fun _ => none))))))] H := hP
  have hD : va_D A [(a0, .inr (18, [.ref a1, .ref a2, .int 0, .ref a3, .int 0, .ref a4, .int 0, .null, .int 0, .null, .long 0, .int 0, .null])), (a1, .inr (17, [.int 0, .ref a5, .ref a6, .int 0, .ref a7, .ref a8, .ref a9, .null, .null, .int 0, .ref a10, .ref a11, .ref a12, .int 0, .ref a13, .int 1])), (a5, .inl (z.2 0, 8, .inl (fun _ => 0))), (a7, .inl (z.2 0, 8, .inl (fun _ => 0))), (a8, .inl (z.2 0, 8, .inl (fun _ => 0))), (a9, .inl (z.2 0, 8, .inl (fun _ => 0))), (a10, .inl (z.2 0, 16, .inl (fun _ => 0))), (a11, .inl (z.2 0, 16, .inl (fun _ => 0))), (a12, .inl (z.2 0, 16, .inl (fun _ => 0))), (a13, .inl (z.2 0, 12, .inl (fun _ => 0))), (a2, .inl (z.2 6, 20, .inr (.inr (.inr (.inr (fun _ => none))))))] := hD
  refine W.eq (g2 := F0 m 8 ls [.int 1, .ref a0]) rfl ?_
  refine lv_if_eq (tgt := 35) hx hb d_14_79_8 (by decide) (fun c9 => absurd c9 (by decide +kernel)) (fun _ => ?_)
  refine lv_iload_n hx hb d_14_79_11 rfl (lv_at hl 2 rfl) ?_
  refine lv_iconst (v := 0) hx hb d_14_79_12 (by decide +kernel) ?_
  refine lv_ldc hx hb hown (hts _ w_1732) d_14_79_13 ?_
  refine kS (As := [.int x1, .int 0, .int 100000]) (rest := [.ref a0]) (wr := [(a0, .inr (18, [.ref a1, .ref a2, .int 0, .ref a3, .int 0, .ref a4, .int 0, .null, .int 0, .null, .long 0, .int 0, .null])), (a1, .inr (17, [.int 0, .ref a5, .ref a6, .int 0, .ref a7, .ref a8, .ref a9, .null, .null, .int 0, .ref a10, .ref a11, .ref a12, .int 0, .ref a13, .int 1])), (a5, .inl (z.2 0, 8, .inl (fun _ => 0))), (a7, .inl (z.2 0, 8, .inl (fun _ => 0))), (a8, .inl (z.2 0, 8, .inl (fun _ => 0))), (a9, .inl (z.2 0, 8, .inl (fun _ => 0))), (a10, .inl (z.2 0, 16, .inl (fun _ => 0))), (a11, .inl (z.2 0, 16, .inl (fun _ => 0))), (a12, .inl (z.2 0, 16, .inl (fun _ => 0))), (a13, .inl (z.2 0, 12, .inl (fun _ => 0))), (a2, .inl (z.2 6, 20, .inr (.inr (.inr (.inr (fun _ => none))))))]) (c555_BModel_isIn l z x1 h2 h3) hx hb hml hown hts w_1718 w_1716 w_1717 w_12 md_bca45c ⟨Nat.le_of_ble_eq_true rfl, Nat.le_of_ble_eq_true rfl⟩ hG hZ hP hD hS hA [] [0, 1, 2, 3, 4, 5, 6, 7, 8, 9, 10] rfl rfl rfl rfl rfl hl.1 rfl (Nat.le_of_ble_eq_true rfl) d_14_79_15 ⟨Nat.le_of_ble_eq_true rfl, Nat.le_of_ble_eq_true rfl⟩ (fun u1 H locs hP hD hS => ?_)
  have hP : va_P z.1 classes [(a0, .inr (18, [.ref a1, .ref a2, .int 0, .ref a3, .int 0, .ref a4, .int 0, .null, .int 0, .null, .long 0, .int 0, .null])), (a1, .inr (17, [.int 0, .ref a5, .ref a6, .int 0, .ref a7, .ref a8, .ref a9, .null, .null, .int 0, .ref a10, .ref a11, .ref a12, .int 0, .ref a13, .int 1])), (a5, .inl (z.2 0, 8, .inl (fun _ => 0))), (a7, .inl (z.2 0, 8, .inl (fun _ => 0))), (a8, .inl (z.2 0, 8, .inl (fun _ => 0))), (a9, .inl (z.2 0, 8, .inl (fun _ => 0))), (a10, .inl (z.2 0, 16, .inl (fun _ => 0))), (a11, .inl (z.2 0, 16, .inl (fun _ => 0))), (a12, .inl (z.2 0, 16, .inl (fun _ => 0))), (a13, .inl (z.2 0, 12, .inl (fun _ => 0))), (a2, .inl (z.2 6, 20, .inr (.inr (.inr (.inr (fun _ => none))))))] H := hP
  have hD : va_D A [(a0, .inr (18, [.ref a1, .ref a2, .int 0, .ref a3, .int 0, .ref a4, .int 0, .null, .int 0, .null, .long 0, .int 0, .null])), (a1, .inr (17, [.int 0, .ref a5, .ref a6, .int 0, .ref a7, .ref a8, .ref a9, .null, .null, .int 0, .ref a10, .ref a11, .ref a12, .int 0, .ref a13, .int 1])), (a5, .inl (z.2 0, 8, .inl (fun _ => 0))), (a7, .inl (z.2 0, 8, .inl (fun _ => 0))), (a8, .inl (z.2 0, 8, .inl (fun _ => 0))), (a9, .inl (z.2 0, 8, .inl (fun _ => 0))), (a10, .inl (z.2 0, 16, .inl (fun _ => 0))), (a11, .inl (z.2 0, 16, .inl (fun _ => 0))), (a12, .inl (z.2 0, 16, .inl (fun _ => 0))), (a13, .inl (z.2 0, 12, .inl (fun _ => 0))), (a2, .inl (z.2 6, 20, .inr (.inr (.inr (.inr (fun _ => none))))))] := hD
  refine W.eq (g2 := F0 m 18 ls [.int 1, .ref a0]) rfl ?_
  refine lv_if_eq (tgt := 35) hx hb d_14_79_18 (by decide) (fun c9 => absurd c9 (by decide +kernel)) (fun _ => ?_)
  refine lv_iload_n hx hb d_14_79_21 rfl (lv_at hl 3 rfl) ?_
  refine lv_iconst (v := 0) hx hb d_14_79_22 (by decide +kernel) ?_
  refine lv_ldc hx hb hown (hts _ w_1732) d_14_79_23 ?_
  refine kS (As := [.int x2, .int 0, .int 100000]) (rest := [.ref a0]) (wr := [(a0, .inr (18, [.ref a1, .ref a2, .int 0, .ref a3, .int 0, .ref a4, .int 0, .null, .int 0, .null, .long 0, .int 0, .null])), (a1, .inr (17, [.int 0, .ref a5, .ref a6, .int 0, .ref a7, .ref a8, .ref a9, .null, .null, .int 0, .ref a10, .ref a11, .ref a12, .int 0, .ref a13, .int 1])), (a5, .inl (z.2 0, 8, .inl (fun _ => 0))), (a7, .inl (z.2 0, 8, .inl (fun _ => 0))), (a8, .inl (z.2 0, 8, .inl (fun _ => 0))), (a9, .inl (z.2 0, 8, .inl (fun _ => 0))), (a10, .inl (z.2 0, 16, .inl (fun _ => 0))), (a11, .inl (z.2 0, 16, .inl (fun _ => 0))), (a12, .inl (z.2 0, 16, .inl (fun _ => 0))), (a13, .inl (z.2 0, 12, .inl (fun _ => 0))), (a2, .inl (z.2 6, 20, .inr (.inr (.inr (.inr (fun _ => none))))))]) (c555_BModel_isIn l z x2 h4 h5) hx hb hml hown hts w_1718 w_1716 w_1717 w_12 md_bca45c ⟨Nat.le_of_ble_eq_true rfl, Nat.le_of_ble_eq_true rfl⟩ hG hZ hP hD hS hA [] [0, 1, 2, 3, 4, 5, 6, 7, 8, 9, 10] rfl rfl rfl rfl rfl hl.1 rfl (Nat.le_of_ble_eq_true rfl) d_14_79_25 ⟨Nat.le_of_ble_eq_true rfl, Nat.le_of_ble_eq_true rfl⟩ (fun u2 H locs hP hD hS => ?_)
  have hP : va_P z.1 classes [(a0, .inr (18, [.ref a1, .ref a2, .int 0, .ref a3, .int 0, .ref a4, .int 0, .null, .int 0, .null, .long 0, .int 0, .null])), (a1, .inr (17, [.int 0, .ref a5, .ref a6, .int 0, .ref a7, .ref a8, .ref a9, .null, .null, .int 0, .ref a10, .ref a11, .ref a12, .int 0, .ref a13, .int 1])), (a5, .inl (z.2 0, 8, .inl (fun _ => 0))), (a7, .inl (z.2 0, 8, .inl (fun _ => 0))), (a8, .inl (z.2 0, 8, .inl (fun _ => 0))), (a9, .inl (z.2 0, 8, .inl (fun _ => 0))), (a10, .inl (z.2 0, 16, .inl (fun _ => 0))), (a11, .inl (z.2 0, 16, .inl (fun _ => 0))), (a12, .inl (z.2 0, 16, .inl (fun _ => 0))), (a13, .inl (z.2 0, 12, .inl (fun _ => 0))), (a2, .inl (z.2 6, 20, .inr (.inr (.inr (.inr (fun _ => none))))))] H := hP
  have hD : va_D A [(a0, .inr (18, [.ref a1, .ref a2, .int 0, .ref a3, .int 0, .ref a4, .int 0, .null, .int 0, .null, .long 0, .int 0, .null])), (a1, .inr (17, [.int 0, .ref a5, .ref a6, .int 0, .ref a7, .ref a8, .ref a9, .null, .null, .int 0, .ref a10, .ref a11, .ref a12, .int 0, .ref a13, .int 1])), (a5, .inl (z.2 0, 8, .inl (fun _ => 0))), (a7, .inl (z.2 0, 8, .inl (fun _ => 0))), (a8, .inl (z.2 0, 8, .inl (fun _ => 0))), (a9, .inl (z.2 0, 8, .inl (fun _ => 0))), (a10, .inl (z.2 0, 16, .inl (fun _ => 0))), (a11, .inl (z.2 0, 16, .inl (fun _ => 0))), (a12, .inl (z.2 0, 16, .inl (fun _ => 0))), (a13, .inl (z.2 0, 12, .inl (fun _ => 0))), (a2, .inl (z.2 6, 20, .inr (.inr (.inr (.inr (fun _ => none))))))] := hD
  refine W.eq (g2 := F0 m 28 ls [.int 1, .ref a0]) rfl ?_
  refine lv_if_eq (tgt := 35) hx hb d_14_79_28 (by decide) (fun c9 => absurd c9 (by decide +kernel)) (fun _ => ?_)
  refine lv_iconst (v := 1) hx hb d_14_79_31 (by decide +kernel) ?_
  refine lv_goto (tgt := 36) hx hb d_14_79_32 (by decide) ?_
  refine lv_iconst (v := 1) hx hb d_14_79_36 (by decide +kernel) ?_
  refine kV (As := [.int 1, .int 1]) (rest := []) (wr := [(a1, .inr (17, [.int 0, .ref a5, .ref a6, .int 0, .ref a7, .ref a8, .ref a9, .null, .null, .int 0, .ref a10, .ref a11, .ref a12, .int 0, .ref a13, .int 1])), (a5, .inl (z.2 0, 8, .inl (fun _ => 0))), (a7, .inl (z.2 0, 8, .inl (fun _ => 0))), (a8, .inl (z.2 0, 8, .inl (fun _ => 0))), (a9, .inl (z.2 0, 8, .inl (fun _ => 0))), (a10, .inl (z.2 0, 16, .inl (fun _ => 0))), (a11, .inl (z.2 0, 16, .inl (fun _ => 0))), (a12, .inl (z.2 0, 16, .inl (fun _ => 0))), (a13, .inl (z.2 0, 12, .inl (fun _ => 0))), (a2, .inl (z.2 6, 20, .inr (.inr (.inr (.inr (fun _ => none))))))]) (c16_BModel_ends l z a0 a1 a2 a3 a4) hx hb hml hown hts w_1696 w_1693 w_1695 w_s_f8f2b7 w_12 md_77b0f8 ⟨Nat.le_of_ble_eq_true rfl, Nat.le_of_ble_eq_true rfl⟩ hG hZ hP hD hS hA 0 rfl rfl rfl [0] [1, 2, 3, 4, 5, 6, 7, 8, 9, 10] rfl rfl rfl rfl rfl hl.1 rfl (Nat.le_of_ble_eq_true rfl) d_14_79_37 ⟨Nat.le_of_ble_eq_true rfl, Nat.le_of_ble_eq_true rfl⟩ (fun u3 H locs hP hD hS => ?_)
  have hP : va_P z.1 classes [(a1, .inr (17, [.int 0, .ref a5, .ref a6, .int 0, .ref a7, .ref a8, .ref a9, .null, .null, .int 0, .ref a10, .ref a11, .ref a12, .int 0, .ref a13, .int 1])), (a5, .inl (z.2 0, 8, .inl (fun _ => 0))), (a7, .inl (z.2 0, 8, .inl (fun _ => 0))), (a8, .inl (z.2 0, 8, .inl (fun _ => 0))), (a9, .inl (z.2 0, 8, .inl (fun _ => 0))), (a10, .inl (z.2 0, 16, .inl (fun _ => 0))), (a11, .inl (z.2 0, 16, .inl (fun _ => 0))), (a12, .inl (z.2 0, 16, .inl (fun _ => 0))), (a13, .inl (z.2 0, 12, .inl (fun _ => 0))), (a2, .inl (z.2 6, 20, .inr (.inr (.inr (.inr (fun _ => none)))))), (a0, .inr (18, [.ref a1, .ref a2, .int 0, .ref a3, .int 0, .ref a4, .int 0, .null, .int 0, .null, .long 0, .int 0, .null]))] H := hP
  have hD : va_D A [(a1, .inr (17, [.int 0, .ref a5, .ref a6, .int 0, .ref a7, .ref a8, .ref a9, .null, .null, .int 0, .ref a10, .ref a11, .ref a12, .int 0, .ref a13, .int 1])), (a5, .inl (z.2 0, 8, .inl (fun _ => 0))), (a7, .inl (z.2 0, 8, .inl (fun _ => 0))), (a8, .inl (z.2 0, 8, .inl (fun _ => 0))), (a9, .inl (z.2 0, 8, .inl (fun _ => 0))), (a10, .inl (z.2 0, 16, .inl (fun _ => 0))), (a11, .inl (z.2 0, 16, .inl (fun _ => 0))), (a12, .inl (z.2 0, 16, .inl (fun _ => 0))), (a13, .inl (z.2 0, 12, .inl (fun _ => 0))), (a2, .inl (z.2 6, 20, .inr (.inr (.inr (.inr (fun _ => none)))))), (a0, .inr (18, [.ref a1, .ref a2, .int 0, .ref a3, .int 0, .ref a4, .int 0, .null, .int 0, .null, .long 0, .int 0, .null]))] := hD
  refine W.eq (g2 := F0 m 40 ls [.int 0]) rfl ?_
  refine lv_if_ne (tgt := 68) hx hb d_14_79_40 (by decide) (fun c9 => absurd (by decide +kernel) c9) (fun _ => ?_)
  refine lv_aload_n hx hb d_14_79_43 rfl (lv_at hl 0 rfl) ?_
  refine lv_aload_n hx hb d_14_79_44 rfl (lv_at hl 0 rfl) ?_
  refine va_get (D := z.1) (ci := 18) (v := .ref a1) (C := "BallothallModel") (T := TX18) (N := 13) hx hb hts iX18 hown hG.1 hP 10 rfl rfl 0 (by decide) (hts _ w_1645) (fun _ h9 => h9) rfl d_14_79_45 ?_
  refine va_getN (D := z.1) (ci := 17) (v := .int 0) (C := "BallothallModel$State") (T := TX17) (N := 16) hx hb hts iX17 hown hG.1 hP 0 rfl rfl 9 (by decide) (va_Nw.use rfl (hG.2.1 _ n_1598 rfl)) (fun _ h9 => h9) rfl d_14_79_48 ?_
  refine lv_bipush (v := 16) hx hb d_14_79_51 (by decide +kernel) ?_
  refine lv_icmp_ge (tgt := 60) hx hb d_14_79_53 (by decide) (fun c9 => absurd c9 (by decide +kernel)) (fun _ => ?_)
  refine lv_iconst (v := 1) hx hb d_14_79_56 (by decide +kernel) ?_
  refine lv_goto (tgt := 61) hx hb d_14_79_57 (by decide) ?_
  refine lv_iconst (v := 2) hx hb d_14_79_61 (by decide +kernel) ?_
  refine kV (As := [.int 1, .int 2]) (rest := []) (wr := [(a1, .inr (17, [.int 0, .ref a5, .ref a6, .int 0, .ref a7, .ref a8, .ref a9, .null, .null, .int 0, .ref a10, .ref a11, .ref a12, .int 0, .ref a13, .int 1])), (a5, .inl (z.2 0, 8, .inl (fun _ => 0))), (a7, .inl (z.2 0, 8, .inl (fun _ => 0))), (a8, .inl (z.2 0, 8, .inl (fun _ => 0))), (a9, .inl (z.2 0, 8, .inl (fun _ => 0))), (a10, .inl (z.2 0, 16, .inl (fun _ => 0))), (a11, .inl (z.2 0, 16, .inl (fun _ => 0))), (a12, .inl (z.2 0, 16, .inl (fun _ => 0))), (a13, .inl (z.2 0, 12, .inl (fun _ => 0))), (a2, .inl (z.2 6, 20, .inr (.inr (.inr (.inr (fun _ => none))))))]) (c126_BModel_ends l z a0 a1 a2 a3 a4) hx hb hml hown hts w_1696 w_1693 w_1695 w_s_f8f2b7 w_12 md_77b0f8 ⟨Nat.le_of_ble_eq_true rfl, Nat.le_of_ble_eq_true rfl⟩ hG hZ hP hD hS hA 10 rfl rfl rfl [10] [0, 1, 2, 3, 4, 5, 6, 7, 8, 9] rfl rfl rfl rfl rfl hl.1 rfl (Nat.le_of_ble_eq_true rfl) d_14_79_62 ⟨Nat.le_of_ble_eq_true rfl, Nat.le_of_ble_eq_true rfl⟩ (fun u4 H locs hP hD hS => ?_)
  have hP : va_P z.1 classes [(a1, .inr (17, [.int 0, .ref a5, .ref a6, .int 0, .ref a7, .ref a8, .ref a9, .null, .null, .int 0, .ref a10, .ref a11, .ref a12, .int 0, .ref a13, .int 1])), (a5, .inl (z.2 0, 8, .inl (fun _ => 0))), (a7, .inl (z.2 0, 8, .inl (fun _ => 0))), (a8, .inl (z.2 0, 8, .inl (fun _ => 0))), (a9, .inl (z.2 0, 8, .inl (fun _ => 0))), (a10, .inl (z.2 0, 16, .inl (fun _ => 0))), (a11, .inl (z.2 0, 16, .inl (fun _ => 0))), (a12, .inl (z.2 0, 16, .inl (fun _ => 0))), (a13, .inl (z.2 0, 12, .inl (fun _ => 0))), (a2, .inl (z.2 6, 20, .inr (.inr (.inr (.inr (fun _ => none)))))), (a0, .inr (18, [.ref a1, .ref a2, .int 0, .ref a3, .int 0, .ref a4, .int 0, .null, .int 0, .null, .long 0, .int 0, .null]))] H := hP
  have hD : va_D A [(a1, .inr (17, [.int 0, .ref a5, .ref a6, .int 0, .ref a7, .ref a8, .ref a9, .null, .null, .int 0, .ref a10, .ref a11, .ref a12, .int 0, .ref a13, .int 1])), (a5, .inl (z.2 0, 8, .inl (fun _ => 0))), (a7, .inl (z.2 0, 8, .inl (fun _ => 0))), (a8, .inl (z.2 0, 8, .inl (fun _ => 0))), (a9, .inl (z.2 0, 8, .inl (fun _ => 0))), (a10, .inl (z.2 0, 16, .inl (fun _ => 0))), (a11, .inl (z.2 0, 16, .inl (fun _ => 0))), (a12, .inl (z.2 0, 16, .inl (fun _ => 0))), (a13, .inl (z.2 0, 12, .inl (fun _ => 0))), (a2, .inl (z.2 6, 20, .inr (.inr (.inr (.inr (fun _ => none)))))), (a0, .inr (18, [.ref a1, .ref a2, .int 0, .ref a3, .int 0, .ref a4, .int 0, .null, .int 0, .null, .long 0, .int 0, .null]))] := hD
  refine W.eq (g2 := F0 m 65 ls [.int 0]) rfl ?_
  refine lv_if_eq (tgt := 70) hx hb d_14_79_65 (by decide) (fun _ => ?_) (fun c9 => absurd (by decide +kernel) c9)
  refine lv_aload_n hx hb d_14_79_70 rfl (lv_at hl 0 rfl) ?_
  refine kV (As := []) (rest := []) (wr := []) (c23_BModel_keeps l z a0 a1 a2 a3 a4 a5 a6 a7 a8 a9 a10 a11 a12 a13) hx hb hml hown hts w_1700 w_1697 w_1699 w_s_6545fc w_12 md_85dc6a ⟨Nat.le_of_ble_eq_true rfl, Nat.le_of_ble_eq_true rfl⟩ hG hZ hP hD hS hA 10 rfl rfl rfl [10, 0, 1, 2, 3, 4, 5, 6, 7, 8, 9] [] rfl rfl rfl rfl rfl hl.1 rfl (Nat.le_of_ble_eq_true rfl) d_14_79_71 ⟨Nat.le_of_ble_eq_true rfl, Nat.le_of_ble_eq_true rfl⟩ (fun u5 H locs hP hD hS => ?_)
  have hP : va_P z.1 classes [(a0, .inr (18, [.ref a1, .ref a2, .int 1, .ref a3, .int 0, .ref a4, .int 0, .null, .int 0, .null, .long 0, .int 0, .null])), (a1, .inr (17, [.int 0, .ref a5, .ref a6, .int 0, .ref a7, .ref a8, .ref a9, .null, .null, .int 0, .ref a10, .ref a11, .ref a12, .int 0, .ref a13, .int 1])), (a5, .inl (z.2 0, 8, .inl (fun _ => 0))), (a7, .inl (z.2 0, 8, .inl (fun _ => 0))), (a8, .inl (z.2 0, 8, .inl (fun _ => 0))), (a9, .inl (z.2 0, 8, .inl (fun _ => 0))), (a10, .inl (z.2 0, 16, .inl (fun _ => 0))), (a11, .inl (z.2 0, 16, .inl (fun _ => 0))), (a12, .inl (z.2 0, 16, .inl (fun _ => 0))), (a13, .inl (z.2 0, 12, .inl (fun _ => 0))), (a2, .inl (z.2 6, 20, .inr (.inr (.inr (.inr (va_up (fun _ => none) 0 (some (u5.1 0))))))))] H := hP
  have hD : va_D A [(a0, .inr (18, [.ref a1, .ref a2, .int 1, .ref a3, .int 0, .ref a4, .int 0, .null, .int 0, .null, .long 0, .int 0, .null])), (a1, .inr (17, [.int 0, .ref a5, .ref a6, .int 0, .ref a7, .ref a8, .ref a9, .null, .null, .int 0, .ref a10, .ref a11, .ref a12, .int 0, .ref a13, .int 1])), (a5, .inl (z.2 0, 8, .inl (fun _ => 0))), (a7, .inl (z.2 0, 8, .inl (fun _ => 0))), (a8, .inl (z.2 0, 8, .inl (fun _ => 0))), (a9, .inl (z.2 0, 8, .inl (fun _ => 0))), (a10, .inl (z.2 0, 16, .inl (fun _ => 0))), (a11, .inl (z.2 0, 16, .inl (fun _ => 0))), (a12, .inl (z.2 0, 16, .inl (fun _ => 0))), (a13, .inl (z.2 0, 12, .inl (fun _ => 0))), (a2, .inl (z.2 6, 20, .inr (.inr (.inr (.inr (va_up (fun _ => none) 0 (some (u5.1 0))))))))] := hD
  refine W.eq (g2 := F0 m 74 ls []) rfl ?_
  refine lv_aload_n hx hb d_14_79_74 rfl (lv_at hl 0 rfl) ?_
  refine va_get (D := z.1) (ci := 18) (v := .ref a1) (C := "BallothallModel") (T := TX18) (N := 13) hx hb hts iX18 hown hG.1 hP 0 rfl rfl 0 (by decide) (hts _ w_1645) (fun _ h9 => h9) rfl d_14_79_75 ?_
  refine va_getN (D := z.1) (ci := 17) (v := .ref a10) (C := "BallothallModel$State") (T := TX17) (N := 16) hx hb hts iX17 hown hG.1 hP 1 rfl rfl 10 (by decide) (va_Nw.use rfl (hG.2.1 _ n_1600 rfl)) (fun _ h9 => h9) rfl d_14_79_78 ?_
  refine lv_aload_n hx hb d_14_79_81 rfl (lv_at hl 0 rfl) ?_
  refine va_get (D := z.1) (ci := 18) (v := .ref a1) (C := "BallothallModel") (T := TX18) (N := 13) hx hb hts iX18 hown hG.1 hP 0 rfl rfl 0 (by decide) (hts _ w_1645) (fun _ h9 => h9) rfl d_14_79_82 ?_
  refine va_getN (D := z.1) (ci := 17) (v := .int 0) (C := "BallothallModel$State") (T := TX17) (N := 16) hx hb hts iX17 hown hG.1 hP 1 rfl rfl 9 (by decide) (va_Nw.use rfl (hG.2.1 _ n_1598 rfl)) (fun _ h9 => h9) rfl d_14_79_85 ?_
  refine lv_iload_n hx hb d_14_79_88 rfl (lv_at hl 1 rfl) ?_
  refine va_iast hx hb hG.1 hP hD hS 6 0 rfl rfl (vin rfl) d_14_79_89 (fun H locs hP hD hS => ?_)
  have hP : va_P z.1 classes [(a0, .inr (18, [.ref a1, .ref a2, .int 1, .ref a3, .int 0, .ref a4, .int 0, .null, .int 0, .null, .long 0, .int 0, .null])), (a1, .inr (17, [.int 0, .ref a5, .ref a6, .int 0, .ref a7, .ref a8, .ref a9, .null, .null, .int 0, .ref a10, .ref a11, .ref a12, .int 0, .ref a13, .int 1])), (a5, .inl (z.2 0, 8, .inl (fun _ => 0))), (a7, .inl (z.2 0, 8, .inl (fun _ => 0))), (a8, .inl (z.2 0, 8, .inl (fun _ => 0))), (a9, .inl (z.2 0, 8, .inl (fun _ => 0))), (a10, .inl (z.2 0, 16, .inl (upd (fun _ => 0) 0 x0))), (a11, .inl (z.2 0, 16, .inl (fun _ => 0))), (a12, .inl (z.2 0, 16, .inl (fun _ => 0))), (a13, .inl (z.2 0, 12, .inl (fun _ => 0))), (a2, .inl (z.2 6, 20, .inr (.inr (.inr (.inr (va_up (fun _ => none) 0 (some (u5.1 0))))))))] H := hP
  have hD : va_D A [(a0, .inr (18, [.ref a1, .ref a2, .int 1, .ref a3, .int 0, .ref a4, .int 0, .null, .int 0, .null, .long 0, .int 0, .null])), (a1, .inr (17, [.int 0, .ref a5, .ref a6, .int 0, .ref a7, .ref a8, .ref a9, .null, .null, .int 0, .ref a10, .ref a11, .ref a12, .int 0, .ref a13, .int 1])), (a5, .inl (z.2 0, 8, .inl (fun _ => 0))), (a7, .inl (z.2 0, 8, .inl (fun _ => 0))), (a8, .inl (z.2 0, 8, .inl (fun _ => 0))), (a9, .inl (z.2 0, 8, .inl (fun _ => 0))), (a10, .inl (z.2 0, 16, .inl (upd (fun _ => 0) 0 x0))), (a11, .inl (z.2 0, 16, .inl (fun _ => 0))), (a12, .inl (z.2 0, 16, .inl (fun _ => 0))), (a13, .inl (z.2 0, 12, .inl (fun _ => 0))), (a2, .inl (z.2 6, 20, .inr (.inr (.inr (.inr (va_up (fun _ => none) 0 (some (u5.1 0))))))))] := hD
  refine lv_aload_n hx hb d_14_79_90 rfl (lv_at hl 0 rfl) ?_
  refine va_get (D := z.1) (ci := 18) (v := .ref a1) (C := "BallothallModel") (T := TX18) (N := 13) hx hb hts iX18 hown hG.1 hP 0 rfl rfl 0 (by decide) (hts _ w_1645) (fun _ h9 => h9) rfl d_14_79_91 ?_
  refine va_getN (D := z.1) (ci := 17) (v := .ref a11) (C := "BallothallModel$State") (T := TX17) (N := 16) hx hb hts iX17 hown hG.1 hP 1 rfl rfl 11 (by decide) (va_Nw.use rfl (hG.2.1 _ n_1602 rfl)) (fun _ h9 => h9) rfl d_14_79_94 ?_
  refine lv_aload_n hx hb d_14_79_97 rfl (lv_at hl 0 rfl) ?_
  refine va_get (D := z.1) (ci := 18) (v := .ref a1) (C := "BallothallModel") (T := TX18) (N := 13) hx hb hts iX18 hown hG.1 hP 0 rfl rfl 0 (by decide) (hts _ w_1645) (fun _ h9 => h9) rfl d_14_79_98 ?_
  refine va_getN (D := z.1) (ci := 17) (v := .int 0) (C := "BallothallModel$State") (T := TX17) (N := 16) hx hb hts iX17 hown hG.1 hP 1 rfl rfl 9 (by decide) (va_Nw.use rfl (hG.2.1 _ n_1598 rfl)) (fun _ h9 => h9) rfl d_14_79_101 ?_
  refine lv_iload_n hx hb d_14_79_104 rfl (lv_at hl 2 rfl) ?_
  refine va_iast hx hb hG.1 hP hD hS 7 0 rfl rfl (vin rfl) d_14_79_105 (fun H locs hP hD hS => ?_)
  have hP : va_P z.1 classes [(a0, .inr (18, [.ref a1, .ref a2, .int 1, .ref a3, .int 0, .ref a4, .int 0, .null, .int 0, .null, .long 0, .int 0, .null])), (a1, .inr (17, [.int 0, .ref a5, .ref a6, .int 0, .ref a7, .ref a8, .ref a9, .null, .null, .int 0, .ref a10, .ref a11, .ref a12, .int 0, .ref a13, .int 1])), (a5, .inl (z.2 0, 8, .inl (fun _ => 0))), (a7, .inl (z.2 0, 8, .inl (fun _ => 0))), (a8, .inl (z.2 0, 8, .inl (fun _ => 0))), (a9, .inl (z.2 0, 8, .inl (fun _ => 0))), (a10, .inl (z.2 0, 16, .inl (upd (fun _ => 0) 0 x0))), (a11, .inl (z.2 0, 16, .inl (upd (fun _ => 0) 0 x1))), (a12, .inl (z.2 0, 16, .inl (fun _ => 0))), (a13, .inl (z.2 0, 12, .inl (fun _ => 0))), (a2, .inl (z.2 6, 20, .inr (.inr (.inr (.inr (va_up (fun _ => none) 0 (some (u5.1 0))))))))] H := hP
  have hD : va_D A [(a0, .inr (18, [.ref a1, .ref a2, .int 1, .ref a3, .int 0, .ref a4, .int 0, .null, .int 0, .null, .long 0, .int 0, .null])), (a1, .inr (17, [.int 0, .ref a5, .ref a6, .int 0, .ref a7, .ref a8, .ref a9, .null, .null, .int 0, .ref a10, .ref a11, .ref a12, .int 0, .ref a13, .int 1])), (a5, .inl (z.2 0, 8, .inl (fun _ => 0))), (a7, .inl (z.2 0, 8, .inl (fun _ => 0))), (a8, .inl (z.2 0, 8, .inl (fun _ => 0))), (a9, .inl (z.2 0, 8, .inl (fun _ => 0))), (a10, .inl (z.2 0, 16, .inl (upd (fun _ => 0) 0 x0))), (a11, .inl (z.2 0, 16, .inl (upd (fun _ => 0) 0 x1))), (a12, .inl (z.2 0, 16, .inl (fun _ => 0))), (a13, .inl (z.2 0, 12, .inl (fun _ => 0))), (a2, .inl (z.2 6, 20, .inr (.inr (.inr (.inr (va_up (fun _ => none) 0 (some (u5.1 0))))))))] := hD
  refine lv_aload_n hx hb d_14_79_106 rfl (lv_at hl 0 rfl) ?_
  refine va_get (D := z.1) (ci := 18) (v := .ref a1) (C := "BallothallModel") (T := TX18) (N := 13) hx hb hts iX18 hown hG.1 hP 0 rfl rfl 0 (by decide) (hts _ w_1645) (fun _ h9 => h9) rfl d_14_79_107 ?_
  refine va_getN (D := z.1) (ci := 17) (v := .ref a12) (C := "BallothallModel$State") (T := TX17) (N := 16) hx hb hts iX17 hown hG.1 hP 1 rfl rfl 12 (by decide) (va_Nw.use rfl (hG.2.1 _ n_1604 rfl)) (fun _ h9 => h9) rfl d_14_79_110 ?_
  refine lv_aload_n hx hb d_14_79_113 rfl (lv_at hl 0 rfl) ?_
  refine va_get (D := z.1) (ci := 18) (v := .ref a1) (C := "BallothallModel") (T := TX18) (N := 13) hx hb hts iX18 hown hG.1 hP 0 rfl rfl 0 (by decide) (hts _ w_1645) (fun _ h9 => h9) rfl d_14_79_114 ?_
  refine va_getN (D := z.1) (ci := 17) (v := .int 0) (C := "BallothallModel$State") (T := TX17) (N := 16) hx hb hts iX17 hown hG.1 hP 1 rfl rfl 9 (by decide) (va_Nw.use rfl (hG.2.1 _ n_1598 rfl)) (fun _ h9 => h9) rfl d_14_79_117 ?_
  refine lv_iload_n hx hb d_14_79_120 rfl (lv_at hl 3 rfl) ?_
  refine va_iast hx hb hG.1 hP hD hS 8 0 rfl rfl (vin rfl) d_14_79_121 (fun H locs hP hD hS => ?_)
  have hP : va_P z.1 classes [(a0, .inr (18, [.ref a1, .ref a2, .int 1, .ref a3, .int 0, .ref a4, .int 0, .null, .int 0, .null, .long 0, .int 0, .null])), (a1, .inr (17, [.int 0, .ref a5, .ref a6, .int 0, .ref a7, .ref a8, .ref a9, .null, .null, .int 0, .ref a10, .ref a11, .ref a12, .int 0, .ref a13, .int 1])), (a5, .inl (z.2 0, 8, .inl (fun _ => 0))), (a7, .inl (z.2 0, 8, .inl (fun _ => 0))), (a8, .inl (z.2 0, 8, .inl (fun _ => 0))), (a9, .inl (z.2 0, 8, .inl (fun _ => 0))), (a10, .inl (z.2 0, 16, .inl (upd (fun _ => 0) 0 x0))), (a11, .inl (z.2 0, 16, .inl (upd (fun _ => 0) 0 x1))), (a12, .inl (z.2 0, 16, .inl (upd (fun _ => 0) 0 x2))), (a13, .inl (z.2 0, 12, .inl (fun _ => 0))), (a2, .inl (z.2 6, 20, .inr (.inr (.inr (.inr (va_up (fun _ => none) 0 (some (u5.1 0))))))))] H := hP
  have hD : va_D A [(a0, .inr (18, [.ref a1, .ref a2, .int 1, .ref a3, .int 0, .ref a4, .int 0, .null, .int 0, .null, .long 0, .int 0, .null])), (a1, .inr (17, [.int 0, .ref a5, .ref a6, .int 0, .ref a7, .ref a8, .ref a9, .null, .null, .int 0, .ref a10, .ref a11, .ref a12, .int 0, .ref a13, .int 1])), (a5, .inl (z.2 0, 8, .inl (fun _ => 0))), (a7, .inl (z.2 0, 8, .inl (fun _ => 0))), (a8, .inl (z.2 0, 8, .inl (fun _ => 0))), (a9, .inl (z.2 0, 8, .inl (fun _ => 0))), (a10, .inl (z.2 0, 16, .inl (upd (fun _ => 0) 0 x0))), (a11, .inl (z.2 0, 16, .inl (upd (fun _ => 0) 0 x1))), (a12, .inl (z.2 0, 16, .inl (upd (fun _ => 0) 0 x2))), (a13, .inl (z.2 0, 12, .inl (fun _ => 0))), (a2, .inl (z.2 6, 20, .inr (.inr (.inr (.inr (va_up (fun _ => none) 0 (some (u5.1 0))))))))] := hD
  refine lv_aload_n hx hb d_14_79_122 rfl (lv_at hl 0 rfl) ?_
  refine va_get (D := z.1) (ci := 18) (v := .ref a1) (C := "BallothallModel") (T := TX18) (N := 13) hx hb hts iX18 hown hG.1 hP 0 rfl rfl 0 (by decide) (hts _ w_1645) (fun _ h9 => h9) rfl d_14_79_123 ?_
  refine lv_dup hx hb d_14_79_126 rfl ?_
  refine va_getN (D := z.1) (ci := 17) (v := .int 0) (C := "BallothallModel$State") (T := TX17) (N := 16) hx hb hts iX17 hown hG.1 hP 1 rfl rfl 9 (by decide) (va_Nw.use rfl (hG.2.1 _ n_1598 rfl)) (fun _ h9 => h9) rfl d_14_79_127 ?_
  refine lv_iconst (v := 1) hx hb d_14_79_130 (by decide +kernel) ?_
  refine lv_iadd hx hb d_14_79_131 ?_
  refine nrm (x1 := 1) (by decide +kernel) ?_
  refine va_putN (D := z.1) (ci := 17) (v := .int 1) (ty := .int) (C := "BallothallModel$State") (T := TX17) (N := 16) hx hb hts iX17 tyX17 tyX17_ok nmX17 hown hG.1 hP hD hS 1 rfl rfl 9 (by decide) (va_Nw.use rfl (hG.2.1 _ n_1598 rfl)) (fun _ h9 => h9) rfl (by decide +kernel) rfl rfl (Nat.le_of_ble_eq_true rfl) d_14_79_132 (fun H locs hP hD hS => ?_)
  have hP : va_P z.1 classes [(a0, .inr (18, [.ref a1, .ref a2, .int 1, .ref a3, .int 0, .ref a4, .int 0, .null, .int 0, .null, .long 0, .int 0, .null])), (a1, .inr (17, [.int 0, .ref a5, .ref a6, .int 0, .ref a7, .ref a8, .ref a9, .null, .null, .int 1, .ref a10, .ref a11, .ref a12, .int 0, .ref a13, .int 1])), (a5, .inl (z.2 0, 8, .inl (fun _ => 0))), (a7, .inl (z.2 0, 8, .inl (fun _ => 0))), (a8, .inl (z.2 0, 8, .inl (fun _ => 0))), (a9, .inl (z.2 0, 8, .inl (fun _ => 0))), (a10, .inl (z.2 0, 16, .inl (upd (fun _ => 0) 0 x0))), (a11, .inl (z.2 0, 16, .inl (upd (fun _ => 0) 0 x1))), (a12, .inl (z.2 0, 16, .inl (upd (fun _ => 0) 0 x2))), (a13, .inl (z.2 0, 12, .inl (fun _ => 0))), (a2, .inl (z.2 6, 20, .inr (.inr (.inr (.inr (va_up (fun _ => none) 0 (some (u5.1 0))))))))] H := hP
  have hD : va_D A [(a0, .inr (18, [.ref a1, .ref a2, .int 1, .ref a3, .int 0, .ref a4, .int 0, .null, .int 0, .null, .long 0, .int 0, .null])), (a1, .inr (17, [.int 0, .ref a5, .ref a6, .int 0, .ref a7, .ref a8, .ref a9, .null, .null, .int 1, .ref a10, .ref a11, .ref a12, .int 0, .ref a13, .int 1])), (a5, .inl (z.2 0, 8, .inl (fun _ => 0))), (a7, .inl (z.2 0, 8, .inl (fun _ => 0))), (a8, .inl (z.2 0, 8, .inl (fun _ => 0))), (a9, .inl (z.2 0, 8, .inl (fun _ => 0))), (a10, .inl (z.2 0, 16, .inl (upd (fun _ => 0) 0 x0))), (a11, .inl (z.2 0, 16, .inl (upd (fun _ => 0) 0 x1))), (a12, .inl (z.2 0, 16, .inl (upd (fun _ => 0) 0 x2))), (a13, .inl (z.2 0, 12, .inl (fun _ => 0))), (a2, .inl (z.2 6, 20, .inr (.inr (.inr (.inr (va_up (fun _ => none) 0 (some (u5.1 0))))))))] := hD
  refine lv_aload_n hx hb d_14_79_135 rfl (lv_at hl 0 rfl) ?_
  refine va_get (D := z.1) (ci := 18) (v := .ref a1) (C := "BallothallModel") (T := TX18) (N := 13) hx hb hts iX18 hown hG.1 hP 0 rfl rfl 0 (by decide) (hts _ w_1645) (fun _ h9 => h9) rfl d_14_79_136 ?_
  refine va_getN (D := z.1) (ci := 17) (v := .int 1) (C := "BallothallModel$State") (T := TX17) (N := 16) hx hb hts iX17 hown hG.1 hP 1 rfl rfl 9 (by decide) (va_Nw.use rfl (hG.2.1 _ n_1598 rfl)) (fun _ h9 => h9) rfl d_14_79_139 ?_
  refine lv_iconst (v := 1) hx hb d_14_79_142 (by decide +kernel) ?_
  refine lv_isub hx hb d_14_79_143 ?_
  refine nrm (x1 := 0) (by decide +kernel) ?_
  refine W.widen (k := 10) (n := 108) (Nat.le_of_ble_eq_true rfl) (Nat.le_of_ble_eq_true rfl) ?_
  exact W.iret hx hb hr (fun t ht hW => qk hP hD hS [0, 1, 2, 3, 4, 5, 6, 7, 8, 9, 10] rfl ((fun k => ([(u5.1 0)] : List Nat).getD k 0), (fun _ _ => none)) rfl rfl rfl ht) hS.2.2 d_14_79_144
set_option maxRecDepth 100000 in
set_option maxHeartbeats 4000000 in
theorem c566_B_greatestDistrict (l : Launch) (z : Zz) (hl0 : l.stackTraces = false) (a0 a1 a2 a3 a4 a5 a6 a7 a8 a9 a10 a11 a12 a13 a14 a15 : Nat) (x0 : Int32) (h0 : x0 < 1) : XT l z ⟨"Ballothall", "greatestDistrict", "(I)I"⟩ prog_1_method_42_code 2 (some .int) [.ref a0, .int x0] [(a0, .inr (11, [.ref a1, .ref a2, .ref a3, .ref a4, .ref a5, .ref a6, .ref a7, .ref a8, .ref a9, .ref a10, .int 0, .int 0, .ref a11, .int 0])), (a6, .inr (10, [.int 0, .ref a12, .ref a13, .ref a14, .ref a15]))] 7 128 1 6 "java/lang/IllegalArgumentException" := by
  refine XT.of (own := "Ballothall") (by decide +kernel) (Nat.le_of_ble_eq_true rfl) rfl (fun p e s m below meth c A ls hx hb hml hr hts hown hlocks hin hA hG hZ hP hD hS hl hnt => ?_)
  have hl : lv_has ls 2 [(0, .ref a0), (1, .int x0)] := hl
  refine lv_iload_n hx hb d_1_42_0 rfl (lv_at hl 1 rfl) ?_
  refine lv_iconst (v := 1) hx hb d_1_42_1 (by decide +kernel) ?_
  refine lv_aload_n hx hb d_1_42_2 rfl (lv_at hl 0 rfl) ?_
  refine va_get (D := z.1) (ci := 11) (v := .ref a6) (C := "Ballothall") (T := TX11) (N := 14) hx hb hts iX11 hown hG.1 hP 0 rfl rfl 5 (by decide) (hts _ w_411) (fun _ h9 => h9) rfl d_1_42_3 ?_
  refine va_getN (D := z.1) (ci := 10) (v := .int 0) (C := "Ballothall$Wards") (T := TX10) (N := 5) hx hb hts iX10 hown hG.1 hP 1 rfl rfl 0 (by decide) (va_Nw.use rfl (hG.2.1 _ n_367 rfl)) (fun _ h9 => h9) rfl d_1_42_6 ?_
  exact xS (As := [.int x0, .int 1, .int 0]) (rest := []) (wr := [(a0, .inr (11, [.ref a1, .ref a2, .ref a3, .ref a4, .ref a5, .ref a6, .ref a7, .ref a8, .ref a9, .ref a10, .int 0, .int 0, .ref a11, .int 0])), (a6, .inr (10, [.int 0, .ref a12, .ref a13, .ref a14, .ref a15]))]) (c270_B_needRange l z hl0 x0 h0) hx hb hml hown hts w_876 w_874 w_875 w_1 md_519134 ⟨Nat.le_of_ble_eq_true rfl, Nat.le_of_ble_eq_true rfl⟩ hG hZ hP hD hS hA [] [0, 1] rfl rfl rfl rfl rfl hl.1 rfl (Nat.le_of_ble_eq_true rfl) d_1_42_9 ⟨Nat.le_of_ble_eq_true rfl, Nat.le_of_ble_eq_true rfl⟩ (fun q9 ce9 H locs hP hD hS h7 h8 h9 => x_out hnt hlocks hS h7 h8 h9 (Nat.le_of_ble_eq_true rfl) (Nat.le_of_ble_eq_true rfl))
set_option maxRecDepth 100000 in
set_option maxHeartbeats 4000000 in
theorem c567_BLaw_greatestDistrict (l : Launch) (z : Zz) (hl0 : l.stackTraces = false) (a0 a1 a2 a3 a4 a5 a6 a7 a8 a9 a10 a11 a12 a13 a14 a15 a16 : Nat) (x0 : Int32) (h0 : x0 < 1) : HT l z ⟨"BallothallLaw", "greatestDistrict", "(LBallothall;I[J)I"⟩ method_34_code 4 (some .int) [(0, 9, 12, 21)] [.ref a0, .int x0, .ref a1] [(a0, .inr (11, [.ref a2, .ref a3, .ref a4, .ref a5, .ref a6, .ref a7, .ref a8, .ref a9, .ref a10, .ref a11, .int 0, .int 0, .ref a12, .int 0])), (a7, .inr (10, [.int 0, .ref a13, .ref a14, .ref a15, .ref a16]))] 8 157 1 6 (fun u => some (.int 1)) (fun u => []) := by
  refine HT.of (own := "BallothallLaw") (by decide +kernel) (Nat.le_of_ble_eq_true rfl) rfl (fun p e s m below meth c A ls hx hb hml hr hts hown hlocks hin hA hG hZ hP hD hS hl htab => ?_)
  have hl : lv_has ls 4 [(0, .ref a0), (1, .int x0), (2, .ref a1)] := hl
  refine lv_aload_n hx hb d_L34_0 rfl (lv_at hl 2 rfl) ?_
  refine lv_iconst (v := 0) hx hb d_L34_1 (by decide +kernel) ?_
  refine lv_aload_n hx hb d_L34_2 rfl (lv_at hl 0 rfl) ?_
  refine lv_iload_n hx hb d_L34_3 rfl (lv_at hl 1 rfl) ?_
  refine xV (As := [.int x0]) (rest := [.int 0, .ref a1]) (wr := []) (c566_B_greatestDistrict l z hl0 a0 a2 a3 a4 a5 a6 a7 a8 a9 a10 a11 a12 a13 a14 a15 a16 x0 h0) hx hb hml hown hts w_1468 w_1465 w_1466 w_1467 w_1 md_ce4f47 ⟨Nat.le_of_ble_eq_true rfl, Nat.le_of_ble_eq_true rfl⟩ hG hZ hP hD hS hA 0 rfl rfl rfl [0, 1] [] rfl rfl rfl rfl rfl hl.1 rfl (Nat.le_of_ble_eq_true rfl) d_L34_4 ⟨Nat.le_of_ble_eq_true rfl, Nat.le_of_ble_eq_true rfl⟩ (fun q0 ce9 H locs hP hD hS h7 h8 h9 => ?_)
  have hP : va_P z.1 classes [] H := hP
  have hD : va_D A [] := hD
  refine vx_catch hown [] ⟨0, 9, 12, 21⟩ [] (htab.trans rfl) (fun _ h9 => absurd h9 List.not_mem_nil) rfl (by decide) (hts _ w_850) (va_Nw.use rfl (hG.2.1 _ n_879 rfl)) h7 h8 h9 ?_
  refine lv_astore_n (lv' := [(3, .ref q0), (0, .ref a0), (1, .int x0), (2, .ref a1)]) hx hb d_L34_12 rfl hl (by decide) rfl (fun ls hl => ?_)
  refine lv_iconst (v := 1) hx hb d_L34_13 (by decide +kernel) ?_
  refine W.widen (k := 1) (n := 6) (Nat.le_of_ble_eq_true rfl) (Nat.le_of_ble_eq_true rfl) ?_
  refine vx_ret ?_
  exact W.iret hx hb hr (fun t ht hW => qk hP hD hS [] rfl ((fun k => k), (fun _ _ => none)) rfl rfl rfl ht) hS.2.2 d_L34_14
set_option maxRecDepth 100000 in
set_option maxHeartbeats 4000000 in
theorem c568_BModel_isIn (l : Launch) (z : Zz) (x0 : Int32) (h0 : x0 < 1) : CT l z ⟨"BallothallModel", "isIn", "(III)Z"⟩ prog_14_method_20_code 3 (some .boolean) [.int x0, .int 1, .int 0] [] 0 0 0 0 (fun u => some (.int 0)) (fun u => []) := by
  refine CT.of (own := "BallothallModel") (by decide +kernel) (Nat.le_of_ble_eq_true rfl) rfl (fun p e s m below meth c A ls hx hb hml hr hts hown hlocks hin hA hG hZ hP hD hS hl => ?_)
  have hl : lv_has ls 3 [(0, .int x0), (1, .int 1), (2, .int 0)] := hl
  refine lv_iload_n hx hb d_14_20_0 rfl (lv_at hl 0 rfl) ?_
  refine lv_iload_n hx hb d_14_20_1 rfl (lv_at hl 1 rfl) ?_
  refine lv_icmp_lt (tgt := 14) hx hb d_14_20_2 (by decide) (fun _ => ?_) (fun c9 => absurd h0 c9)
  refine lv_iconst (v := 0) hx hb d_14_20_14 (by decide +kernel) ?_
  refine W.widen (k := 0) (n := 0) (Nat.le_of_ble_eq_true rfl) (Nat.le_of_ble_eq_true rfl) ?_
  exact W.zret hx hb hr rfl (fun t ht hW => qk hP hD hS [] rfl ((fun k => k), (fun _ _ => none)) rfl rfl rfl ht) hS.2.2 d_14_20_15
set_option maxRecDepth 100000 in
set_option maxHeartbeats 4000000 in
theorem c569_BModel_noDistricts (l : Launch) (z : Zz) (a0 a1 a2 a3 a4 a5 a6 a7 a8 a9 a10 a11 a12 a13 : Nat) (x0 : Int32) (h0 : x0 < 1) : CT l z ⟨"BallothallModel", "noDistricts", "(I)Z"⟩ prog_14_method_82_code 2 (some .boolean) [.ref a0, .int x0] [(a0, .inr (18, [.ref a1, .ref a2, .int 0, .ref a3, .int 0, .ref a4, .int 0, .null, .int 0, .null, .long 0, .int 0, .null])), (a1, .inr (17, [.int 0, .ref a5, .ref a6, .int 0, .ref a7, .ref a8, .ref a9, .null, .null, .int 0, .ref a10, .ref a11, .ref a12, .int 0, .ref a13, .int 1]))] 1 30 0 0 (fun u => some (.int 1)) (fun u => [(a0, .inr (18, [.ref a1, .ref a2, .int 0, .ref a3, .int 0, .ref a4, .int 1, .null, .int 0, .null, .long 0, .int 0, .null])), (a1, .inr (17, [.int 0, .ref a5, .ref a6, .int 0, .ref a7, .ref a8, .ref a9, .null, .null, .int 0, .ref a10, .ref a11, .ref a12, .int 0, .ref a13, .int 1]))]) := by
  refine CT.of (own := "BallothallModel") (by decide +kernel) (Nat.le_of_ble_eq_true rfl) rfl (fun p e s m below meth c A ls hx hb hml hr hts hown hlocks hin hA hG hZ hP hD hS hl => ?_)
  have hl : lv_has ls 2 [(0, .ref a0), (1, .int x0)] := hl
  refine lv_aload_n hx hb d_14_82_0 rfl (lv_at hl 0 rfl) ?_
  refine lv_iload_n hx hb d_14_82_1 rfl (lv_at hl 1 rfl) ?_
  refine lv_iconst (v := 1) hx hb d_14_82_2 (by decide +kernel) ?_
  refine lv_aload_n hx hb d_14_82_3 rfl (lv_at hl 0 rfl) ?_
  refine va_get (D := z.1) (ci := 18) (v := .ref a1) (C := "BallothallModel") (T := TX18) (N := 13) hx hb hts iX18 hown hG.1 hP 0 rfl rfl 0 (by decide) (hts _ w_1645) (fun _ h9 => h9) rfl d_14_82_4 ?_
  refine va_getN (D := z.1) (ci := 17) (v := .int 0) (C := "BallothallModel$State") (T := TX17) (N := 16) hx hb hts iX17 hown hG.1 hP 1 rfl rfl 9 (by decide) (va_Nw.use rfl (hG.2.1 _ n_1598 rfl)) (fun _ h9 => h9) rfl d_14_82_7 ?_
  refine kS (As := [.int x0, .int 1, .int 0]) (rest := [.ref a0]) (wr := [(a0, .inr (18, [.ref a1, .ref a2, .int 0, .ref a3, .int 0, .ref a4, .int 0, .null, .int 0, .null, .long 0, .int 0, .null])), (a1, .inr (17, [.int 0, .ref a5, .ref a6, .int 0, .ref a7, .ref a8, .ref a9, .null, .null, .int 0, .ref a10, .ref a11, .ref a12, .int 0, .ref a13, .int 1]))]) (c568_BModel_isIn l z x0 h0) hx hb hml hown hts w_1718 w_1716 w_1717 w_12 md_bca45c ⟨Nat.le_of_ble_eq_true rfl, Nat.le_of_ble_eq_true rfl⟩ hG hZ hP hD hS hA [] [0, 1] rfl rfl rfl rfl rfl hl.1 rfl (Nat.le_of_ble_eq_true rfl) d_14_82_10 ⟨Nat.le_of_ble_eq_true rfl, Nat.le_of_ble_eq_true rfl⟩ (fun u0 H locs hP hD hS => ?_)
  have hP : va_P z.1 classes [(a0, .inr (18, [.ref a1, .ref a2, .int 0, .ref a3, .int 0, .ref a4, .int 0, .null, .int 0, .null, .long 0, .int 0, .null])), (a1, .inr (17, [.int 0, .ref a5, .ref a6, .int 0, .ref a7, .ref a8, .ref a9, .null, .null, .int 0, .ref a10, .ref a11, .ref a12, .int 0, .ref a13, .int 1]))] H := hP
  have hD : va_D A [(a0, .inr (18, [.ref a1, .ref a2, .int 0, .ref a3, .int 0, .ref a4, .int 0, .null, .int 0, .null, .long 0, .int 0, .null])), (a1, .inr (17, [.int 0, .ref a5, .ref a6, .int 0, .ref a7, .ref a8, .ref a9, .null, .null, .int 0, .ref a10, .ref a11, .ref a12, .int 0, .ref a13, .int 1]))] := hD
  refine W.eq (g2 := F0 m 13 ls [.int 0, .ref a0]) rfl ?_
  refine lv_iconst (v := 1) hx hb d_14_82_13 (by decide +kernel) ?_
  refine kV (As := [.int 0, .int 1]) (rest := []) (wr := [(a1, .inr (17, [.int 0, .ref a5, .ref a6, .int 0, .ref a7, .ref a8, .ref a9, .null, .null, .int 0, .ref a10, .ref a11, .ref a12, .int 0, .ref a13, .int 1]))]) (c31_BModel_ends l z a0 a1 a2 a3 a4) hx hb hml hown hts w_1696 w_1693 w_1695 w_s_f8f2b7 w_12 md_77b0f8 ⟨Nat.le_of_ble_eq_true rfl, Nat.le_of_ble_eq_true rfl⟩ hG hZ hP hD hS hA 0 rfl rfl rfl [0] [1] rfl rfl rfl rfl rfl hl.1 rfl (Nat.le_of_ble_eq_true rfl) d_14_82_14 ⟨Nat.le_of_ble_eq_true rfl, Nat.le_of_ble_eq_true rfl⟩ (fun u1 H locs hP hD hS => ?_)
  have hP : va_P z.1 classes [(a1, .inr (17, [.int 0, .ref a5, .ref a6, .int 0, .ref a7, .ref a8, .ref a9, .null, .null, .int 0, .ref a10, .ref a11, .ref a12, .int 0, .ref a13, .int 1])), (a0, .inr (18, [.ref a1, .ref a2, .int 0, .ref a3, .int 0, .ref a4, .int 1, .null, .int 0, .null, .long 0, .int 0, .null]))] H := hP
  have hD : va_D A [(a1, .inr (17, [.int 0, .ref a5, .ref a6, .int 0, .ref a7, .ref a8, .ref a9, .null, .null, .int 0, .ref a10, .ref a11, .ref a12, .int 0, .ref a13, .int 1])), (a0, .inr (18, [.ref a1, .ref a2, .int 0, .ref a3, .int 0, .ref a4, .int 1, .null, .int 0, .null, .long 0, .int 0, .null]))] := hD
  refine W.eq (g2 := F0 m 17 ls [.int 1]) rfl ?_
  refine W.widen (k := 0) (n := 0) (Nat.le_of_ble_eq_true rfl) (Nat.le_of_ble_eq_true rfl) ?_
  exact W.zret hx hb hr rfl (fun t ht hW => qk hP hD hS [1, 0] rfl ((fun k => k), (fun _ _ => none)) rfl rfl rfl ht) hS.2.2 d_14_82_17
set_option maxRecDepth 100000 in
set_option maxHeartbeats 4000000 in
theorem c570_BModel_greatestDistrict (l : Launch) (z : Zz) (a0 a1 a2 a3 a4 a5 a6 a7 a8 a9 a10 a11 a12 a13 : Nat) (x0 : Int32) (h0 : x0 < 1) : CT l z ⟨"BallothallModel", "greatestDistrict", "(I)I"⟩ prog_14_method_83_code 2 (some .int) [.ref a0, .int x0] [(a0, .inr (18, [.ref a1, .ref a2, .int 0, .ref a3, .int 0, .ref a4, .int 0, .null, .int 0, .null, .long 0, .int 0, .null])), (a1, .inr (17, [.int 0, .ref a5, .ref a6, .int 0, .ref a7, .ref a8, .ref a9, .null, .null, .int 0, .ref a10, .ref a11, .ref a12, .int 0, .ref a13, .int 1]))] 2 59 0 0 (fun u => some (.int 0)) (fun u => [(a0, .inr (18, [.ref a1, .ref a2, .int 0, .ref a3, .int 0, .ref a4, .int 1, .null, .int 0, .null, .long 0, .int 0, .null])), (a1, .inr (17, [.int 0, .ref a5, .ref a6, .int 0, .ref a7, .ref a8, .ref a9, .null, .null, .int 0, .ref a10, .ref a11, .ref a12, .int 0, .ref a13, .int 1]))]) := by
  refine CT.of (own := "BallothallModel") (by decide +kernel) (Nat.le_of_ble_eq_true rfl) rfl (fun p e s m below meth c A ls hx hb hml hr hts hown hlocks hin hA hG hZ hP hD hS hl => ?_)
  have hl : lv_has ls 2 [(0, .ref a0), (1, .int x0)] := hl
  refine lv_aload_n hx hb d_14_83_0 rfl (lv_at hl 0 rfl) ?_
  refine lv_iload_n hx hb d_14_83_1 rfl (lv_at hl 1 rfl) ?_
  refine kV (As := [.int x0]) (rest := []) (wr := []) (c569_BModel_noDistricts l z a0 a1 a2 a3 a4 a5 a6 a7 a8 a9 a10 a11 a12 a13 x0 h0) hx hb hml hown hts w_2436 w_2433 w_2435 w_s_1fa96a w_12 md_d77cf7 ⟨Nat.le_of_ble_eq_true rfl, Nat.le_of_ble_eq_true rfl⟩ hG hZ hP hD hS hA 0 rfl rfl rfl [0, 1] [] rfl rfl rfl rfl rfl hl.1 rfl (Nat.le_of_ble_eq_true rfl) d_14_83_2 ⟨Nat.le_of_ble_eq_true rfl, Nat.le_of_ble_eq_true rfl⟩ (fun u0 H locs hP hD hS => ?_)
  have hP : va_P z.1 classes [(a0, .inr (18, [.ref a1, .ref a2, .int 0, .ref a3, .int 0, .ref a4, .int 1, .null, .int 0, .null, .long 0, .int 0, .null])), (a1, .inr (17, [.int 0, .ref a5, .ref a6, .int 0, .ref a7, .ref a8, .ref a9, .null, .null, .int 0, .ref a10, .ref a11, .ref a12, .int 0, .ref a13, .int 1]))] H := hP
  have hD : va_D A [(a0, .inr (18, [.ref a1, .ref a2, .int 0, .ref a3, .int 0, .ref a4, .int 1, .null, .int 0, .null, .long 0, .int 0, .null])), (a1, .inr (17, [.int 0, .ref a5, .ref a6, .int 0, .ref a7, .ref a8, .ref a9, .null, .null, .int 0, .ref a10, .ref a11, .ref a12, .int 0, .ref a13, .int 1]))] := hD
  refine W.eq (g2 := F0 m 5 ls [.int 1]) rfl ?_
  refine lv_if_eq (tgt := 12) hx hb d_14_83_5 (by decide) (fun c9 => absurd c9 (by decide +kernel)) (fun _ => ?_)
  refine lv_iconst (v := 0) hx hb d_14_83_8 (by decide +kernel) ?_
  refine lv_goto (tgt := 18) hx hb d_14_83_9 (by decide) ?_
  refine W.widen (k := 0) (n := 0) (Nat.le_of_ble_eq_true rfl) (Nat.le_of_ble_eq_true rfl) ?_
  exact W.iret hx hb hr (fun t ht hW => qk hP hD hS [0, 1] rfl ((fun k => k), (fun _ _ => none)) rfl rfl rfl ht) hS.2.2 d_14_83_18
set_option maxRecDepth 100000 in
set_option maxHeartbeats 4000000 in
theorem c571_B_greatestDistrict (l : Launch) (z : Zz) (hl0 : l.stackTraces = false) (a0 a1 a2 a3 a4 a5 a6 a7 a8 a9 a10 a11 a12 a13 a14 a15 : Nat) (x0 : Int32) (h0 : ¬ x0 < 1) (h1 : 0 < x0) : XT l z ⟨"Ballothall", "greatestDistrict", "(I)I"⟩ prog_1_method_42_code 2 (some .int) [.ref a0, .int x0] [(a0, .inr (11, [.ref a1, .ref a2, .ref a3, .ref a4, .ref a5, .ref a6, .ref a7, .ref a8, .ref a9, .ref a10, .int 0, .int 0, .ref a11, .int 0])), (a6, .inr (10, [.int 0, .ref a12, .ref a13, .ref a14, .ref a15]))] 7 128 1 6 "java/lang/IllegalArgumentException" := by
  refine XT.of (own := "Ballothall") (by decide +kernel) (Nat.le_of_ble_eq_true rfl) rfl (fun p e s m below meth c A ls hx hb hml hr hts hown hlocks hin hA hG hZ hP hD hS hl hnt => ?_)
  have hl : lv_has ls 2 [(0, .ref a0), (1, .int x0)] := hl
  refine lv_iload_n hx hb d_1_42_0 rfl (lv_at hl 1 rfl) ?_
  refine lv_iconst (v := 1) hx hb d_1_42_1 (by decide +kernel) ?_
  refine lv_aload_n hx hb d_1_42_2 rfl (lv_at hl 0 rfl) ?_
  refine va_get (D := z.1) (ci := 11) (v := .ref a6) (C := "Ballothall") (T := TX11) (N := 14) hx hb hts iX11 hown hG.1 hP 0 rfl rfl 5 (by decide) (hts _ w_411) (fun _ h9 => h9) rfl d_1_42_3 ?_
  refine va_getN (D := z.1) (ci := 10) (v := .int 0) (C := "Ballothall$Wards") (T := TX10) (N := 5) hx hb hts iX10 hown hG.1 hP 1 rfl rfl 0 (by decide) (va_Nw.use rfl (hG.2.1 _ n_367 rfl)) (fun _ h9 => h9) rfl d_1_42_6 ?_
  exact xS (As := [.int x0, .int 1, .int 0]) (rest := []) (wr := [(a0, .inr (11, [.ref a1, .ref a2, .ref a3, .ref a4, .ref a5, .ref a6, .ref a7, .ref a8, .ref a9, .ref a10, .int 0, .int 0, .ref a11, .int 0])), (a6, .inr (10, [.int 0, .ref a12, .ref a13, .ref a14, .ref a15]))]) (c274_B_needRange l z hl0 x0 h0 h1) hx hb hml hown hts w_876 w_874 w_875 w_1 md_519134 ⟨Nat.le_of_ble_eq_true rfl, Nat.le_of_ble_eq_true rfl⟩ hG hZ hP hD hS hA [] [0, 1] rfl rfl rfl rfl rfl hl.1 rfl (Nat.le_of_ble_eq_true rfl) d_1_42_9 ⟨Nat.le_of_ble_eq_true rfl, Nat.le_of_ble_eq_true rfl⟩ (fun q9 ce9 H locs hP hD hS h7 h8 h9 => x_out hnt hlocks hS h7 h8 h9 (Nat.le_of_ble_eq_true rfl) (Nat.le_of_ble_eq_true rfl))
set_option maxRecDepth 100000 in
set_option maxHeartbeats 4000000 in
theorem c572_BLaw_greatestDistrict (l : Launch) (z : Zz) (hl0 : l.stackTraces = false) (a0 a1 a2 a3 a4 a5 a6 a7 a8 a9 a10 a11 a12 a13 a14 a15 a16 : Nat) (x0 : Int32) (h0 : ¬ x0 < 1) (h1 : 0 < x0) : HT l z ⟨"BallothallLaw", "greatestDistrict", "(LBallothall;I[J)I"⟩ method_34_code 4 (some .int) [(0, 9, 12, 21)] [.ref a0, .int x0, .ref a1] [(a0, .inr (11, [.ref a2, .ref a3, .ref a4, .ref a5, .ref a6, .ref a7, .ref a8, .ref a9, .ref a10, .ref a11, .int 0, .int 0, .ref a12, .int 0])), (a7, .inr (10, [.int 0, .ref a13, .ref a14, .ref a15, .ref a16]))] 8 157 1 6 (fun u => some (.int 1)) (fun u => []) := by
  refine HT.of (own := "BallothallLaw") (by decide +kernel) (Nat.le_of_ble_eq_true rfl) rfl (fun p e s m below meth c A ls hx hb hml hr hts hown hlocks hin hA hG hZ hP hD hS hl htab => ?_)
  have hl : lv_has ls 4 [(0, .ref a0), (1, .int x0), (2, .ref a1)] := hl
  refine lv_aload_n hx hb d_L34_0 rfl (lv_at hl 2 rfl) ?_
  refine lv_iconst (v := 0) hx hb d_L34_1 (by decide +kernel) ?_
  refine lv_aload_n hx hb d_L34_2 rfl (lv_at hl 0 rfl) ?_
  refine lv_iload_n hx hb d_L34_3 rfl (lv_at hl 1 rfl) ?_
  refine xV (As := [.int x0]) (rest := [.int 0, .ref a1]) (wr := []) (c571_B_greatestDistrict l z hl0 a0 a2 a3 a4 a5 a6 a7 a8 a9 a10 a11 a12 a13 a14 a15 a16 x0 h0 h1) hx hb hml hown hts w_1468 w_1465 w_1466 w_1467 w_1 md_ce4f47 ⟨Nat.le_of_ble_eq_true rfl, Nat.le_of_ble_eq_true rfl⟩ hG hZ hP hD hS hA 0 rfl rfl rfl [0, 1] [] rfl rfl rfl rfl rfl hl.1 rfl (Nat.le_of_ble_eq_true rfl) d_L34_4 ⟨Nat.le_of_ble_eq_true rfl, Nat.le_of_ble_eq_true rfl⟩ (fun q0 ce9 H locs hP hD hS h7 h8 h9 => ?_)
  have hP : va_P z.1 classes [] H := hP
  have hD : va_D A [] := hD
  refine vx_catch hown [] ⟨0, 9, 12, 21⟩ [] (htab.trans rfl) (fun _ h9 => absurd h9 List.not_mem_nil) rfl (by decide) (hts _ w_850) (va_Nw.use rfl (hG.2.1 _ n_879 rfl)) h7 h8 h9 ?_
  refine lv_astore_n (lv' := [(3, .ref q0), (0, .ref a0), (1, .int x0), (2, .ref a1)]) hx hb d_L34_12 rfl hl (by decide) rfl (fun ls hl => ?_)
  refine lv_iconst (v := 1) hx hb d_L34_13 (by decide +kernel) ?_
  refine W.widen (k := 1) (n := 6) (Nat.le_of_ble_eq_true rfl) (Nat.le_of_ble_eq_true rfl) ?_
  refine vx_ret ?_
  exact W.iret hx hb hr (fun t ht hW => qk hP hD hS [] rfl ((fun k => k), (fun _ _ => none)) rfl rfl rfl ht) hS.2.2 d_L34_14
set_option maxRecDepth 100000 in
set_option maxHeartbeats 4000000 in
theorem c573_BModel_isIn (l : Launch) (z : Zz) (x0 : Int32) (h0 : ¬ x0 < 1) (h1 : 0 < x0) : CT l z ⟨"BallothallModel", "isIn", "(III)Z"⟩ prog_14_method_20_code 3 (some .boolean) [.int x0, .int 1, .int 0] [] 0 0 0 0 (fun u => some (.int 0)) (fun u => []) := by
  refine CT.of (own := "BallothallModel") (by decide +kernel) (Nat.le_of_ble_eq_true rfl) rfl (fun p e s m below meth c A ls hx hb hml hr hts hown hlocks hin hA hG hZ hP hD hS hl => ?_)
  have hl : lv_has ls 3 [(0, .int x0), (1, .int 1), (2, .int 0)] := hl
  refine lv_iload_n hx hb d_14_20_0 rfl (lv_at hl 0 rfl) ?_
  refine lv_iload_n hx hb d_14_20_1 rfl (lv_at hl 1 rfl) ?_
  refine lv_icmp_lt (tgt := 14) hx hb d_14_20_2 (by decide) (fun c9 => absurd c9 h0) (fun _ => ?_)
  refine lv_iload_n hx hb d_14_20_5 rfl (lv_at hl 0 rfl) ?_
  refine lv_iload_n hx hb d_14_20_6 rfl (lv_at hl 2 rfl) ?_
  refine lv_icmp_gt (tgt := 14) hx hb d_14_20_7 (by decide) (fun _ => ?_) (fun c9 => absurd h1 c9)
  refine lv_iconst (v := 0) hx hb d_14_20_14 (by decide +kernel) ?_
  refine W.widen (k := 0) (n := 0) (Nat.le_of_ble_eq_true rfl) (Nat.le_of_ble_eq_true rfl) ?_
  exact W.zret hx hb hr rfl (fun t ht hW => qk hP hD hS [] rfl ((fun k => k), (fun _ _ => none)) rfl rfl rfl ht) hS.2.2 d_14_20_15
set_option maxRecDepth 100000 in
set_option maxHeartbeats 4000000 in
theorem c574_BModel_noDistricts (l : Launch) (z : Zz) (a0 a1 a2 a3 a4 a5 a6 a7 a8 a9 a10 a11 a12 a13 : Nat) (x0 : Int32) (h0 : ¬ x0 < 1) (h1 : 0 < x0) : CT l z ⟨"BallothallModel", "noDistricts", "(I)Z"⟩ prog_14_method_82_code 2 (some .boolean) [.ref a0, .int x0] [(a0, .inr (18, [.ref a1, .ref a2, .int 0, .ref a3, .int 0, .ref a4, .int 0, .null, .int 0, .null, .long 0, .int 0, .null])), (a1, .inr (17, [.int 0, .ref a5, .ref a6, .int 0, .ref a7, .ref a8, .ref a9, .null, .null, .int 0, .ref a10, .ref a11, .ref a12, .int 0, .ref a13, .int 1]))] 1 30 0 0 (fun u => some (.int 1)) (fun u => [(a0, .inr (18, [.ref a1, .ref a2, .int 0, .ref a3, .int 0, .ref a4, .int 1, .null, .int 0, .null, .long 0, .int 0, .null])), (a1, .inr (17, [.int 0, .ref a5, .ref a6, .int 0, .ref a7, .ref a8, .ref a9, .null, .null, .int 0, .ref a10, .ref a11, .ref a12, .int 0, .ref a13, .int 1]))]) := by
  refine CT.of (own := "BallothallModel") (by decide +kernel) (Nat.le_of_ble_eq_true rfl) rfl (fun p e s m below meth c A ls hx hb hml hr hts hown hlocks hin hA hG hZ hP hD hS hl => ?_)
  have hl : lv_has ls 2 [(0, .ref a0), (1, .int x0)] := hl
  refine lv_aload_n hx hb d_14_82_0 rfl (lv_at hl 0 rfl) ?_
  refine lv_iload_n hx hb d_14_82_1 rfl (lv_at hl 1 rfl) ?_
  refine lv_iconst (v := 1) hx hb d_14_82_2 (by decide +kernel) ?_
  refine lv_aload_n hx hb d_14_82_3 rfl (lv_at hl 0 rfl) ?_
  refine va_get (D := z.1) (ci := 18) (v := .ref a1) (C := "BallothallModel") (T := TX18) (N := 13) hx hb hts iX18 hown hG.1 hP 0 rfl rfl 0 (by decide) (hts _ w_1645) (fun _ h9 => h9) rfl d_14_82_4 ?_
  refine va_getN (D := z.1) (ci := 17) (v := .int 0) (C := "BallothallModel$State") (T := TX17) (N := 16) hx hb hts iX17 hown hG.1 hP 1 rfl rfl 9 (by decide) (va_Nw.use rfl (hG.2.1 _ n_1598 rfl)) (fun _ h9 => h9) rfl d_14_82_7 ?_
  refine kS (As := [.int x0, .int 1, .int 0]) (rest := [.ref a0]) (wr := [(a0, .inr (18, [.ref a1, .ref a2, .int 0, .ref a3, .int 0, .ref a4, .int 0, .null, .int 0, .null, .long 0, .int 0, .null])), (a1, .inr (17, [.int 0, .ref a5, .ref a6, .int 0, .ref a7, .ref a8, .ref a9, .null, .null, .int 0, .ref a10, .ref a11, .ref a12, .int 0, .ref a13, .int 1]))]) (c573_BModel_isIn l z x0 h0 h1) hx hb hml hown hts w_1718 w_1716 w_1717 w_12 md_bca45c ⟨Nat.le_of_ble_eq_true rfl, Nat.le_of_ble_eq_true rfl⟩ hG hZ hP hD hS hA [] [0, 1] rfl rfl rfl rfl rfl hl.1 rfl (Nat.le_of_ble_eq_true rfl) d_14_82_10 ⟨Nat.le_of_ble_eq_true rfl, Nat.le_of_ble_eq_true rfl⟩ (fun u0 H locs hP hD hS => ?_)
  have hP : va_P z.1 classes [(a0, .inr (18, [.ref a1, .ref a2, .int 0, .ref a3, .int 0, .ref a4, .int 0, .null, .int 0, .null, .long 0, .int 0, .null])), (a1, .inr (17, [.int 0, .ref a5, .ref a6, .int 0, .ref a7, .ref a8, .ref a9, .null, .null, .int 0, .ref a10, .ref a11, .ref a12, .int 0, .ref a13, .int 1]))] H := hP
  have hD : va_D A [(a0, .inr (18, [.ref a1, .ref a2, .int 0, .ref a3, .int 0, .ref a4, .int 0, .null, .int 0, .null, .long 0, .int 0, .null])), (a1, .inr (17, [.int 0, .ref a5, .ref a6, .int 0, .ref a7, .ref a8, .ref a9, .null, .null, .int 0, .ref a10, .ref a11, .ref a12, .int 0, .ref a13, .int 1]))] := hD
  refine W.eq (g2 := F0 m 13 ls [.int 0, .ref a0]) rfl ?_
  refine lv_iconst (v := 1) hx hb d_14_82_13 (by decide +kernel) ?_
  refine kV (As := [.int 0, .int 1]) (rest := []) (wr := [(a1, .inr (17, [.int 0, .ref a5, .ref a6, .int 0, .ref a7, .ref a8, .ref a9, .null, .null, .int 0, .ref a10, .ref a11, .ref a12, .int 0, .ref a13, .int 1]))]) (c31_BModel_ends l z a0 a1 a2 a3 a4) hx hb hml hown hts w_1696 w_1693 w_1695 w_s_f8f2b7 w_12 md_77b0f8 ⟨Nat.le_of_ble_eq_true rfl, Nat.le_of_ble_eq_true rfl⟩ hG hZ hP hD hS hA 0 rfl rfl rfl [0] [1] rfl rfl rfl rfl rfl hl.1 rfl (Nat.le_of_ble_eq_true rfl) d_14_82_14 ⟨Nat.le_of_ble_eq_true rfl, Nat.le_of_ble_eq_true rfl⟩ (fun u1 H locs hP hD hS => ?_)
  have hP : va_P z.1 classes [(a1, .inr (17, [.int 0, .ref a5, .ref a6, .int 0, .ref a7, .ref a8, .ref a9, .null, .null, .int 0, .ref a10, .ref a11, .ref a12, .int 0, .ref a13, .int 1])), (a0, .inr (18, [.ref a1, .ref a2, .int 0, .ref a3, .int 0, .ref a4, .int 1, .null, .int 0, .null, .long 0, .int 0, .null]))] H := hP
  have hD : va_D A [(a1, .inr (17, [.int 0, .ref a5, .ref a6, .int 0, .ref a7, .ref a8, .ref a9, .null, .null, .int 0, .ref a10, .ref a11, .ref a12, .int 0, .ref a13, .int 1])), (a0, .inr (18, [.ref a1, .ref a2, .int 0, .ref a3, .int 0, .ref a4, .int 1, .null, .int 0, .null, .long 0, .int 0, .null]))] := hD
  refine W.eq (g2 := F0 m 17 ls [.int 1]) rfl ?_
  refine W.widen (k := 0) (n := 0) (Nat.le_of_ble_eq_true rfl) (Nat.le_of_ble_eq_true rfl) ?_
  exact W.zret hx hb hr rfl (fun t ht hW => qk hP hD hS [1, 0] rfl ((fun k => k), (fun _ _ => none)) rfl rfl rfl ht) hS.2.2 d_14_82_17
set_option maxRecDepth 100000 in
set_option maxHeartbeats 4000000 in
theorem c575_BModel_greatestDistrict (l : Launch) (z : Zz) (a0 a1 a2 a3 a4 a5 a6 a7 a8 a9 a10 a11 a12 a13 : Nat) (x0 : Int32) (h0 : ¬ x0 < 1) (h1 : 0 < x0) : CT l z ⟨"BallothallModel", "greatestDistrict", "(I)I"⟩ prog_14_method_83_code 2 (some .int) [.ref a0, .int x0] [(a0, .inr (18, [.ref a1, .ref a2, .int 0, .ref a3, .int 0, .ref a4, .int 0, .null, .int 0, .null, .long 0, .int 0, .null])), (a1, .inr (17, [.int 0, .ref a5, .ref a6, .int 0, .ref a7, .ref a8, .ref a9, .null, .null, .int 0, .ref a10, .ref a11, .ref a12, .int 0, .ref a13, .int 1]))] 2 59 0 0 (fun u => some (.int 0)) (fun u => [(a0, .inr (18, [.ref a1, .ref a2, .int 0, .ref a3, .int 0, .ref a4, .int 1, .null, .int 0, .null, .long 0, .int 0, .null])), (a1, .inr (17, [.int 0, .ref a5, .ref a6, .int 0, .ref a7, .ref a8, .ref a9, .null, .null, .int 0, .ref a10, .ref a11, .ref a12, .int 0, .ref a13, .int 1]))]) := by
  refine CT.of (own := "BallothallModel") (by decide +kernel) (Nat.le_of_ble_eq_true rfl) rfl (fun p e s m below meth c A ls hx hb hml hr hts hown hlocks hin hA hG hZ hP hD hS hl => ?_)
  have hl : lv_has ls 2 [(0, .ref a0), (1, .int x0)] := hl
  refine lv_aload_n hx hb d_14_83_0 rfl (lv_at hl 0 rfl) ?_
  refine lv_iload_n hx hb d_14_83_1 rfl (lv_at hl 1 rfl) ?_
  refine kV (As := [.int x0]) (rest := []) (wr := []) (c574_BModel_noDistricts l z a0 a1 a2 a3 a4 a5 a6 a7 a8 a9 a10 a11 a12 a13 x0 h0 h1) hx hb hml hown hts w_2436 w_2433 w_2435 w_s_1fa96a w_12 md_d77cf7 ⟨Nat.le_of_ble_eq_true rfl, Nat.le_of_ble_eq_true rfl⟩ hG hZ hP hD hS hA 0 rfl rfl rfl [0, 1] [] rfl rfl rfl rfl rfl hl.1 rfl (Nat.le_of_ble_eq_true rfl) d_14_83_2 ⟨Nat.le_of_ble_eq_true rfl, Nat.le_of_ble_eq_true rfl⟩ (fun u0 H locs hP hD hS => ?_)
  have hP : va_P z.1 classes [(a0, .inr (18, [.ref a1, .ref a2, .int 0, .ref a3, .int 0, .ref a4, .int 1, .null, .int 0, .null, .long 0, .int 0, .null])), (a1, .inr (17, [.int 0, .ref a5, .ref a6, .int 0, .ref a7, .ref a8, .ref a9, .null, .null, .int 0, .ref a10, .ref a11, .ref a12, .int 0, .ref a13, .int 1]))] H := hP
  have hD : va_D A [(a0, .inr (18, [.ref a1, .ref a2, .int 0, .ref a3, .int 0, .ref a4, .int 1, .null, .int 0, .null, .long 0, .int 0, .null])), (a1, .inr (17, [.int 0, .ref a5, .ref a6, .int 0, .ref a7, .ref a8, .ref a9, .null, .null, .int 0, .ref a10, .ref a11, .ref a12, .int 0, .ref a13, .int 1]))] := hD
  refine W.eq (g2 := F0 m 5 ls [.int 1]) rfl ?_
  refine lv_if_eq (tgt := 12) hx hb d_14_83_5 (by decide) (fun c9 => absurd c9 (by decide +kernel)) (fun _ => ?_)
  refine lv_iconst (v := 0) hx hb d_14_83_8 (by decide +kernel) ?_
  refine lv_goto (tgt := 18) hx hb d_14_83_9 (by decide) ?_
  refine W.widen (k := 0) (n := 0) (Nat.le_of_ble_eq_true rfl) (Nat.le_of_ble_eq_true rfl) ?_
  exact W.iret hx hb hr (fun t ht hW => qk hP hD hS [0, 1] rfl ((fun k => k), (fun _ _ => none)) rfl rfl rfl ht) hS.2.2 d_14_83_18
set_option maxRecDepth 100000 in
set_option maxHeartbeats 4000000 in
theorem c576_B_districtEnd (l : Launch) (z : Zz) (hl0 : l.stackTraces = false) (a0 a1 a2 a3 a4 a5 a6 a7 a8 a9 a10 a11 a12 a13 a14 a15 : Nat) (x0 : Int32) (x1 : Int32) (h0 : x0 < 1) : XT l z ⟨"Ballothall", "districtEnd", "(II)I"⟩ prog_1_method_43_code 3 (some .int) [.ref a0, .int x0, .int x1] [(a0, .inr (11, [.ref a1, .ref a2, .ref a3, .ref a4, .ref a5, .ref a6, .ref a7, .ref a8, .ref a9, .ref a10, .int 0, .int 0, .ref a11, .int 0])), (a6, .inr (10, [.int 0, .ref a12, .ref a13, .ref a14, .ref a15]))] 7 128 1 6 "java/lang/IllegalArgumentException" := by
  refine XT.of (own := "Ballothall") (by decide +kernel) (Nat.le_of_ble_eq_true rfl) rfl (fun p e s m below meth c A ls hx hb hml hr hts hown hlocks hin hA hG hZ hP hD hS hl hnt => ?_)
  have hl : lv_has ls 3 [(0, .ref a0), (1, .int x0), (2, .int x1)] := hl
  refine lv_iload_n hx hb d_1_43_0 rfl (lv_at hl 1 rfl) ?_
  refine lv_iconst (v := 1) hx hb d_1_43_1 (by decide +kernel) ?_
  refine lv_aload_n hx hb d_1_43_2 rfl (lv_at hl 0 rfl) ?_
  refine va_get (D := z.1) (ci := 11) (v := .ref a6) (C := "Ballothall") (T := TX11) (N := 14) hx hb hts iX11 hown hG.1 hP 0 rfl rfl 5 (by decide) (hts _ w_411) (fun _ h9 => h9) rfl d_1_43_3 ?_
  refine va_getN (D := z.1) (ci := 10) (v := .int 0) (C := "Ballothall$Wards") (T := TX10) (N := 5) hx hb hts iX10 hown hG.1 hP 1 rfl rfl 0 (by decide) (va_Nw.use rfl (hG.2.1 _ n_367 rfl)) (fun _ h9 => h9) rfl d_1_43_6 ?_
  exact xS (As := [.int x0, .int 1, .int 0]) (rest := []) (wr := [(a0, .inr (11, [.ref a1, .ref a2, .ref a3, .ref a4, .ref a5, .ref a6, .ref a7, .ref a8, .ref a9, .ref a10, .int 0, .int 0, .ref a11, .int 0])), (a6, .inr (10, [.int 0, .ref a12, .ref a13, .ref a14, .ref a15]))]) (c270_B_needRange l z hl0 x0 h0) hx hb hml hown hts w_876 w_874 w_875 w_1 md_519134 ⟨Nat.le_of_ble_eq_true rfl, Nat.le_of_ble_eq_true rfl⟩ hG hZ hP hD hS hA [] [0, 1] rfl rfl rfl rfl rfl hl.1 rfl (Nat.le_of_ble_eq_true rfl) d_1_43_9 ⟨Nat.le_of_ble_eq_true rfl, Nat.le_of_ble_eq_true rfl⟩ (fun q9 ce9 H locs hP hD hS h7 h8 h9 => x_out hnt hlocks hS h7 h8 h9 (Nat.le_of_ble_eq_true rfl) (Nat.le_of_ble_eq_true rfl))
set_option maxRecDepth 100000 in
set_option maxHeartbeats 4000000 in
theorem c577_BLaw_districtEnd (l : Launch) (z : Zz) (hl0 : l.stackTraces = false) (a0 a1 a2 a3 a4 a5 a6 a7 a8 a9 a10 a11 a12 a13 a14 a15 a16 : Nat) (x0 : Int32) (x1 : Int32) (h0 : x0 < 1) : HT l z ⟨"BallothallLaw", "districtEnd", "(LBallothall;II[J)I"⟩ method_35_code 5 (some .int) [(0, 10, 13, 21), (0, 10, 17, 61)] [.ref a0, .int x0, .int x1, .ref a1] [(a0, .inr (11, [.ref a2, .ref a3, .ref a4, .ref a5, .ref a6, .ref a7, .ref a8, .ref a9, .ref a10, .ref a11, .int 0, .int 0, .ref a12, .int 0])), (a7, .inr (10, [.int 0, .ref a13, .ref a14, .ref a15, .ref a16]))] 8 158 1 6 (fun u => some (.int 1)) (fun u => []) := by
  refine HT.of (own := "BallothallLaw") (by decide +kernel) (Nat.le_of_ble_eq_true rfl) rfl (fun p e s m below meth c A ls hx hb hml hr hts hown hlocks hin hA hG hZ hP hD hS hl htab => ?_)
  have hl : lv_has ls 5 [(0, .ref a0), (1, .int x0), (2, .int x1), (3, .ref a1)] := hl
  refine lv_aload_n hx hb d_L35_0 rfl (lv_at hl 3 rfl) ?_
  refine lv_iconst (v := 0) hx hb d_L35_1 (by decide +kernel) ?_
  refine lv_aload_n hx hb d_L35_2 rfl (lv_at hl 0 rfl) ?_
  refine lv_iload_n hx hb d_L35_3 rfl (lv_at hl 1 rfl) ?_
  refine lv_iload_n hx hb d_L35_4 rfl (lv_at hl 2 rfl) ?_
  refine xV (As := [.int x0, .int x1]) (rest := [.int 0, .ref a1]) (wr := []) (c576_B_districtEnd l z hl0 a0 a2 a3 a4 a5 a6 a7 a8 a9 a10 a11 a12 a13 a14 a15 a16 x0 x1 h0) hx hb hml hown hts w_1494 w_1491 w_1492 w_1493 w_1 md_a0f53c ⟨Nat.le_of_ble_eq_true rfl, Nat.le_of_ble_eq_true rfl⟩ hG hZ hP hD hS hA 0 rfl rfl rfl [0, 1] [] rfl rfl rfl rfl rfl hl.1 rfl (Nat.le_of_ble_eq_true rfl) d_L35_5 ⟨Nat.le_of_ble_eq_true rfl, Nat.le_of_ble_eq_true rfl⟩ (fun q0 ce9 H locs hP hD hS h7 h8 h9 => ?_)
  have hP : va_P z.1 classes [] H := hP
  have hD : va_D A [] := hD
  refine vx_catch hown [] ⟨0, 10, 13, 21⟩ [⟨0, 10, 17, 61⟩] (htab.trans rfl) (fun _ h9 => absurd h9 List.not_mem_nil) rfl (by decide) (hts _ w_850) (va_Nw.use rfl (hG.2.1 _ n_879 rfl)) h7 h8 h9 ?_
  refine lv_astore (lv' := [(4, .ref q0), (0, .ref a0), (1, .int x0), (2, .int x1), (3, .ref a1)]) hx hb d_L35_13 hl (by decide) rfl (fun ls hl => ?_)
  refine lv_iconst (v := 1) hx hb d_L35_15 (by decide +kernel) ?_
  refine W.widen (k := 1) (n := 6) (Nat.le_of_ble_eq_true rfl) (Nat.le_of_ble_eq_true rfl) ?_
  refine vx_ret ?_
  exact W.iret hx hb hr (fun t ht hW => qk hP hD hS [] rfl ((fun k => k), (fun _ _ => none)) rfl rfl rfl ht) hS.2.2 d_L35_16
set_option maxRecDepth 100000 in
set_option maxHeartbeats 4000000 in
theorem c578_BModel_districtEnd (l : Launch) (z : Zz) (a0 a1 a2 a3 a4 a5 a6 a7 a8 a9 a10 a11 a12 a13 : Nat) (x0 : Int32) (x1 : Int32) (h0 : x0 < 1) : CT l z ⟨"BallothallModel", "districtEnd", "(II)I"⟩ prog_14_method_84_code 3 (some .int) [.ref a0, .int x0, .int x1] [(a0, .inr (18, [.ref a1, .ref a2, .int 0, .ref a3, .int 0, .ref a4, .int 0, .null, .int 0, .null, .long 0, .int 0, .null])), (a1, .inr (17, [.int 0, .ref a5, .ref a6, .int 0, .ref a7, .ref a8, .ref a9, .null, .null, .int 0, .ref a10, .ref a11, .ref a12, .int 0, .ref a13, .int 1]))] 2 59 0 0 (fun u => some (.int 0)) (fun u => [(a0, .inr (18, [.ref a1, .ref a2, .int 0, .ref a3, .int 0, .ref a4, .int 1, .null, .int 0, .null, .long 0, .int 0, .null])), (a1, .inr (17, [.int 0, .ref a5, .ref a6, .int 0, .ref a7, .ref a8, .ref a9, .null, .null, .int 0, .ref a10, .ref a11, .ref a12, .int 0, .ref a13, .int 1]))]) := by
  refine CT.of (own := "BallothallModel") (by decide +kernel) (Nat.le_of_ble_eq_true rfl) rfl (fun p e s m below meth c A ls hx hb hml hr hts hown hlocks hin hA hG hZ hP hD hS hl => ?_)
  have hl : lv_has ls 3 [(0, .ref a0), (1, .int x0), (2, .int x1)] := hl
  refine lv_aload_n hx hb d_14_84_0 rfl (lv_at hl 0 rfl) ?_
  refine lv_iload_n hx hb d_14_84_1 rfl (lv_at hl 1 rfl) ?_
  refine kV (As := [.int x0]) (rest := []) (wr := []) (c569_BModel_noDistricts l z a0 a1 a2 a3 a4 a5 a6 a7 a8 a9 a10 a11 a12 a13 x0 h0) hx hb hml hown hts w_2436 w_2433 w_2435 w_s_1fa96a w_12 md_d77cf7 ⟨Nat.le_of_ble_eq_true rfl, Nat.le_of_ble_eq_true rfl⟩ hG hZ hP hD hS hA 0 rfl rfl rfl [0, 1] [] rfl rfl rfl rfl rfl hl.1 rfl (Nat.le_of_ble_eq_true rfl) d_14_84_2 ⟨Nat.le_of_ble_eq_true rfl, Nat.le_of_ble_eq_true rfl⟩ (fun u0 H locs hP hD hS => ?_)
  have hP : va_P z.1 classes [(a0, .inr (18, [.ref a1, .ref a2, .int 0, .ref a3, .int 0, .ref a4, .int 1, .null, .int 0, .null, .long 0, .int 0, .null])), (a1, .inr (17, [.int 0, .ref a5, .ref a6, .int 0, .ref a7, .ref a8, .ref a9, .null, .null, .int 0, .ref a10, .ref a11, .ref a12, .int 0, .ref a13, .int 1]))] H := hP
  have hD : va_D A [(a0, .inr (18, [.ref a1, .ref a2, .int 0, .ref a3, .int 0, .ref a4, .int 1, .null, .int 0, .null, .long 0, .int 0, .null])), (a1, .inr (17, [.int 0, .ref a5, .ref a6, .int 0, .ref a7, .ref a8, .ref a9, .null, .null, .int 0, .ref a10, .ref a11, .ref a12, .int 0, .ref a13, .int 1]))] := hD
  refine W.eq (g2 := F0 m 5 ls [.int 1]) rfl ?_
  refine lv_if_ne (tgt := 24) hx hb d_14_84_5 (by decide) (fun _ => ?_) (fun c9 => absurd c9 (by decide +kernel))
  refine lv_iconst (v := 0) hx hb d_14_84_24 (by decide +kernel) ?_
  refine lv_goto (tgt := 35) hx hb d_14_84_25 (by decide) ?_
  refine W.widen (k := 0) (n := 0) (Nat.le_of_ble_eq_true rfl) (Nat.le_of_ble_eq_true rfl) ?_
  exact W.iret hx hb hr (fun t ht hW => qk hP hD hS [0, 1] rfl ((fun k => k), (fun _ _ => none)) rfl rfl rfl ht) hS.2.2 d_14_84_35
set_option maxRecDepth 100000 in
set_option maxHeartbeats 4000000 in
theorem c579_B_districtEnd (l : Launch) (z : Zz) (hl0 : l.stackTraces = false) (a0 a1 a2 a3 a4 a5 a6 a7 a8 a9 a10 a11 a12 a13 a14 a15 : Nat) (x0 : Int32) (x1 : Int32) (h0 : ¬ x0 < 1) (h1 : 0 < x0) : XT l z ⟨"Ballothall", "districtEnd", "(II)I"⟩ prog_1_method_43_code 3 (some .int) [.ref a0, .int x0, .int x1] [(a0, .inr (11, [.ref a1, .ref a2, .ref a3, .ref a4, .ref a5, .ref a6, .ref a7, .ref a8, .ref a9, .ref a10, .int 0, .int 0, .ref a11, .int 0])), (a6, .inr (10, [.int 0, .ref a12, .ref a13, .ref a14, .ref a15]))] 7 128 1 6 "java/lang/IllegalArgumentException" := by
  refine XT.of (own := "Ballothall") (by decide +kernel) (Nat.le_of_ble_eq_true rfl) rfl (fun p e s m below meth c A ls hx hb hml hr hts hown hlocks hin hA hG hZ hP hD hS hl hnt => ?_)
  have hl : lv_has ls 3 [(0, .ref a0), (1, .int x0), (2, .int x1)] := hl
  refine lv_iload_n hx hb d_1_43_0 rfl (lv_at hl 1 rfl) ?_
  refine lv_iconst (v := 1) hx hb d_1_43_1 (by decide +kernel) ?_
  refine lv_aload_n hx hb d_1_43_2 rfl (lv_at hl 0 rfl) ?_
  refine va_get (D := z.1) (ci := 11) (v := .ref a6) (C := "Ballothall") (T := TX11) (N := 14) hx hb hts iX11 hown hG.1 hP 0 rfl rfl 5 (by decide) (hts _ w_411) (fun _ h9 => h9) rfl d_1_43_3 ?_
  refine va_getN (D := z.1) (ci := 10) (v := .int 0) (C := "Ballothall$Wards") (T := TX10) (N := 5) hx hb hts iX10 hown hG.1 hP 1 rfl rfl 0 (by decide) (va_Nw.use rfl (hG.2.1 _ n_367 rfl)) (fun _ h9 => h9) rfl d_1_43_6 ?_
  exact xS (As := [.int x0, .int 1, .int 0]) (rest := []) (wr := [(a0, .inr (11, [.ref a1, .ref a2, .ref a3, .ref a4, .ref a5, .ref a6, .ref a7, .ref a8, .ref a9, .ref a10, .int 0, .int 0, .ref a11, .int 0])), (a6, .inr (10, [.int 0, .ref a12, .ref a13, .ref a14, .ref a15]))]) (c274_B_needRange l z hl0 x0 h0 h1) hx hb hml hown hts w_876 w_874 w_875 w_1 md_519134 ⟨Nat.le_of_ble_eq_true rfl, Nat.le_of_ble_eq_true rfl⟩ hG hZ hP hD hS hA [] [0, 1] rfl rfl rfl rfl rfl hl.1 rfl (Nat.le_of_ble_eq_true rfl) d_1_43_9 ⟨Nat.le_of_ble_eq_true rfl, Nat.le_of_ble_eq_true rfl⟩ (fun q9 ce9 H locs hP hD hS h7 h8 h9 => x_out hnt hlocks hS h7 h8 h9 (Nat.le_of_ble_eq_true rfl) (Nat.le_of_ble_eq_true rfl))
set_option maxRecDepth 100000 in
set_option maxHeartbeats 4000000 in
theorem c580_BLaw_districtEnd (l : Launch) (z : Zz) (hl0 : l.stackTraces = false) (a0 a1 a2 a3 a4 a5 a6 a7 a8 a9 a10 a11 a12 a13 a14 a15 a16 : Nat) (x0 : Int32) (x1 : Int32) (h0 : ¬ x0 < 1) (h1 : 0 < x0) : HT l z ⟨"BallothallLaw", "districtEnd", "(LBallothall;II[J)I"⟩ method_35_code 5 (some .int) [(0, 10, 13, 21), (0, 10, 17, 61)] [.ref a0, .int x0, .int x1, .ref a1] [(a0, .inr (11, [.ref a2, .ref a3, .ref a4, .ref a5, .ref a6, .ref a7, .ref a8, .ref a9, .ref a10, .ref a11, .int 0, .int 0, .ref a12, .int 0])), (a7, .inr (10, [.int 0, .ref a13, .ref a14, .ref a15, .ref a16]))] 8 158 1 6 (fun u => some (.int 1)) (fun u => []) := by
  refine HT.of (own := "BallothallLaw") (by decide +kernel) (Nat.le_of_ble_eq_true rfl) rfl (fun p e s m below meth c A ls hx hb hml hr hts hown hlocks hin hA hG hZ hP hD hS hl htab => ?_)
  have hl : lv_has ls 5 [(0, .ref a0), (1, .int x0), (2, .int x1), (3, .ref a1)] := hl
  refine lv_aload_n hx hb d_L35_0 rfl (lv_at hl 3 rfl) ?_
  refine lv_iconst (v := 0) hx hb d_L35_1 (by decide +kernel) ?_
  refine lv_aload_n hx hb d_L35_2 rfl (lv_at hl 0 rfl) ?_
  refine lv_iload_n hx hb d_L35_3 rfl (lv_at hl 1 rfl) ?_
  refine lv_iload_n hx hb d_L35_4 rfl (lv_at hl 2 rfl) ?_
  refine xV (As := [.int x0, .int x1]) (rest := [.int 0, .ref a1]) (wr := []) (c579_B_districtEnd l z hl0 a0 a2 a3 a4 a5 a6 a7 a8 a9 a10 a11 a12 a13 a14 a15 a16 x0 x1 h0 h1) hx hb hml hown hts w_1494 w_1491 w_1492 w_1493 w_1 md_a0f53c ⟨Nat.le_of_ble_eq_true rfl, Nat.le_of_ble_eq_true rfl⟩ hG hZ hP hD hS hA 0 rfl rfl rfl [0, 1] [] rfl rfl rfl rfl rfl hl.1 rfl (Nat.le_of_ble_eq_true rfl) d_L35_5 ⟨Nat.le_of_ble_eq_true rfl, Nat.le_of_ble_eq_true rfl⟩ (fun q0 ce9 H locs hP hD hS h7 h8 h9 => ?_)
  have hP : va_P z.1 classes [] H := hP
  have hD : va_D A [] := hD
  refine vx_catch hown [] ⟨0, 10, 13, 21⟩ [⟨0, 10, 17, 61⟩] (htab.trans rfl) (fun _ h9 => absurd h9 List.not_mem_nil) rfl (by decide) (hts _ w_850) (va_Nw.use rfl (hG.2.1 _ n_879 rfl)) h7 h8 h9 ?_
  refine lv_astore (lv' := [(4, .ref q0), (0, .ref a0), (1, .int x0), (2, .int x1), (3, .ref a1)]) hx hb d_L35_13 hl (by decide) rfl (fun ls hl => ?_)
  refine lv_iconst (v := 1) hx hb d_L35_15 (by decide +kernel) ?_
  refine W.widen (k := 1) (n := 6) (Nat.le_of_ble_eq_true rfl) (Nat.le_of_ble_eq_true rfl) ?_
  refine vx_ret ?_
  exact W.iret hx hb hr (fun t ht hW => qk hP hD hS [] rfl ((fun k => k), (fun _ _ => none)) rfl rfl rfl ht) hS.2.2 d_L35_16
set_option maxRecDepth 100000 in
set_option maxHeartbeats 4000000 in
theorem c581_BModel_districtEnd (l : Launch) (z : Zz) (a0 a1 a2 a3 a4 a5 a6 a7 a8 a9 a10 a11 a12 a13 : Nat) (x0 : Int32) (x1 : Int32) (h0 : ¬ x0 < 1) (h1 : 0 < x0) : CT l z ⟨"BallothallModel", "districtEnd", "(II)I"⟩ prog_14_method_84_code 3 (some .int) [.ref a0, .int x0, .int x1] [(a0, .inr (18, [.ref a1, .ref a2, .int 0, .ref a3, .int 0, .ref a4, .int 0, .null, .int 0, .null, .long 0, .int 0, .null])), (a1, .inr (17, [.int 0, .ref a5, .ref a6, .int 0, .ref a7, .ref a8, .ref a9, .null, .null, .int 0, .ref a10, .ref a11, .ref a12, .int 0, .ref a13, .int 1]))] 2 59 0 0 (fun u => some (.int 0)) (fun u => [(a0, .inr (18, [.ref a1, .ref a2, .int 0, .ref a3, .int 0, .ref a4, .int 1, .null, .int 0, .null, .long 0, .int 0, .null])), (a1, .inr (17, [.int 0, .ref a5, .ref a6, .int 0, .ref a7, .ref a8, .ref a9, .null, .null, .int 0, .ref a10, .ref a11, .ref a12, .int 0, .ref a13, .int 1]))]) := by
  refine CT.of (own := "BallothallModel") (by decide +kernel) (Nat.le_of_ble_eq_true rfl) rfl (fun p e s m below meth c A ls hx hb hml hr hts hown hlocks hin hA hG hZ hP hD hS hl => ?_)
  have hl : lv_has ls 3 [(0, .ref a0), (1, .int x0), (2, .int x1)] := hl
  refine lv_aload_n hx hb d_14_84_0 rfl (lv_at hl 0 rfl) ?_
  refine lv_iload_n hx hb d_14_84_1 rfl (lv_at hl 1 rfl) ?_
  refine kV (As := [.int x0]) (rest := []) (wr := []) (c574_BModel_noDistricts l z a0 a1 a2 a3 a4 a5 a6 a7 a8 a9 a10 a11 a12 a13 x0 h0 h1) hx hb hml hown hts w_2436 w_2433 w_2435 w_s_1fa96a w_12 md_d77cf7 ⟨Nat.le_of_ble_eq_true rfl, Nat.le_of_ble_eq_true rfl⟩ hG hZ hP hD hS hA 0 rfl rfl rfl [0, 1] [] rfl rfl rfl rfl rfl hl.1 rfl (Nat.le_of_ble_eq_true rfl) d_14_84_2 ⟨Nat.le_of_ble_eq_true rfl, Nat.le_of_ble_eq_true rfl⟩ (fun u0 H locs hP hD hS => ?_)
  have hP : va_P z.1 classes [(a0, .inr (18, [.ref a1, .ref a2, .int 0, .ref a3, .int 0, .ref a4, .int 1, .null, .int 0, .null, .long 0, .int 0, .null])), (a1, .inr (17, [.int 0, .ref a5, .ref a6, .int 0, .ref a7, .ref a8, .ref a9, .null, .null, .int 0, .ref a10, .ref a11, .ref a12, .int 0, .ref a13, .int 1]))] H := hP
  have hD : va_D A [(a0, .inr (18, [.ref a1, .ref a2, .int 0, .ref a3, .int 0, .ref a4, .int 1, .null, .int 0, .null, .long 0, .int 0, .null])), (a1, .inr (17, [.int 0, .ref a5, .ref a6, .int 0, .ref a7, .ref a8, .ref a9, .null, .null, .int 0, .ref a10, .ref a11, .ref a12, .int 0, .ref a13, .int 1]))] := hD
  refine W.eq (g2 := F0 m 5 ls [.int 1]) rfl ?_
  refine lv_if_ne (tgt := 24) hx hb d_14_84_5 (by decide) (fun _ => ?_) (fun c9 => absurd c9 (by decide +kernel))
  refine lv_iconst (v := 0) hx hb d_14_84_24 (by decide +kernel) ?_
  refine lv_goto (tgt := 35) hx hb d_14_84_25 (by decide) ?_
  refine W.widen (k := 0) (n := 0) (Nat.le_of_ble_eq_true rfl) (Nat.le_of_ble_eq_true rfl) ?_
  exact W.iret hx hb hr (fun t ht hW => qk hP hD hS [0, 1] rfl ((fun k => k), (fun _ _ => none)) rfl rfl rfl ht) hS.2.2 d_14_84_35
set_option maxRecDepth 100000 in
set_option maxHeartbeats 4000000 in
theorem c582_B_districtsWon (l : Launch) (z : Zz) (hl0 : l.stackTraces = false) (a0 a1 a2 a3 a4 a5 a6 a7 a8 a9 a10 a11 a12 a13 a14 a15 : Nat) (x0 : Int32) (x1 : Int32) (h0 : x0 < 1) : XT l z ⟨"Ballothall", "districtsWon", "(II)I"⟩ prog_1_method_44_code 5 (some .int) [.ref a0, .int x0, .int x1] [(a0, .inr (11, [.ref a1, .ref a2, .ref a3, .ref a4, .ref a5, .ref a6, .ref a7, .ref a8, .ref a9, .ref a10, .int 0, .int 0, .ref a11, .int 0])), (a6, .inr (10, [.int 0, .ref a12, .ref a13, .ref a14, .ref a15]))] 7 128 1 6 "java/lang/IllegalArgumentException" := by
  refine XT.of (own := "Ballothall") (by decide +kernel) (Nat.le_of_ble_eq_true rfl) rfl (fun p e s m below meth c A ls hx hb hml hr hts hown hlocks hin hA hG hZ hP hD hS hl hnt => ?_)
  have hl : lv_has ls 5 [(0, .ref a0), (1, .int x0), (2, .int x1)] := hl
  refine lv_iload_n hx hb d_1_44_0 rfl (lv_at hl 1 rfl) ?_
  refine lv_iconst (v := 1) hx hb d_1_44_1 (by decide +kernel) ?_
  refine lv_aload_n hx hb d_1_44_2 rfl (lv_at hl 0 rfl) ?_
  refine va_get (D := z.1) (ci := 11) (v := .ref a6) (C := "Ballothall") (T := TX11) (N := 14) hx hb hts iX11 hown hG.1 hP 0 rfl rfl 5 (by decide) (hts _ w_411) (fun _ h9 => h9) rfl d_1_44_3 ?_
  refine va_getN (D := z.1) (ci := 10) (v := .int 0) (C := "Ballothall$Wards") (T := TX10) (N := 5) hx hb hts iX10 hown hG.1 hP 1 rfl rfl 0 (by decide) (va_Nw.use rfl (hG.2.1 _ n_367 rfl)) (fun _ h9 => h9) rfl d_1_44_6 ?_
  exact xS (As := [.int x0, .int 1, .int 0]) (rest := []) (wr := [(a0, .inr (11, [.ref a1, .ref a2, .ref a3, .ref a4, .ref a5, .ref a6, .ref a7, .ref a8, .ref a9, .ref a10, .int 0, .int 0, .ref a11, .int 0])), (a6, .inr (10, [.int 0, .ref a12, .ref a13, .ref a14, .ref a15]))]) (c270_B_needRange l z hl0 x0 h0) hx hb hml hown hts w_876 w_874 w_875 w_1 md_519134 ⟨Nat.le_of_ble_eq_true rfl, Nat.le_of_ble_eq_true rfl⟩ hG hZ hP hD hS hA [] [0, 1] rfl rfl rfl rfl rfl hl.1 rfl (Nat.le_of_ble_eq_true rfl) d_1_44_9 ⟨Nat.le_of_ble_eq_true rfl, Nat.le_of_ble_eq_true rfl⟩ (fun q9 ce9 H locs hP hD hS h7 h8 h9 => x_out hnt hlocks hS h7 h8 h9 (Nat.le_of_ble_eq_true rfl) (Nat.le_of_ble_eq_true rfl))
set_option maxRecDepth 100000 in
set_option maxHeartbeats 4000000 in
theorem c583_BLaw_districtsWon (l : Launch) (z : Zz) (hl0 : l.stackTraces = false) (a0 a1 a2 a3 a4 a5 a6 a7 a8 a9 a10 a11 a12 a13 a14 a15 a16 : Nat) (x0 : Int32) (x1 : Int32) (h0 : x0 < 1) : HT l z ⟨"BallothallLaw", "districtsWon", "(LBallothall;II[J)I"⟩ method_36_code 5 (some .int) [(0, 10, 13, 21)] [.ref a0, .int x0, .int x1, .ref a1] [(a0, .inr (11, [.ref a2, .ref a3, .ref a4, .ref a5, .ref a6, .ref a7, .ref a8, .ref a9, .ref a10, .ref a11, .int 0, .int 0, .ref a12, .int 0])), (a7, .inr (10, [.int 0, .ref a13, .ref a14, .ref a15, .ref a16]))] 8 160 1 6 (fun u => some (.int 1)) (fun u => []) := by
  refine HT.of (own := "BallothallLaw") (by decide +kernel) (Nat.le_of_ble_eq_true rfl) rfl (fun p e s m below meth c A ls hx hb hml hr hts hown hlocks hin hA hG hZ hP hD hS hl htab => ?_)
  have hl : lv_has ls 5 [(0, .ref a0), (1, .int x0), (2, .int x1), (3, .ref a1)] := hl
  refine lv_aload_n hx hb d_L36_0 rfl (lv_at hl 3 rfl) ?_
  refine lv_iconst (v := 0) hx hb d_L36_1 (by decide +kernel) ?_
  refine lv_aload_n hx hb d_L36_2 rfl (lv_at hl 0 rfl) ?_
  refine lv_iload_n hx hb d_L36_3 rfl (lv_at hl 1 rfl) ?_
  refine lv_iload_n hx hb d_L36_4 rfl (lv_at hl 2 rfl) ?_
  refine xV (As := [.int x0, .int x1]) (rest := [.int 0, .ref a1]) (wr := []) (c582_B_districtsWon l z hl0 a0 a2 a3 a4 a5 a6 a7 a8 a9 a10 a11 a12 a13 a14 a15 a16 x0 x1 h0) hx hb hml hown hts w_1501 w_1498 w_1499 w_1500 w_1 md_9e18c6 ⟨Nat.le_of_ble_eq_true rfl, Nat.le_of_ble_eq_true rfl⟩ hG hZ hP hD hS hA 0 rfl rfl rfl [0, 1] [] rfl rfl rfl rfl rfl hl.1 rfl (Nat.le_of_ble_eq_true rfl) d_L36_5 ⟨Nat.le_of_ble_eq_true rfl, Nat.le_of_ble_eq_true rfl⟩ (fun q0 ce9 H locs hP hD hS h7 h8 h9 => ?_)
  have hP : va_P z.1 classes [] H := hP
  have hD : va_D A [] := hD
  refine vx_catch hown [] ⟨0, 10, 13, 21⟩ [] (htab.trans rfl) (fun _ h9 => absurd h9 List.not_mem_nil) rfl (by decide) (hts _ w_850) (va_Nw.use rfl (hG.2.1 _ n_879 rfl)) h7 h8 h9 ?_
  refine lv_astore (lv' := [(4, .ref q0), (0, .ref a0), (1, .int x0), (2, .int x1), (3, .ref a1)]) hx hb d_L36_13 hl (by decide) rfl (fun ls hl => ?_)
  refine lv_iconst (v := 1) hx hb d_L36_15 (by decide +kernel) ?_
  refine W.widen (k := 1) (n := 6) (Nat.le_of_ble_eq_true rfl) (Nat.le_of_ble_eq_true rfl) ?_
  refine vx_ret ?_
  exact W.iret hx hb hr (fun t ht hW => qk hP hD hS [] rfl ((fun k => k), (fun _ _ => none)) rfl rfl rfl ht) hS.2.2 d_L36_16
set_option maxRecDepth 100000 in
set_option maxHeartbeats 4000000 in
theorem c584_BModel_noParty (l : Launch) (z : Zz) (a0 a1 a2 a3 a4 a5 a6 a7 a8 a9 a10 a11 a12 a13 : Nat) (x0 : Int32) (x1 : Int32) (h0 : x0 < 1) : CT l z ⟨"BallothallModel", "noParty", "(II)Z"⟩ prog_14_method_86_code 3 (some .boolean) [.ref a0, .int x0, .int x1] [(a0, .inr (18, [.ref a1, .ref a2, .int 0, .ref a3, .int 0, .ref a4, .int 0, .null, .int 0, .null, .long 0, .int 0, .null])), (a1, .inr (17, [.int 0, .ref a5, .ref a6, .int 0, .ref a7, .ref a8, .ref a9, .null, .null, .int 0, .ref a10, .ref a11, .ref a12, .int 0, .ref a13, .int 1]))] 1 30 0 0 (fun u => some (.int 1)) (fun u => [(a0, .inr (18, [.ref a1, .ref a2, .int 0, .ref a3, .int 0, .ref a4, .int 1, .null, .int 0, .null, .long 0, .int 0, .null])), (a1, .inr (17, [.int 0, .ref a5, .ref a6, .int 0, .ref a7, .ref a8, .ref a9, .null, .null, .int 0, .ref a10, .ref a11, .ref a12, .int 0, .ref a13, .int 1]))]) := by
  refine CT.of (own := "BallothallModel") (by decide +kernel) (Nat.le_of_ble_eq_true rfl) rfl (fun p e s m below meth c A ls hx hb hml hr hts hown hlocks hin hA hG hZ hP hD hS hl => ?_)
  have hl : lv_has ls 3 [(0, .ref a0), (1, .int x0), (2, .int x1)] := hl
  refine lv_aload_n hx hb d_14_86_0 rfl (lv_at hl 0 rfl) ?_
  refine lv_iload_n hx hb d_14_86_1 rfl (lv_at hl 1 rfl) ?_
  refine lv_iconst (v := 1) hx hb d_14_86_2 (by decide +kernel) ?_
  refine lv_aload_n hx hb d_14_86_3 rfl (lv_at hl 0 rfl) ?_
  refine va_get (D := z.1) (ci := 18) (v := .ref a1) (C := "BallothallModel") (T := TX18) (N := 13) hx hb hts iX18 hown hG.1 hP 0 rfl rfl 0 (by decide) (hts _ w_1645) (fun _ h9 => h9) rfl d_14_86_4 ?_
  refine va_getN (D := z.1) (ci := 17) (v := .int 0) (C := "BallothallModel$State") (T := TX17) (N := 16) hx hb hts iX17 hown hG.1 hP 1 rfl rfl 9 (by decide) (va_Nw.use rfl (hG.2.1 _ n_1598 rfl)) (fun _ h9 => h9) rfl d_14_86_7 ?_
  refine kS (As := [.int x0, .int 1, .int 0]) (rest := [.ref a0]) (wr := [(a0, .inr (18, [.ref a1, .ref a2, .int 0, .ref a3, .int 0, .ref a4, .int 0, .null, .int 0, .null, .long 0, .int 0, .null])), (a1, .inr (17, [.int 0, .ref a5, .ref a6, .int 0, .ref a7, .ref a8, .ref a9, .null, .null, .int 0, .ref a10, .ref a11, .ref a12, .int 0, .ref a13, .int 1]))]) (c568_BModel_isIn l z x0 h0) hx hb hml hown hts w_1718 w_1716 w_1717 w_12 md_bca45c ⟨Nat.le_of_ble_eq_true rfl, Nat.le_of_ble_eq_true rfl⟩ hG hZ hP hD hS hA [] [0, 1] rfl rfl rfl rfl rfl hl.1 rfl (Nat.le_of_ble_eq_true rfl) d_14_86_10 ⟨Nat.le_of_ble_eq_true rfl, Nat.le_of_ble_eq_true rfl⟩ (fun u0 H locs hP hD hS => ?_)
  have hP : va_P z.1 classes [(a0, .inr (18, [.ref a1, .ref a2, .int 0, .ref a3, .int 0, .ref a4, .int 0, .null, .int 0, .null, .long 0, .int 0, .null])), (a1, .inr (17, [.int 0, .ref a5, .ref a6, .int 0, .ref a7, .ref a8, .ref a9, .null, .null, .int 0, .ref a10, .ref a11, .ref a12, .int 0, .ref a13, .int 1]))] H := hP
  have hD : va_D A [(a0, .inr (18, [.ref a1, .ref a2, .int 0, .ref a3, .int 0, .ref a4, .int 0, .null, .int 0, .null, .long 0, .int 0, .null])), (a1, .inr (17, [.int 0, .ref a5, .ref a6, .int 0, .ref a7, .ref a8, .ref a9, .null, .null, .int 0, .ref a10, .ref a11, .ref a12, .int 0, .ref a13, .int 1]))] := hD
  refine W.eq (g2 := F0 m 13 ls [.int 0, .ref a0]) rfl ?_
  refine lv_if_eq (tgt := 29) hx hb d_14_86_13 (by decide) (fun _ => ?_) (fun c9 => absurd (by decide +kernel) c9)
  refine lv_iconst (v := 0) hx hb d_14_86_29 (by decide +kernel) ?_
  refine lv_iconst (v := 1) hx hb d_14_86_30 (by decide +kernel) ?_
  refine kV (As := [.int 0, .int 1]) (rest := []) (wr := [(a1, .inr (17, [.int 0, .ref a5, .ref a6, .int 0, .ref a7, .ref a8, .ref a9, .null, .null, .int 0, .ref a10, .ref a11, .ref a12, .int 0, .ref a13, .int 1]))]) (c31_BModel_ends l z a0 a1 a2 a3 a4) hx hb hml hown hts w_1696 w_1693 w_1695 w_s_f8f2b7 w_12 md_77b0f8 ⟨Nat.le_of_ble_eq_true rfl, Nat.le_of_ble_eq_true rfl⟩ hG hZ hP hD hS hA 0 rfl rfl rfl [0] [1] rfl rfl rfl rfl rfl hl.1 rfl (Nat.le_of_ble_eq_true rfl) d_14_86_31 ⟨Nat.le_of_ble_eq_true rfl, Nat.le_of_ble_eq_true rfl⟩ (fun u1 H locs hP hD hS => ?_)
  have hP : va_P z.1 classes [(a1, .inr (17, [.int 0, .ref a5, .ref a6, .int 0, .ref a7, .ref a8, .ref a9, .null, .null, .int 0, .ref a10, .ref a11, .ref a12, .int 0, .ref a13, .int 1])), (a0, .inr (18, [.ref a1, .ref a2, .int 0, .ref a3, .int 0, .ref a4, .int 1, .null, .int 0, .null, .long 0, .int 0, .null]))] H := hP
  have hD : va_D A [(a1, .inr (17, [.int 0, .ref a5, .ref a6, .int 0, .ref a7, .ref a8, .ref a9, .null, .null, .int 0, .ref a10, .ref a11, .ref a12, .int 0, .ref a13, .int 1])), (a0, .inr (18, [.ref a1, .ref a2, .int 0, .ref a3, .int 0, .ref a4, .int 1, .null, .int 0, .null, .long 0, .int 0, .null]))] := hD
  refine W.eq (g2 := F0 m 34 ls [.int 1]) rfl ?_
  refine W.widen (k := 0) (n := 0) (Nat.le_of_ble_eq_true rfl) (Nat.le_of_ble_eq_true rfl) ?_
  exact W.zret hx hb hr rfl (fun t ht hW => qk hP hD hS [1, 0] rfl ((fun k => k), (fun _ _ => none)) rfl rfl rfl ht) hS.2.2 d_14_86_34
set_option maxRecDepth 100000 in
set_option maxHeartbeats 4000000 in
theorem c585_BModel_districtsWon (l : Launch) (z : Zz) (a0 a1 a2 a3 a4 a5 a6 a7 a8 a9 a10 a11 a12 a13 : Nat) (x0 : Int32) (x1 : Int32) (h0 : x0 < 1) : CT l z ⟨"BallothallModel", "districtsWon", "(II)I"⟩ prog_14_method_87_code 8 (some .int) [.ref a0, .int x0, .int x1] [(a0, .inr (18, [.ref a1, .ref a2, .int 0, .ref a3, .int 0, .ref a4, .int 0, .null, .int 0, .null, .long 0, .int 0, .null])), (a1, .inr (17, [.int 0, .ref a5, .ref a6, .int 0, .ref a7, .ref a8, .ref a9, .null, .null, .int 0, .ref a10, .ref a11, .ref a12, .int 0, .ref a13, .int 1]))] 2 60 0 0 (fun u => some (.int 0)) (fun u => [(a0, .inr (18, [.ref a1, .ref a2, .int 0, .ref a3, .int 0, .ref a4, .int 1, .null, .int 0, .null, .long 0, .int 0, .null])), (a1, .inr (17, [.int 0, .ref a5, .ref a6, .int 0, .ref a7, .ref a8, .ref a9, .null, .null, .int 0, .ref a10, .ref a11, .ref a12, .int 0, .ref a13, .int 1]))]) := by
  refine CT.of (own := "BallothallModel") (by decide +kernel) (Nat.le_of_ble_eq_true rfl) rfl (fun p e s m below meth c A ls hx hb hml hr hts hown hlocks hin hA hG hZ hP hD hS hl => ?_)
  have hl : lv_has ls 8 [(0, .ref a0), (1, .int x0), (2, .int x1)] := hl
  refine lv_aload_n hx hb d_14_87_0 rfl (lv_at hl 0 rfl) ?_
  refine lv_iload_n hx hb d_14_87_1 rfl (lv_at hl 1 rfl) ?_
  refine lv_iload_n hx hb d_14_87_2 rfl (lv_at hl 2 rfl) ?_
  refine kV (As := [.int x0, .int x1]) (rest := []) (wr := []) (c584_BModel_noParty l z a0 a1 a2 a3 a4 a5 a6 a7 a8 a9 a10 a11 a12 a13 x0 x1 h0) hx hb hml hown hts w_2457 w_2454 w_2456 w_s_b1baa3 w_12 md_89ca26 ⟨Nat.le_of_ble_eq_true rfl, Nat.le_of_ble_eq_true rfl⟩ hG hZ hP hD hS hA 0 rfl rfl rfl [0, 1] [] rfl rfl rfl rfl rfl hl.1 rfl (Nat.le_of_ble_eq_true rfl) d_14_87_3 ⟨Nat.le_of_ble_eq_true rfl, Nat.le_of_ble_eq_true rfl⟩ (fun u0 H locs hP hD hS => ?_)
  have hP : va_P z.1 classes [(a0, .inr (18, [.ref a1, .ref a2, .int 0, .ref a3, .int 0, .ref a4, .int 1, .null, .int 0, .null, .long 0, .int 0, .null])), (a1, .inr (17, [.int 0, .ref a5, .ref a6, .int 0, .ref a7, .ref a8, .ref a9, .null, .null, .int 0, .ref a10, .ref a11, .ref a12, .int 0, .ref a13, .int 1]))] H := hP
  have hD : va_D A [(a0, .inr (18, [.ref a1, .ref a2, .int 0, .ref a3, .int 0, .ref a4, .int 1, .null, .int 0, .null, .long 0, .int 0, .null])), (a1, .inr (17, [.int 0, .ref a5, .ref a6, .int 0, .ref a7, .ref a8, .ref a9, .null, .null, .int 0, .ref a10, .ref a11, .ref a12, .int 0, .ref a13, .int 1]))] := hD
  refine W.eq (g2 := F0 m 6 ls [.int 1]) rfl ?_
  refine lv_if_eq (tgt := 11) hx hb d_14_87_6 (by decide) (fun c9 => absurd c9 (by decide +kernel)) (fun _ => ?_)
  refine lv_iconst (v := 0) hx hb d_14_87_9 (by decide +kernel) ?_
  refine W.widen (k := 0) (n := 0) (Nat.le_of_ble_eq_true rfl) (Nat.le_of_ble_eq_true rfl) ?_
  exact W.iret hx hb hr (fun t ht hW => qk hP hD hS [0, 1] rfl ((fun k => k), (fun _ _ => none)) rfl rfl rfl ht) hS.2.2 d_14_87_10
set_option maxRecDepth 100000 in
set_option maxHeartbeats 4000000 in
theorem c586_B_districtsWon (l : Launch) (z : Zz) (hl0 : l.stackTraces = false) (a0 a1 a2 a3 a4 a5 a6 a7 a8 a9 a10 a11 a12 a13 a14 a15 : Nat) (x0 : Int32) (x1 : Int32) (h0 : ¬ x0 < 1) (h1 : 0 < x0) : XT l z ⟨"Ballothall", "districtsWon", "(II)I"⟩ prog_1_method_44_code 5 (some .int) [.ref a0, .int x0, .int x1] [(a0, .inr (11, [.ref a1, .ref a2, .ref a3, .ref a4, .ref a5, .ref a6, .ref a7, .ref a8, .ref a9, .ref a10, .int 0, .int 0, .ref a11, .int 0])), (a6, .inr (10, [.int 0, .ref a12, .ref a13, .ref a14, .ref a15]))] 7 128 1 6 "java/lang/IllegalArgumentException" := by
  refine XT.of (own := "Ballothall") (by decide +kernel) (Nat.le_of_ble_eq_true rfl) rfl (fun p e s m below meth c A ls hx hb hml hr hts hown hlocks hin hA hG hZ hP hD hS hl hnt => ?_)
  have hl : lv_has ls 5 [(0, .ref a0), (1, .int x0), (2, .int x1)] := hl
  refine lv_iload_n hx hb d_1_44_0 rfl (lv_at hl 1 rfl) ?_
  refine lv_iconst (v := 1) hx hb d_1_44_1 (by decide +kernel) ?_
  refine lv_aload_n hx hb d_1_44_2 rfl (lv_at hl 0 rfl) ?_
  refine va_get (D := z.1) (ci := 11) (v := .ref a6) (C := "Ballothall") (T := TX11) (N := 14) hx hb hts iX11 hown hG.1 hP 0 rfl rfl 5 (by decide) (hts _ w_411) (fun _ h9 => h9) rfl d_1_44_3 ?_
  refine va_getN (D := z.1) (ci := 10) (v := .int 0) (C := "Ballothall$Wards") (T := TX10) (N := 5) hx hb hts iX10 hown hG.1 hP 1 rfl rfl 0 (by decide) (va_Nw.use rfl (hG.2.1 _ n_367 rfl)) (fun _ h9 => h9) rfl d_1_44_6 ?_
  exact xS (As := [.int x0, .int 1, .int 0]) (rest := []) (wr := [(a0, .inr (11, [.ref a1, .ref a2, .ref a3, .ref a4, .ref a5, .ref a6, .ref a7, .ref a8, .ref a9, .ref a10, .int 0, .int 0, .ref a11, .int 0])), (a6, .inr (10, [.int 0, .ref a12, .ref a13, .ref a14, .ref a15]))]) (c274_B_needRange l z hl0 x0 h0 h1) hx hb hml hown hts w_876 w_874 w_875 w_1 md_519134 ⟨Nat.le_of_ble_eq_true rfl, Nat.le_of_ble_eq_true rfl⟩ hG hZ hP hD hS hA [] [0, 1] rfl rfl rfl rfl rfl hl.1 rfl (Nat.le_of_ble_eq_true rfl) d_1_44_9 ⟨Nat.le_of_ble_eq_true rfl, Nat.le_of_ble_eq_true rfl⟩ (fun q9 ce9 H locs hP hD hS h7 h8 h9 => x_out hnt hlocks hS h7 h8 h9 (Nat.le_of_ble_eq_true rfl) (Nat.le_of_ble_eq_true rfl))
set_option maxRecDepth 100000 in
set_option maxHeartbeats 4000000 in
theorem c587_BLaw_districtsWon (l : Launch) (z : Zz) (hl0 : l.stackTraces = false) (a0 a1 a2 a3 a4 a5 a6 a7 a8 a9 a10 a11 a12 a13 a14 a15 a16 : Nat) (x0 : Int32) (x1 : Int32) (h0 : ¬ x0 < 1) (h1 : 0 < x0) : HT l z ⟨"BallothallLaw", "districtsWon", "(LBallothall;II[J)I"⟩ method_36_code 5 (some .int) [(0, 10, 13, 21)] [.ref a0, .int x0, .int x1, .ref a1] [(a0, .inr (11, [.ref a2, .ref a3, .ref a4, .ref a5, .ref a6, .ref a7, .ref a8, .ref a9, .ref a10, .ref a11, .int 0, .int 0, .ref a12, .int 0])), (a7, .inr (10, [.int 0, .ref a13, .ref a14, .ref a15, .ref a16]))] 8 160 1 6 (fun u => some (.int 1)) (fun u => []) := by
  refine HT.of (own := "BallothallLaw") (by decide +kernel) (Nat.le_of_ble_eq_true rfl) rfl (fun p e s m below meth c A ls hx hb hml hr hts hown hlocks hin hA hG hZ hP hD hS hl htab => ?_)
  have hl : lv_has ls 5 [(0, .ref a0), (1, .int x0), (2, .int x1), (3, .ref a1)] := hl
  refine lv_aload_n hx hb d_L36_0 rfl (lv_at hl 3 rfl) ?_
  refine lv_iconst (v := 0) hx hb d_L36_1 (by decide +kernel) ?_
  refine lv_aload_n hx hb d_L36_2 rfl (lv_at hl 0 rfl) ?_
  refine lv_iload_n hx hb d_L36_3 rfl (lv_at hl 1 rfl) ?_
  refine lv_iload_n hx hb d_L36_4 rfl (lv_at hl 2 rfl) ?_
  refine xV (As := [.int x0, .int x1]) (rest := [.int 0, .ref a1]) (wr := []) (c586_B_districtsWon l z hl0 a0 a2 a3 a4 a5 a6 a7 a8 a9 a10 a11 a12 a13 a14 a15 a16 x0 x1 h0 h1) hx hb hml hown hts w_1501 w_1498 w_1499 w_1500 w_1 md_9e18c6 ⟨Nat.le_of_ble_eq_true rfl, Nat.le_of_ble_eq_true rfl⟩ hG hZ hP hD hS hA 0 rfl rfl rfl [0, 1] [] rfl rfl rfl rfl rfl hl.1 rfl (Nat.le_of_ble_eq_true rfl) d_L36_5 ⟨Nat.le_of_ble_eq_true rfl, Nat.le_of_ble_eq_true rfl⟩ (fun q0 ce9 H locs hP hD hS h7 h8 h9 => ?_)
  have hP : va_P z.1 classes [] H := hP
  have hD : va_D A [] := hD
  refine vx_catch hown [] ⟨0, 10, 13, 21⟩ [] (htab.trans rfl) (fun _ h9 => absurd h9 List.not_mem_nil) rfl (by decide) (hts _ w_850) (va_Nw.use rfl (hG.2.1 _ n_879 rfl)) h7 h8 h9 ?_
  refine lv_astore (lv' := [(4, .ref q0), (0, .ref a0), (1, .int x0), (2, .int x1), (3, .ref a1)]) hx hb d_L36_13 hl (by decide) rfl (fun ls hl => ?_)
  refine lv_iconst (v := 1) hx hb d_L36_15 (by decide +kernel) ?_
  refine W.widen (k := 1) (n := 6) (Nat.le_of_ble_eq_true rfl) (Nat.le_of_ble_eq_true rfl) ?_
  refine vx_ret ?_
  exact W.iret hx hb hr (fun t ht hW => qk hP hD hS [] rfl ((fun k => k), (fun _ _ => none)) rfl rfl rfl ht) hS.2.2 d_L36_16
set_option maxRecDepth 100000 in
set_option maxHeartbeats 4000000 in
theorem c588_BModel_noParty (l : Launch) (z : Zz) (a0 a1 a2 a3 a4 a5 a6 a7 a8 a9 a10 a11 a12 a13 : Nat) (x0 : Int32) (x1 : Int32) (h0 : ¬ x0 < 1) (h1 : 0 < x0) : CT l z ⟨"BallothallModel", "noParty", "(II)Z"⟩ prog_14_method_86_code 3 (some .boolean) [.ref a0, .int x0, .int x1] [(a0, .inr (18, [.ref a1, .ref a2, .int 0, .ref a3, .int 0, .ref a4, .int 0, .null, .int 0, .null, .long 0, .int 0, .null])), (a1, .inr (17, [.int 0, .ref a5, .ref a6, .int 0, .ref a7, .ref a8, .ref a9, .null, .null, .int 0, .ref a10, .ref a11, .ref a12, .int 0, .ref a13, .int 1]))] 1 30 0 0 (fun u => some (.int 1)) (fun u => [(a0, .inr (18, [.ref a1, .ref a2, .int 0, .ref a3, .int 0, .ref a4, .int 1, .null, .int 0, .null, .long 0, .int 0, .null])), (a1, .inr (17, [.int 0, .ref a5, .ref a6, .int 0, .ref a7, .ref a8, .ref a9, .null, .null, .int 0, .ref a10, .ref a11, .ref a12, .int 0, .ref a13, .int 1]))]) := by
  refine CT.of (own := "BallothallModel") (by decide +kernel) (Nat.le_of_ble_eq_true rfl) rfl (fun p e s m below meth c A ls hx hb hml hr hts hown hlocks hin hA hG hZ hP hD hS hl => ?_)
  have hl : lv_has ls 3 [(0, .ref a0), (1, .int x0), (2, .int x1)] := hl
  refine lv_aload_n hx hb d_14_86_0 rfl (lv_at hl 0 rfl) ?_
  refine lv_iload_n hx hb d_14_86_1 rfl (lv_at hl 1 rfl) ?_
  refine lv_iconst (v := 1) hx hb d_14_86_2 (by decide +kernel) ?_
  refine lv_aload_n hx hb d_14_86_3 rfl (lv_at hl 0 rfl) ?_
  refine va_get (D := z.1) (ci := 18) (v := .ref a1) (C := "BallothallModel") (T := TX18) (N := 13) hx hb hts iX18 hown hG.1 hP 0 rfl rfl 0 (by decide) (hts _ w_1645) (fun _ h9 => h9) rfl d_14_86_4 ?_
  refine va_getN (D := z.1) (ci := 17) (v := .int 0) (C := "BallothallModel$State") (T := TX17) (N := 16) hx hb hts iX17 hown hG.1 hP 1 rfl rfl 9 (by decide) (va_Nw.use rfl (hG.2.1 _ n_1598 rfl)) (fun _ h9 => h9) rfl d_14_86_7 ?_
  refine kS (As := [.int x0, .int 1, .int 0]) (rest := [.ref a0]) (wr := [(a0, .inr (18, [.ref a1, .ref a2, .int 0, .ref a3, .int 0, .ref a4, .int 0, .null, .int 0, .null, .long 0, .int 0, .null])), (a1, .inr (17, [.int 0, .ref a5, .ref a6, .int 0, .ref a7, .ref a8, .ref a9, .null, .null, .int 0, .ref a10, .ref a11, .ref a12, .int 0, .ref a13, .int 1]))]) (c573_BModel_isIn l z x0 h0 h1) hx hb hml hown hts w_1718 w_1716 w_1717 w_12 md_bca45c ⟨Nat.le_of_ble_eq_true rfl, Nat.le_of_ble_eq_true rfl⟩ hG hZ hP hD hS hA [] [0, 1] rfl rfl rfl rfl rfl hl.1 rfl (Nat.le_of_ble_eq_true rfl) d_14_86_10 ⟨Nat.le_of_ble_eq_true rfl, Nat.le_of_ble_eq_true rfl⟩ (fun u0 H locs hP hD hS => ?_)
  have hP : va_P z.1 classes [(a0, .inr (18, [.ref a1, .ref a2, .int 0, .ref a3, .int 0, .ref a4, .int 0, .null, .int 0, .null, .long 0, .int 0, .null])), (a1, .inr (17, [.int 0, .ref a5, .ref a6, .int 0, .ref a7, .ref a8, .ref a9, .null, .null, .int 0, .ref a10, .ref a11, .ref a12, .int 0, .ref a13, .int 1]))] H := hP
  have hD : va_D A [(a0, .inr (18, [.ref a1, .ref a2, .int 0, .ref a3, .int 0, .ref a4, .int 0, .null, .int 0, .null, .long 0, .int 0, .null])), (a1, .inr (17, [.int 0, .ref a5, .ref a6, .int 0, .ref a7, .ref a8, .ref a9, .null, .null, .int 0, .ref a10, .ref a11, .ref a12, .int 0, .ref a13, .int 1]))] := hD
  refine W.eq (g2 := F0 m 13 ls [.int 0, .ref a0]) rfl ?_
  refine lv_if_eq (tgt := 29) hx hb d_14_86_13 (by decide) (fun _ => ?_) (fun c9 => absurd (by decide +kernel) c9)
  refine lv_iconst (v := 0) hx hb d_14_86_29 (by decide +kernel) ?_
  refine lv_iconst (v := 1) hx hb d_14_86_30 (by decide +kernel) ?_
  refine kV (As := [.int 0, .int 1]) (rest := []) (wr := [(a1, .inr (17, [.int 0, .ref a5, .ref a6, .int 0, .ref a7, .ref a8, .ref a9, .null, .null, .int 0, .ref a10, .ref a11, .ref a12, .int 0, .ref a13, .int 1]))]) (c31_BModel_ends l z a0 a1 a2 a3 a4) hx hb hml hown hts w_1696 w_1693 w_1695 w_s_f8f2b7 w_12 md_77b0f8 ⟨Nat.le_of_ble_eq_true rfl, Nat.le_of_ble_eq_true rfl⟩ hG hZ hP hD hS hA 0 rfl rfl rfl [0] [1] rfl rfl rfl rfl rfl hl.1 rfl (Nat.le_of_ble_eq_true rfl) d_14_86_31 ⟨Nat.le_of_ble_eq_true rfl, Nat.le_of_ble_eq_true rfl⟩ (fun u1 H locs hP hD hS => ?_)
  have hP : va_P z.1 classes [(a1, .inr (17, [.int 0, .ref a5, .ref a6, .int 0, .ref a7, .ref a8, .ref a9, .null, .null, .int 0, .ref a10, .ref a11, .ref a12, .int 0, .ref a13, .int 1])), (a0, .inr (18, [.ref a1, .ref a2, .int 0, .ref a3, .int 0, .ref a4, .int 1, .null, .int 0, .null, .long 0, .int 0, .null]))] H := hP
  have hD : va_D A [(a1, .inr (17, [.int 0, .ref a5, .ref a6, .int 0, .ref a7, .ref a8, .ref a9, .null, .null, .int 0, .ref a10, .ref a11, .ref a12, .int 0, .ref a13, .int 1])), (a0, .inr (18, [.ref a1, .ref a2, .int 0, .ref a3, .int 0, .ref a4, .int 1, .null, .int 0, .null, .long 0, .int 0, .null]))] := hD
  refine W.eq (g2 := F0 m 34 ls [.int 1]) rfl ?_
  refine W.widen (k := 0) (n := 0) (Nat.le_of_ble_eq_true rfl) (Nat.le_of_ble_eq_true rfl) ?_
  exact W.zret hx hb hr rfl (fun t ht hW => qk hP hD hS [1, 0] rfl ((fun k => k), (fun _ _ => none)) rfl rfl rfl ht) hS.2.2 d_14_86_34
set_option maxRecDepth 100000 in
set_option maxHeartbeats 4000000 in
theorem c589_BModel_districtsWon (l : Launch) (z : Zz) (a0 a1 a2 a3 a4 a5 a6 a7 a8 a9 a10 a11 a12 a13 : Nat) (x0 : Int32) (x1 : Int32) (h0 : ¬ x0 < 1) (h1 : 0 < x0) : CT l z ⟨"BallothallModel", "districtsWon", "(II)I"⟩ prog_14_method_87_code 8 (some .int) [.ref a0, .int x0, .int x1] [(a0, .inr (18, [.ref a1, .ref a2, .int 0, .ref a3, .int 0, .ref a4, .int 0, .null, .int 0, .null, .long 0, .int 0, .null])), (a1, .inr (17, [.int 0, .ref a5, .ref a6, .int 0, .ref a7, .ref a8, .ref a9, .null, .null, .int 0, .ref a10, .ref a11, .ref a12, .int 0, .ref a13, .int 1]))] 2 60 0 0 (fun u => some (.int 0)) (fun u => [(a0, .inr (18, [.ref a1, .ref a2, .int 0, .ref a3, .int 0, .ref a4, .int 1, .null, .int 0, .null, .long 0, .int 0, .null])), (a1, .inr (17, [.int 0, .ref a5, .ref a6, .int 0, .ref a7, .ref a8, .ref a9, .null, .null, .int 0, .ref a10, .ref a11, .ref a12, .int 0, .ref a13, .int 1]))]) := by
  refine CT.of (own := "BallothallModel") (by decide +kernel) (Nat.le_of_ble_eq_true rfl) rfl (fun p e s m below meth c A ls hx hb hml hr hts hown hlocks hin hA hG hZ hP hD hS hl => ?_)
  have hl : lv_has ls 8 [(0, .ref a0), (1, .int x0), (2, .int x1)] := hl
  refine lv_aload_n hx hb d_14_87_0 rfl (lv_at hl 0 rfl) ?_
  refine lv_iload_n hx hb d_14_87_1 rfl (lv_at hl 1 rfl) ?_
  refine lv_iload_n hx hb d_14_87_2 rfl (lv_at hl 2 rfl) ?_
  refine kV (As := [.int x0, .int x1]) (rest := []) (wr := []) (c588_BModel_noParty l z a0 a1 a2 a3 a4 a5 a6 a7 a8 a9 a10 a11 a12 a13 x0 x1 h0 h1) hx hb hml hown hts w_2457 w_2454 w_2456 w_s_b1baa3 w_12 md_89ca26 ⟨Nat.le_of_ble_eq_true rfl, Nat.le_of_ble_eq_true rfl⟩ hG hZ hP hD hS hA 0 rfl rfl rfl [0, 1] [] rfl rfl rfl rfl rfl hl.1 rfl (Nat.le_of_ble_eq_true rfl) d_14_87_3 ⟨Nat.le_of_ble_eq_true rfl, Nat.le_of_ble_eq_true rfl⟩ (fun u0 H locs hP hD hS => ?_)
  have hP : va_P z.1 classes [(a0, .inr (18, [.ref a1, .ref a2, .int 0, .ref a3, .int 0, .ref a4, .int 1, .null, .int 0, .null, .long 0, .int 0, .null])), (a1, .inr (17, [.int 0, .ref a5, .ref a6, .int 0, .ref a7, .ref a8, .ref a9, .null, .null, .int 0, .ref a10, .ref a11, .ref a12, .int 0, .ref a13, .int 1]))] H := hP
  have hD : va_D A [(a0, .inr (18, [.ref a1, .ref a2, .int 0, .ref a3, .int 0, .ref a4, .int 1, .null, .int 0, .null, .long 0, .int 0, .null])), (a1, .inr (17, [.int 0, .ref a5, .ref a6, .int 0, .ref a7, .ref a8, .ref a9, .null, .null, .int 0, .ref a10, .ref a11, .ref a12, .int 0, .ref a13, .int 1]))] := hD
  refine W.eq (g2 := F0 m 6 ls [.int 1]) rfl ?_
  refine lv_if_eq (tgt := 11) hx hb d_14_87_6 (by decide) (fun c9 => absurd c9 (by decide +kernel)) (fun _ => ?_)
  refine lv_iconst (v := 0) hx hb d_14_87_9 (by decide +kernel) ?_
  refine W.widen (k := 0) (n := 0) (Nat.le_of_ble_eq_true rfl) (Nat.le_of_ble_eq_true rfl) ?_
  exact W.iret hx hb hr (fun t ht hW => qk hP hD hS [0, 1] rfl ((fun k => k), (fun _ _ => none)) rfl rfl rfl ht) hS.2.2 d_14_87_10
set_option maxRecDepth 100000 in
set_option maxHeartbeats 4000000 in
theorem c590_B_wasted (l : Launch) (z : Zz) (hl0 : l.stackTraces = false) (a0 a1 a2 a3 a4 a5 a6 a7 a8 a9 a10 a11 a12 a13 a14 a15 : Nat) (x0 : Int32) (x1 : Int32) (h0 : x0 < 1) : XT l z ⟨"Ballothall", "wasted", "(II)I"⟩ prog_1_method_45_code 7 (some .int) [.ref a0, .int x0, .int x1] [(a0, .inr (11, [.ref a1, .ref a2, .ref a3, .ref a4, .ref a5, .ref a6, .ref a7, .ref a8, .ref a9, .ref a10, .int 0, .int 0, .ref a11, .int 0])), (a6, .inr (10, [.int 0, .ref a12, .ref a13, .ref a14, .ref a15]))] 7 128 1 6 "java/lang/IllegalArgumentException" := by
  refine XT.of (own := "Ballothall") (by decide +kernel) (Nat.le_of_ble_eq_true rfl) rfl (fun p e s m below meth c A ls hx hb hml hr hts hown hlocks hin hA hG hZ hP hD hS hl hnt => ?_)
  have hl : lv_has ls 7 [(0, .ref a0), (1, .int x0), (2, .int x1)] := hl
  refine lv_iload_n hx hb d_1_45_0 rfl (lv_at hl 1 rfl) ?_
  refine lv_iconst (v := 1) hx hb d_1_45_1 (by decide +kernel) ?_
  refine lv_aload_n hx hb d_1_45_2 rfl (lv_at hl 0 rfl) ?_
  refine va_get (D := z.1) (ci := 11) (v := .ref a6) (C := "Ballothall") (T := TX11) (N := 14) hx hb hts iX11 hown hG.1 hP 0 rfl rfl 5 (by decide) (hts _ w_411) (fun _ h9 => h9) rfl d_1_45_3 ?_
  refine va_getN (D := z.1) (ci := 10) (v := .int 0) (C := "Ballothall$Wards") (T := TX10) (N := 5) hx hb hts iX10 hown hG.1 hP 1 rfl rfl 0 (by decide) (va_Nw.use rfl (hG.2.1 _ n_367 rfl)) (fun _ h9 => h9) rfl d_1_45_6 ?_
  exact xS (As := [.int x0, .int 1, .int 0]) (rest := []) (wr := [(a0, .inr (11, [.ref a1, .ref a2, .ref a3, .ref a4, .ref a5, .ref a6, .ref a7, .ref a8, .ref a9, .ref a10, .int 0, .int 0, .ref a11, .int 0])), (a6, .inr (10, [.int 0, .ref a12, .ref a13, .ref a14, .ref a15]))]) (c270_B_needRange l z hl0 x0 h0) hx hb hml hown hts w_876 w_874 w_875 w_1 md_519134 ⟨Nat.le_of_ble_eq_true rfl, Nat.le_of_ble_eq_true rfl⟩ hG hZ hP hD hS hA [] [0, 1] rfl rfl rfl rfl rfl hl.1 rfl (Nat.le_of_ble_eq_true rfl) d_1_45_9 ⟨Nat.le_of_ble_eq_true rfl, Nat.le_of_ble_eq_true rfl⟩ (fun q9 ce9 H locs hP hD hS h7 h8 h9 => x_out hnt hlocks hS h7 h8 h9 (Nat.le_of_ble_eq_true rfl) (Nat.le_of_ble_eq_true rfl))
set_option maxRecDepth 100000 in
set_option maxHeartbeats 4000000 in
theorem c591_BLaw_wasted (l : Launch) (z : Zz) (hl0 : l.stackTraces = false) (a0 a1 a2 a3 a4 a5 a6 a7 a8 a9 a10 a11 a12 a13 a14 a15 a16 : Nat) (x0 : Int32) (x1 : Int32) (h0 : x0 < 1) : HT l z ⟨"BallothallLaw", "wasted", "(LBallothall;II[J)I"⟩ method_37_code 5 (some .int) [(0, 10, 13, 21)] [.ref a0, .int x0, .int x1, .ref a1] [(a0, .inr (11, [.ref a2, .ref a3, .ref a4, .ref a5, .ref a6, .ref a7, .ref a8, .ref a9, .ref a10, .ref a11, .int 0, .int 0, .ref a12, .int 0])), (a7, .inr (10, [.int 0, .ref a13, .ref a14, .ref a15, .ref a16]))] 8 162 1 6 (fun u => some (.int 1)) (fun u => []) := by
  refine HT.of (own := "BallothallLaw") (by decide +kernel) (Nat.le_of_ble_eq_true rfl) rfl (fun p e s m below meth c A ls hx hb hml hr hts hown hlocks hin hA hG hZ hP hD hS hl htab => ?_)
  have hl : lv_has ls 5 [(0, .ref a0), (1, .int x0), (2, .int x1), (3, .ref a1)] := hl
  refine lv_aload_n hx hb d_L37_0 rfl (lv_at hl 3 rfl) ?_
  refine lv_iconst (v := 0) hx hb d_L37_1 (by decide +kernel) ?_
  refine lv_aload_n hx hb d_L37_2 rfl (lv_at hl 0 rfl) ?_
  refine lv_iload_n hx hb d_L37_3 rfl (lv_at hl 1 rfl) ?_
  refine lv_iload_n hx hb d_L37_4 rfl (lv_at hl 2 rfl) ?_
  refine xV (As := [.int x0, .int x1]) (rest := [.int 0, .ref a1]) (wr := []) (c590_B_wasted l z hl0 a0 a2 a3 a4 a5 a6 a7 a8 a9 a10 a11 a12 a13 a14 a15 a16 x0 x1 h0) hx hb hml hown hts w_1512 w_1509 w_1510 w_1511 w_1 md_0ebbab ⟨Nat.le_of_ble_eq_true rfl, Nat.le_of_ble_eq_true rfl⟩ hG hZ hP hD hS hA 0 rfl rfl rfl [0, 1] [] rfl rfl rfl rfl rfl hl.1 rfl (Nat.le_of_ble_eq_true rfl) d_L37_5 ⟨Nat.le_of_ble_eq_true rfl, Nat.le_of_ble_eq_true rfl⟩ (fun q0 ce9 H locs hP hD hS h7 h8 h9 => ?_)
  have hP : va_P z.1 classes [] H := hP
  have hD : va_D A [] := hD
  refine vx_catch hown [] ⟨0, 10, 13, 21⟩ [] (htab.trans rfl) (fun _ h9 => absurd h9 List.not_mem_nil) rfl (by decide) (hts _ w_850) (va_Nw.use rfl (hG.2.1 _ n_879 rfl)) h7 h8 h9 ?_
  refine lv_astore (lv' := [(4, .ref q0), (0, .ref a0), (1, .int x0), (2, .int x1), (3, .ref a1)]) hx hb d_L37_13 hl (by decide) rfl (fun ls hl => ?_)
  refine lv_iconst (v := 1) hx hb d_L37_15 (by decide +kernel) ?_
  refine W.widen (k := 1) (n := 6) (Nat.le_of_ble_eq_true rfl) (Nat.le_of_ble_eq_true rfl) ?_
  refine vx_ret ?_
  exact W.iret hx hb hr (fun t ht hW => qk hP hD hS [] rfl ((fun k => k), (fun _ _ => none)) rfl rfl rfl ht) hS.2.2 d_L37_16
set_option maxRecDepth 100000 in
set_option maxHeartbeats 4000000 in
theorem c592_BModel_wasted (l : Launch) (z : Zz) (a0 a1 a2 a3 a4 a5 a6 a7 a8 a9 a10 a11 a12 a13 : Nat) (x0 : Int32) (x1 : Int32) (h0 : x0 < 1) : CT l z ⟨"BallothallModel", "wasted", "(II)I"⟩ prog_14_method_88_code 8 (some .int) [.ref a0, .int x0, .int x1] [(a0, .inr (18, [.ref a1, .ref a2, .int 0, .ref a3, .int 0, .ref a4, .int 0, .null, .int 0, .null, .long 0, .int 0, .null])), (a1, .inr (17, [.int 0, .ref a5, .ref a6, .int 0, .ref a7, .ref a8, .ref a9, .null, .null, .int 0, .ref a10, .ref a11, .ref a12, .int 0, .ref a13, .int 1]))] 2 60 0 0 (fun u => some (.int 0)) (fun u => [(a0, .inr (18, [.ref a1, .ref a2, .int 0, .ref a3, .int 0, .ref a4, .int 1, .null, .int 0, .null, .long 0, .int 0, .null])), (a1, .inr (17, [.int 0, .ref a5, .ref a6, .int 0, .ref a7, .ref a8, .ref a9, .null, .null, .int 0, .ref a10, .ref a11, .ref a12, .int 0, .ref a13, .int 1]))]) := by
  refine CT.of (own := "BallothallModel") (by decide +kernel) (Nat.le_of_ble_eq_true rfl) rfl (fun p e s m below meth c A ls hx hb hml hr hts hown hlocks hin hA hG hZ hP hD hS hl => ?_)
  have hl : lv_has ls 8 [(0, .ref a0), (1, .int x0), (2, .int x1)] := hl
  refine lv_aload_n hx hb d_14_88_0 rfl (lv_at hl 0 rfl) ?_
  refine lv_iload_n hx hb d_14_88_1 rfl (lv_at hl 1 rfl) ?_
  refine lv_iload_n hx hb d_14_88_2 rfl (lv_at hl 2 rfl) ?_
  refine kV (As := [.int x0, .int x1]) (rest := []) (wr := []) (c584_BModel_noParty l z a0 a1 a2 a3 a4 a5 a6 a7 a8 a9 a10 a11 a12 a13 x0 x1 h0) hx hb hml hown hts w_2457 w_2454 w_2456 w_s_b1baa3 w_12 md_89ca26 ⟨Nat.le_of_ble_eq_true rfl, Nat.le_of_ble_eq_true rfl⟩ hG hZ hP hD hS hA 0 rfl rfl rfl [0, 1] [] rfl rfl rfl rfl rfl hl.1 rfl (Nat.le_of_ble_eq_true rfl) d_14_88_3 ⟨Nat.le_of_ble_eq_true rfl, Nat.le_of_ble_eq_true rfl⟩ (fun u0 H locs hP hD hS => ?_)
  have hP : va_P z.1 classes [(a0, .inr (18, [.ref a1, .ref a2, .int 0, .ref a3, .int 0, .ref a4, .int 1, .null, .int 0, .null, .long 0, .int 0, .null])), (a1, .inr (17, [.int 0, .ref a5, .ref a6, .int 0, .ref a7, .ref a8, .ref a9, .null, .null, .int 0, .ref a10, .ref a11, .ref a12, .int 0, .ref a13, .int 1]))] H := hP
  have hD : va_D A [(a0, .inr (18, [.ref a1, .ref a2, .int 0, .ref a3, .int 0, .ref a4, .int 1, .null, .int 0, .null, .long 0, .int 0, .null])), (a1, .inr (17, [.int 0, .ref a5, .ref a6, .int 0, .ref a7, .ref a8, .ref a9, .null, .null, .int 0, .ref a10, .ref a11, .ref a12, .int 0, .ref a13, .int 1]))] := hD
  refine W.eq (g2 := F0 m 6 ls [.int 1]) rfl ?_
  refine lv_if_eq (tgt := 11) hx hb d_14_88_6 (by decide) (fun c9 => absurd c9 (by decide +kernel)) (fun _ => ?_)
  refine lv_iconst (v := 0) hx hb d_14_88_9 (by decide +kernel) ?_
  refine W.widen (k := 0) (n := 0) (Nat.le_of_ble_eq_true rfl) (Nat.le_of_ble_eq_true rfl) ?_
  exact W.iret hx hb hr (fun t ht hW => qk hP hD hS [0, 1] rfl ((fun k => k), (fun _ _ => none)) rfl rfl rfl ht) hS.2.2 d_14_88_10
set_option maxRecDepth 100000 in
set_option maxHeartbeats 4000000 in
theorem c593_B_wasted (l : Launch) (z : Zz) (hl0 : l.stackTraces = false) (a0 a1 a2 a3 a4 a5 a6 a7 a8 a9 a10 a11 a12 a13 a14 a15 : Nat) (x0 : Int32) (x1 : Int32) (h0 : ¬ x0 < 1) (h1 : 0 < x0) : XT l z ⟨"Ballothall", "wasted", "(II)I"⟩ prog_1_method_45_code 7 (some .int) [.ref a0, .int x0, .int x1] [(a0, .inr (11, [.ref a1, .ref a2, .ref a3, .ref a4, .ref a5, .ref a6, .ref a7, .ref a8, .ref a9, .ref a10, .int 0, .int 0, .ref a11, .int 0])), (a6, .inr (10, [.int 0, .ref a12, .ref a13, .ref a14, .ref a15]))] 7 128 1 6 "java/lang/IllegalArgumentException" := by
  refine XT.of (own := "Ballothall") (by decide +kernel) (Nat.le_of_ble_eq_true rfl) rfl (fun p e s m below meth c A ls hx hb hml hr hts hown hlocks hin hA hG hZ hP hD hS hl hnt => ?_)
  have hl : lv_has ls 7 [(0, .ref a0), (1, .int x0), (2, .int x1)] := hl
  refine lv_iload_n hx hb d_1_45_0 rfl (lv_at hl 1 rfl) ?_
  refine lv_iconst (v := 1) hx hb d_1_45_1 (by decide +kernel) ?_
  refine lv_aload_n hx hb d_1_45_2 rfl (lv_at hl 0 rfl) ?_
  refine va_get (D := z.1) (ci := 11) (v := .ref a6) (C := "Ballothall") (T := TX11) (N := 14) hx hb hts iX11 hown hG.1 hP 0 rfl rfl 5 (by decide) (hts _ w_411) (fun _ h9 => h9) rfl d_1_45_3 ?_
  refine va_getN (D := z.1) (ci := 10) (v := .int 0) (C := "Ballothall$Wards") (T := TX10) (N := 5) hx hb hts iX10 hown hG.1 hP 1 rfl rfl 0 (by decide) (va_Nw.use rfl (hG.2.1 _ n_367 rfl)) (fun _ h9 => h9) rfl d_1_45_6 ?_
  exact xS (As := [.int x0, .int 1, .int 0]) (rest := []) (wr := [(a0, .inr (11, [.ref a1, .ref a2, .ref a3, .ref a4, .ref a5, .ref a6, .ref a7, .ref a8, .ref a9, .ref a10, .int 0, .int 0, .ref a11, .int 0])), (a6, .inr (10, [.int 0, .ref a12, .ref a13, .ref a14, .ref a15]))]) (c274_B_needRange l z hl0 x0 h0 h1) hx hb hml hown hts w_876 w_874 w_875 w_1 md_519134 ⟨Nat.le_of_ble_eq_true rfl, Nat.le_of_ble_eq_true rfl⟩ hG hZ hP hD hS hA [] [0, 1] rfl rfl rfl rfl rfl hl.1 rfl (Nat.le_of_ble_eq_true rfl) d_1_45_9 ⟨Nat.le_of_ble_eq_true rfl, Nat.le_of_ble_eq_true rfl⟩ (fun q9 ce9 H locs hP hD hS h7 h8 h9 => x_out hnt hlocks hS h7 h8 h9 (Nat.le_of_ble_eq_true rfl) (Nat.le_of_ble_eq_true rfl))
set_option maxRecDepth 100000 in
set_option maxHeartbeats 4000000 in
theorem c594_BLaw_wasted (l : Launch) (z : Zz) (hl0 : l.stackTraces = false) (a0 a1 a2 a3 a4 a5 a6 a7 a8 a9 a10 a11 a12 a13 a14 a15 a16 : Nat) (x0 : Int32) (x1 : Int32) (h0 : ¬ x0 < 1) (h1 : 0 < x0) : HT l z ⟨"BallothallLaw", "wasted", "(LBallothall;II[J)I"⟩ method_37_code 5 (some .int) [(0, 10, 13, 21)] [.ref a0, .int x0, .int x1, .ref a1] [(a0, .inr (11, [.ref a2, .ref a3, .ref a4, .ref a5, .ref a6, .ref a7, .ref a8, .ref a9, .ref a10, .ref a11, .int 0, .int 0, .ref a12, .int 0])), (a7, .inr (10, [.int 0, .ref a13, .ref a14, .ref a15, .ref a16]))] 8 162 1 6 (fun u => some (.int 1)) (fun u => []) := by
  refine HT.of (own := "BallothallLaw") (by decide +kernel) (Nat.le_of_ble_eq_true rfl) rfl (fun p e s m below meth c A ls hx hb hml hr hts hown hlocks hin hA hG hZ hP hD hS hl htab => ?_)
  have hl : lv_has ls 5 [(0, .ref a0), (1, .int x0), (2, .int x1), (3, .ref a1)] := hl
  refine lv_aload_n hx hb d_L37_0 rfl (lv_at hl 3 rfl) ?_
  refine lv_iconst (v := 0) hx hb d_L37_1 (by decide +kernel) ?_
  refine lv_aload_n hx hb d_L37_2 rfl (lv_at hl 0 rfl) ?_
  refine lv_iload_n hx hb d_L37_3 rfl (lv_at hl 1 rfl) ?_
  refine lv_iload_n hx hb d_L37_4 rfl (lv_at hl 2 rfl) ?_
  refine xV (As := [.int x0, .int x1]) (rest := [.int 0, .ref a1]) (wr := []) (c593_B_wasted l z hl0 a0 a2 a3 a4 a5 a6 a7 a8 a9 a10 a11 a12 a13 a14 a15 a16 x0 x1 h0 h1) hx hb hml hown hts w_1512 w_1509 w_1510 w_1511 w_1 md_0ebbab ⟨Nat.le_of_ble_eq_true rfl, Nat.le_of_ble_eq_true rfl⟩ hG hZ hP hD hS hA 0 rfl rfl rfl [0, 1] [] rfl rfl rfl rfl rfl hl.1 rfl (Nat.le_of_ble_eq_true rfl) d_L37_5 ⟨Nat.le_of_ble_eq_true rfl, Nat.le_of_ble_eq_true rfl⟩ (fun q0 ce9 H locs hP hD hS h7 h8 h9 => ?_)
  have hP : va_P z.1 classes [] H := hP
  have hD : va_D A [] := hD
  refine vx_catch hown [] ⟨0, 10, 13, 21⟩ [] (htab.trans rfl) (fun _ h9 => absurd h9 List.not_mem_nil) rfl (by decide) (hts _ w_850) (va_Nw.use rfl (hG.2.1 _ n_879 rfl)) h7 h8 h9 ?_
  refine lv_astore (lv' := [(4, .ref q0), (0, .ref a0), (1, .int x0), (2, .int x1), (3, .ref a1)]) hx hb d_L37_13 hl (by decide) rfl (fun ls hl => ?_)
  refine lv_iconst (v := 1) hx hb d_L37_15 (by decide +kernel) ?_
  refine W.widen (k := 1) (n := 6) (Nat.le_of_ble_eq_true rfl) (Nat.le_of_ble_eq_true rfl) ?_
  refine vx_ret ?_
  exact W.iret hx hb hr (fun t ht hW => qk hP hD hS [] rfl ((fun k => k), (fun _ _ => none)) rfl rfl rfl ht) hS.2.2 d_L37_16
set_option maxRecDepth 100000 in
set_option maxHeartbeats 4000000 in
theorem c595_BModel_wasted (l : Launch) (z : Zz) (a0 a1 a2 a3 a4 a5 a6 a7 a8 a9 a10 a11 a12 a13 : Nat) (x0 : Int32) (x1 : Int32) (h0 : ¬ x0 < 1) (h1 : 0 < x0) : CT l z ⟨"BallothallModel", "wasted", "(II)I"⟩ prog_14_method_88_code 8 (some .int) [.ref a0, .int x0, .int x1] [(a0, .inr (18, [.ref a1, .ref a2, .int 0, .ref a3, .int 0, .ref a4, .int 0, .null, .int 0, .null, .long 0, .int 0, .null])), (a1, .inr (17, [.int 0, .ref a5, .ref a6, .int 0, .ref a7, .ref a8, .ref a9, .null, .null, .int 0, .ref a10, .ref a11, .ref a12, .int 0, .ref a13, .int 1]))] 2 60 0 0 (fun u => some (.int 0)) (fun u => [(a0, .inr (18, [.ref a1, .ref a2, .int 0, .ref a3, .int 0, .ref a4, .int 1, .null, .int 0, .null, .long 0, .int 0, .null])), (a1, .inr (17, [.int 0, .ref a5, .ref a6, .int 0, .ref a7, .ref a8, .ref a9, .null, .null, .int 0, .ref a10, .ref a11, .ref a12, .int 0, .ref a13, .int 1]))]) := by
  refine CT.of (own := "BallothallModel") (by decide +kernel) (Nat.le_of_ble_eq_true rfl) rfl (fun p e s m below meth c A ls hx hb hml hr hts hown hlocks hin hA hG hZ hP hD hS hl => ?_)
  have hl : lv_has ls 8 [(0, .ref a0), (1, .int x0), (2, .int x1)] := hl
  refine lv_aload_n hx hb d_14_88_0 rfl (lv_at hl 0 rfl) ?_
  refine lv_iload_n hx hb d_14_88_1 rfl (lv_at hl 1 rfl) ?_
  refine lv_iload_n hx hb d_14_88_2 rfl (lv_at hl 2 rfl) ?_
  refine kV (As := [.int x0, .int x1]) (rest := []) (wr := []) (c588_BModel_noParty l z a0 a1 a2 a3 a4 a5 a6 a7 a8 a9 a10 a11 a12 a13 x0 x1 h0 h1) hx hb hml hown hts w_2457 w_2454 w_2456 w_s_b1baa3 w_12 md_89ca26 ⟨Nat.le_of_ble_eq_true rfl, Nat.le_of_ble_eq_true rfl⟩ hG hZ hP hD hS hA 0 rfl rfl rfl [0, 1] [] rfl rfl rfl rfl rfl hl.1 rfl (Nat.le_of_ble_eq_true rfl) d_14_88_3 ⟨Nat.le_of_ble_eq_true rfl, Nat.le_of_ble_eq_true rfl⟩ (fun u0 H locs hP hD hS => ?_)
  have hP : va_P z.1 classes [(a0, .inr (18, [.ref a1, .ref a2, .int 0, .ref a3, .int 0, .ref a4, .int 1, .null, .int 0, .null, .long 0, .int 0, .null])), (a1, .inr (17, [.int 0, .ref a5, .ref a6, .int 0, .ref a7, .ref a8, .ref a9, .null, .null, .int 0, .ref a10, .ref a11, .ref a12, .int 0, .ref a13, .int 1]))] H := hP
  have hD : va_D A [(a0, .inr (18, [.ref a1, .ref a2, .int 0, .ref a3, .int 0, .ref a4, .int 1, .null, .int 0, .null, .long 0, .int 0, .null])), (a1, .inr (17, [.int 0, .ref a5, .ref a6, .int 0, .ref a7, .ref a8, .ref a9, .null, .null, .int 0, .ref a10, .ref a11, .ref a12, .int 0, .ref a13, .int 1]))] := hD
  refine W.eq (g2 := F0 m 6 ls [.int 1]) rfl ?_
  refine lv_if_eq (tgt := 11) hx hb d_14_88_6 (by decide) (fun c9 => absurd c9 (by decide +kernel)) (fun _ => ?_)
  refine lv_iconst (v := 0) hx hb d_14_88_9 (by decide +kernel) ?_
  refine W.widen (k := 0) (n := 0) (Nat.le_of_ble_eq_true rfl) (Nat.le_of_ble_eq_true rfl) ?_
  exact W.iret hx hb hr (fun t ht hW => qk hP hD hS [0, 1] rfl ((fun k => k), (fun _ _ => none)) rfl rfl rfl ht) hS.2.2 d_14_88_10
set_option maxRecDepth 100000 in
set_option maxHeartbeats 4000000 in
theorem c596_B_needRange (l : Launch) (z : Zz) (hl0 : l.stackTraces = false) (x0 : Int32) (h0 : x0 < 0) : XT l z ⟨"Ballothall", "needRange", "(III)V"⟩ prog_1_method_57_code 3 none [.int x0, .int 0, .int 1000] [] 6 98 1 6 "java/lang/IllegalArgumentException" := by
  refine XT.of (own := "Ballothall") (by decide +kernel) (Nat.le_of_ble_eq_true rfl) rfl (fun p e s m below meth c A ls hx hb hml hr hts hown hlocks hin hA hG hZ hP hD hS hl hnt => ?_)
  have hl : lv_has ls 3 [(0, .int x0), (1, .int 0), (2, .int 1000)] := hl
  refine lv_iload_n hx hb d_1_57_0 rfl (lv_at hl 0 rfl) ?_
  refine lv_iload_n hx hb d_1_57_1 rfl (lv_at hl 1 rfl) ?_
  refine lv_icmp_lt (tgt := 10) hx hb d_1_57_2 (by decide) (fun _ => ?_) (fun c9 => absurd h0 c9)
  exact x_newW (text := "out of range") hl0 hx hb hml hown hts hlocks hnt hG hZ hS hl.1 (by decide +kernel) w_877 w_21 (by decide) xa_310_a xa_310_b d_1_57_10 d_1_57_13 d_1_57_14 d_1_57_17 d_1_57_20 ⟨Nat.le_of_ble_eq_true rfl, Nat.le_of_ble_eq_true rfl, Nat.le_of_ble_eq_true rfl, Nat.le_of_ble_eq_true rfl⟩ (Nat.le_of_ble_eq_true rfl) (Nat.le_of_ble_eq_true rfl) (Nat.le_of_ble_eq_true rfl)
set_option maxRecDepth 100000 in
set_option maxHeartbeats 4000000 in
theorem c597_B_member (l : Launch) (z : Zz) (hl0 : l.stackTraces = false) (a0 : Nat) (x0 : Int32) (h0 : x0 < 0) : XT l z ⟨"Ballothall", "member", "(I)I"⟩ prog_1_method_46_code 3 (some .int) [.ref a0, .int x0] [] 7 128 1 6 "java/lang/IllegalArgumentException" := by
  refine XT.of (own := "Ballothall") (by decide +kernel) (Nat.le_of_ble_eq_true rfl) rfl (fun p e s m below meth c A ls hx hb hml hr hts hown hlocks hin hA hG hZ hP hD hS hl hnt => ?_)
  have hl : lv_has ls 3 [(0, .ref a0), (1, .int x0)] := hl
  refine lv_iload_n hx hb d_1_46_0 rfl (lv_at hl 1 rfl) ?_
  refine lv_iconst (v := 0) hx hb d_1_46_1 (by decide +kernel) ?_
  refine lv_sipush (v := 1000) hx hb d_1_46_2 (by decide +kernel) ?_
  exact xS (As := [.int x0, .int 0, .int 1000]) (rest := []) (wr := []) (c596_B_needRange l z hl0 x0 h0) hx hb hml hown hts w_876 w_874 w_875 w_1 md_519134 ⟨Nat.le_of_ble_eq_true rfl, Nat.le_of_ble_eq_true rfl⟩ hG hZ hP hD hS hA [] [] rfl rfl rfl rfl rfl hl.1 rfl (Nat.le_of_ble_eq_true rfl) d_1_46_5 ⟨Nat.le_of_ble_eq_true rfl, Nat.le_of_ble_eq_true rfl⟩ (fun q9 ce9 H locs hP hD hS h7 h8 h9 => x_out hnt hlocks hS h7 h8 h9 (Nat.le_of_ble_eq_true rfl) (Nat.le_of_ble_eq_true rfl))
set_option maxRecDepth 100000 in
set_option maxHeartbeats 4000000 in
theorem c598_BLaw_member (l : Launch) (z : Zz) (hl0 : l.stackTraces = false) (a0 a1 a2 a3 a4 a5 a6 a7 a8 a9 a10 a11 a12 : Nat) (x0 : Int32) (h0 : x0 < 0) : HT l z ⟨"BallothallLaw", "member", "(LBallothall;I[J)I"⟩ method_38_code 4 (some .int) [(0, 9, 12, 21), (0, 9, 15, 13)] [.ref a0, .int x0, .ref a1] [(a0, .inr (11, [.ref a2, .ref a3, .ref a4, .ref a5, .ref a6, .ref a7, .ref a8, .ref a9, .ref a10, .ref a11, .int 0, .int 0, .ref a12, .int 0]))] 8 158 1 6 (fun u => some (.int 1)) (fun u => [(a0, .inr (11, [.ref a2, .ref a3, .ref a4, .ref a5, .ref a6, .ref a7, .ref a8, .ref a9, .ref a10, .ref a11, .int 0, .int 0, .ref a12, .int 0]))]) := by
  refine HT.of (own := "BallothallLaw") (by decide +kernel) (Nat.le_of_ble_eq_true rfl) rfl (fun p e s m below meth c A ls hx hb hml hr hts hown hlocks hin hA hG hZ hP hD hS hl htab => ?_)
  have hl : lv_has ls 4 [(0, .ref a0), (1, .int x0), (2, .ref a1)] := hl
  refine lv_aload_n hx hb d_L38_0 rfl (lv_at hl 2 rfl) ?_
  refine lv_iconst (v := 0) hx hb d_L38_1 (by decide +kernel) ?_
  refine lv_aload_n hx hb d_L38_2 rfl (lv_at hl 0 rfl) ?_
  refine lv_iload_n hx hb d_L38_3 rfl (lv_at hl 1 rfl) ?_
  refine xV (As := [.int x0]) (rest := [.int 0, .ref a1]) (wr := [(a0, .inr (11, [.ref a2, .ref a3, .ref a4, .ref a5, .ref a6, .ref a7, .ref a8, .ref a9, .ref a10, .ref a11, .int 0, .int 0, .ref a12, .int 0]))]) (c597_B_member l z hl0 a0 x0 h0) hx hb hml hown hts w_1519 w_1516 w_1517 w_1518 w_1 md_caa1ec ⟨Nat.le_of_ble_eq_true rfl, Nat.le_of_ble_eq_true rfl⟩ hG hZ hP hD hS hA 0 rfl rfl rfl [] [0] rfl rfl rfl rfl rfl hl.1 rfl (Nat.le_of_ble_eq_true rfl) d_L38_4 ⟨Nat.le_of_ble_eq_true rfl, Nat.le_of_ble_eq_true rfl⟩ (fun q0 ce9 H locs hP hD hS h7 h8 h9 => ?_)
  have hP : va_P z.1 classes [(a0, .inr (11, [.ref a2, .ref a3, .ref a4, .ref a5, .ref a6, .ref a7, .ref a8, .ref a9, .ref a10, .ref a11, .int 0, .int 0, .ref a12, .int 0]))] H := hP
  have hD : va_D A [(a0, .inr (11, [.ref a2, .ref a3, .ref a4, .ref a5, .ref a6, .ref a7, .ref a8, .ref a9, .ref a10, .ref a11, .int 0, .int 0, .ref a12, .int 0]))] := hD
  refine vx_catch hown [] ⟨0, 9, 12, 21⟩ [⟨0, 9, 15, 13⟩] (htab.trans rfl) (fun _ h9 => absurd h9 List.not_mem_nil) rfl (by decide) (hts _ w_850) (va_Nw.use rfl (hG.2.1 _ n_879 rfl)) h7 h8 h9 ?_
  refine lv_astore_n (lv' := [(3, .ref q0), (0, .ref a0), (1, .int x0), (2, .ref a1)]) hx hb d_L38_12 rfl hl (by decide) rfl (fun ls hl => ?_)
  refine lv_iconst (v := 1) hx hb d_L38_13 (by decide +kernel) ?_
  refine W.widen (k := 1) (n := 6) (Nat.le_of_ble_eq_true rfl) (Nat.le_of_ble_eq_true rfl) ?_
  refine vx_ret ?_
  exact W.iret hx hb hr (fun t ht hW => qk hP hD hS [0] rfl ((fun k => k), (fun _ _ => none)) rfl rfl rfl ht) hS.2.2 d_L38_14
set_option maxRecDepth 100000 in
set_option maxHeartbeats 4000000 in
theorem c599_BModel_isIn (l : Launch) (z : Zz) (x0 : Int32) (h0 : x0 < 0) : CT l z ⟨"BallothallModel", "isIn", "(III)Z"⟩ prog_14_method_20_code 3 (some .boolean) [.int x0, .int 0, .int 1000] [] 0 0 0 0 (fun u => some (.int 0)) (fun u => []) := by
  refine CT.of (own := "BallothallModel") (by decide +kernel) (Nat.le_of_ble_eq_true rfl) rfl (fun p e s m below meth c A ls hx hb hml hr hts hown hlocks hin hA hG hZ hP hD hS hl => ?_)
  have hl : lv_has ls 3 [(0, .int x0), (1, .int 0), (2, .int 1000)] := hl
  refine lv_iload_n hx hb d_14_20_0 rfl (lv_at hl 0 rfl) ?_
  refine lv_iload_n hx hb d_14_20_1 rfl (lv_at hl 1 rfl) ?_
  refine lv_icmp_lt (tgt := 14) hx hb d_14_20_2 (by decide) (fun _ => ?_) (fun c9 => absurd h0 c9)
  refine lv_iconst (v := 0) hx hb d_14_20_14 (by decide +kernel) ?_
  refine W.widen (k := 0) (n := 0) (Nat.le_of_ble_eq_true rfl) (Nat.le_of_ble_eq_true rfl) ?_
  exact W.zret hx hb hr rfl (fun t ht hW => qk hP hD hS [] rfl ((fun k => k), (fun _ _ => none)) rfl rfl rfl ht) hS.2.2 d_14_20_15
set_option maxRecDepth 100000 in
set_option maxHeartbeats 4000000 in
theorem c600_BModel_member (l : Launch) (z : Zz) (a0 a1 a2 a3 a4 : Nat) (x0 : Int32) (h0 : x0 < 0) : CT l z ⟨"BallothallModel", "member", "(I)I"⟩ prog_14_method_89_code 2 (some .int) [.ref a0, .int x0] [(a0, .inr (18, [.ref a1, .ref a2, .int 0, .ref a3, .int 0, .ref a4, .int 0, .null, .int 0, .null, .long 0, .int 0, .null]))] 1 30 0 0 (fun u => some (.int 0)) (fun u => [(a0, .inr (18, [.ref a1, .ref a2, .int 0, .ref a3, .int 0, .ref a4, .int 1, .null, .int 0, .null, .long 0, .int 0, .null]))]) := by
  refine CT.of (own := "BallothallModel") (by decide +kernel) (Nat.le_of_ble_eq_true rfl) rfl (fun p e s m below meth c A ls hx hb hml hr hts hown hlocks hin hA hG hZ hP hD hS hl => ?_)
  have hl : lv_has ls 2 [(0, .ref a0), (1, .int x0)] := hl
  refine lv_aload_n hx hb d_14_89_0 rfl (lv_at hl 0 rfl) ?_
  refine lv_iload_n hx hb d_14_89_1 rfl (lv_at hl 1 rfl) ?_
  refine lv_iconst (v := 0) hx hb d_14_89_2 (by decide +kernel) ?_
  refine lv_sipush (v := 1000) hx hb d_14_89_3 (by decide +kernel) ?_
  refine kS (As := [.int x0, .int 0, .int 1000]) (rest := [.ref a0]) (wr := [(a0, .inr (18, [.ref a1, .ref a2, .int 0, .ref a3, .int 0, .ref a4, .int 0, .null, .int 0, .null, .long 0, .int 0, .null]))]) (c599_BModel_isIn l z x0 h0) hx hb hml hown hts w_1718 w_1716 w_1717 w_12 md_bca45c ⟨Nat.le_of_ble_eq_true rfl, Nat.le_of_ble_eq_true rfl⟩ hG hZ hP hD hS hA [] [0] rfl rfl rfl rfl rfl hl.1 rfl (Nat.le_of_ble_eq_true rfl) d_14_89_6 ⟨Nat.le_of_ble_eq_true rfl, Nat.le_of_ble_eq_true rfl⟩ (fun u0 H locs hP hD hS => ?_)
  have hP : va_P z.1 classes [(a0, .inr (18, [.ref a1, .ref a2, .int 0, .ref a3, .int 0, .ref a4, .int 0, .null, .int 0, .null, .long 0, .int 0, .null]))] H := hP
  have hD : va_D A [(a0, .inr (18, [.ref a1, .ref a2, .int 0, .ref a3, .int 0, .ref a4, .int 0, .null, .int 0, .null, .long 0, .int 0, .null]))] := hD
  refine W.eq (g2 := F0 m 9 ls [.int 0, .ref a0]) rfl ?_
  refine lv_iconst (v := 1) hx hb d_14_89_9 (by decide +kernel) ?_
  refine kV (As := [.int 0, .int 1]) (rest := []) (wr := []) (c31_BModel_ends l z a0 a1 a2 a3 a4) hx hb hml hown hts w_1696 w_1693 w_1695 w_s_f8f2b7 w_12 md_77b0f8 ⟨Nat.le_of_ble_eq_true rfl, Nat.le_of_ble_eq_true rfl⟩ hG hZ hP hD hS hA 0 rfl rfl rfl [0] [] rfl rfl rfl rfl rfl hl.1 rfl (Nat.le_of_ble_eq_true rfl) d_14_89_10 ⟨Nat.le_of_ble_eq_true rfl, Nat.le_of_ble_eq_true rfl⟩ (fun u1 H locs hP hD hS => ?_)
  have hP : va_P z.1 classes [(a0, .inr (18, [.ref a1, .ref a2, .int 0, .ref a3, .int 0, .ref a4, .int 1, .null, .int 0, .null, .long 0, .int 0, .null]))] H := hP
  have hD : va_D A [(a0, .inr (18, [.ref a1, .ref a2, .int 0, .ref a3, .int 0, .ref a4, .int 1, .null, .int 0, .null, .long 0, .int 0, .null]))] := hD
  refine W.eq (g2 := F0 m 13 ls [.int 1]) rfl ?_
  refine lv_if_ne (tgt := 41) hx hb d_14_89_13 (by decide) (fun _ => ?_) (fun c9 => absurd c9 (by decide +kernel))
  refine lv_iconst (v := 0) hx hb d_14_89_41 (by decide +kernel) ?_
  refine W.widen (k := 0) (n := 0) (Nat.le_of_ble_eq_true rfl) (Nat.le_of_ble_eq_true rfl) ?_
  exact W.iret hx hb hr (fun t ht hW => qk hP hD hS [0] rfl ((fun k => k), (fun _ _ => none)) rfl rfl rfl ht) hS.2.2 d_14_89_42
set_option maxRecDepth 100000 in
set_option maxHeartbeats 4000000 in
theorem c601_B_needRange (l : Launch) (z : Zz) (hl0 : l.stackTraces = false) (x0 : Int32) (h0 : ¬ x0 < 0) (h1 : 1000 < x0) : XT l z ⟨"Ballothall", "needRange", "(III)V"⟩ prog_1_method_57_code 3 none [.int x0, .int 0, .int 1000] [] 6 98 1 6 "java/lang/IllegalArgumentException" := by
  refine XT.of (own := "Ballothall") (by decide +kernel) (Nat.le_of_ble_eq_true rfl) rfl (fun p e s m below meth c A ls hx hb hml hr hts hown hlocks hin hA hG hZ hP hD hS hl hnt => ?_)
  have hl : lv_has ls 3 [(0, .int x0), (1, .int 0), (2, .int 1000)] := hl
  refine lv_iload_n hx hb d_1_57_0 rfl (lv_at hl 0 rfl) ?_
  refine lv_iload_n hx hb d_1_57_1 rfl (lv_at hl 1 rfl) ?_
  refine lv_icmp_lt (tgt := 10) hx hb d_1_57_2 (by decide) (fun c9 => absurd c9 h0) (fun _ => ?_)
  refine lv_iload_n hx hb d_1_57_5 rfl (lv_at hl 0 rfl) ?_
  refine lv_iload_n hx hb d_1_57_6 rfl (lv_at hl 2 rfl) ?_
  refine lv_icmp_le (tgt := 21) hx hb d_1_57_7 (by decide) (fun c9 => absurd c9 (Int32.not_le.mpr h1)) (fun _ => ?_)
  exact x_newW (text := "out of range") hl0 hx hb hml hown hts hlocks hnt hG hZ hS hl.1 (by decide +kernel) w_877 w_21 (by decide) xa_310_a xa_310_b d_1_57_10 d_1_57_13 d_1_57_14 d_1_57_17 d_1_57_20 ⟨Nat.le_of_ble_eq_true rfl, Nat.le_of_ble_eq_true rfl, Nat.le_of_ble_eq_true rfl, Nat.le_of_ble_eq_true rfl⟩ (Nat.le_of_ble_eq_true rfl) (Nat.le_of_ble_eq_true rfl) (Nat.le_of_ble_eq_true rfl)
set_option maxRecDepth 100000 in
set_option maxHeartbeats 4000000 in
theorem c602_B_member (l : Launch) (z : Zz) (hl0 : l.stackTraces = false) (a0 : Nat) (x0 : Int32) (h0 : ¬ x0 < 0) (h1 : 1000 < x0) : XT l z ⟨"Ballothall", "member", "(I)I"⟩ prog_1_method_46_code 3 (some .int) [.ref a0, .int x0] [] 7 128 1 6 "java/lang/IllegalArgumentException" := by
  refine XT.of (own := "Ballothall") (by decide +kernel) (Nat.le_of_ble_eq_true rfl) rfl (fun p e s m below meth c A ls hx hb hml hr hts hown hlocks hin hA hG hZ hP hD hS hl hnt => ?_)
  have hl : lv_has ls 3 [(0, .ref a0), (1, .int x0)] := hl
  refine lv_iload_n hx hb d_1_46_0 rfl (lv_at hl 1 rfl) ?_
  refine lv_iconst (v := 0) hx hb d_1_46_1 (by decide +kernel) ?_
  refine lv_sipush (v := 1000) hx hb d_1_46_2 (by decide +kernel) ?_
  exact xS (As := [.int x0, .int 0, .int 1000]) (rest := []) (wr := []) (c601_B_needRange l z hl0 x0 h0 h1) hx hb hml hown hts w_876 w_874 w_875 w_1 md_519134 ⟨Nat.le_of_ble_eq_true rfl, Nat.le_of_ble_eq_true rfl⟩ hG hZ hP hD hS hA [] [] rfl rfl rfl rfl rfl hl.1 rfl (Nat.le_of_ble_eq_true rfl) d_1_46_5 ⟨Nat.le_of_ble_eq_true rfl, Nat.le_of_ble_eq_true rfl⟩ (fun q9 ce9 H locs hP hD hS h7 h8 h9 => x_out hnt hlocks hS h7 h8 h9 (Nat.le_of_ble_eq_true rfl) (Nat.le_of_ble_eq_true rfl))
set_option maxRecDepth 100000 in
set_option maxHeartbeats 4000000 in
theorem c603_BLaw_member (l : Launch) (z : Zz) (hl0 : l.stackTraces = false) (a0 a1 a2 a3 a4 a5 a6 a7 a8 a9 a10 a11 a12 : Nat) (x0 : Int32) (h0 : ¬ x0 < 0) (h1 : 1000 < x0) : HT l z ⟨"BallothallLaw", "member", "(LBallothall;I[J)I"⟩ method_38_code 4 (some .int) [(0, 9, 12, 21), (0, 9, 15, 13)] [.ref a0, .int x0, .ref a1] [(a0, .inr (11, [.ref a2, .ref a3, .ref a4, .ref a5, .ref a6, .ref a7, .ref a8, .ref a9, .ref a10, .ref a11, .int 0, .int 0, .ref a12, .int 0]))] 8 158 1 6 (fun u => some (.int 1)) (fun u => [(a0, .inr (11, [.ref a2, .ref a3, .ref a4, .ref a5, .ref a6, .ref a7, .ref a8, .ref a9, .ref a10, .ref a11, .int 0, .int 0, .ref a12, .int 0]))]) := by
  refine HT.of (own := "BallothallLaw") (by decide +kernel) (Nat.le_of_ble_eq_true rfl) rfl (fun p e s m below meth c A ls hx hb hml hr hts hown hlocks hin hA hG hZ hP hD hS hl htab => ?_)
  have hl : lv_has ls 4 [(0, .ref a0), (1, .int x0), (2, .ref a1)] := hl
  refine lv_aload_n hx hb d_L38_0 rfl (lv_at hl 2 rfl) ?_
  refine lv_iconst (v := 0) hx hb d_L38_1 (by decide +kernel) ?_
  refine lv_aload_n hx hb d_L38_2 rfl (lv_at hl 0 rfl) ?_
  refine lv_iload_n hx hb d_L38_3 rfl (lv_at hl 1 rfl) ?_
  refine xV (As := [.int x0]) (rest := [.int 0, .ref a1]) (wr := [(a0, .inr (11, [.ref a2, .ref a3, .ref a4, .ref a5, .ref a6, .ref a7, .ref a8, .ref a9, .ref a10, .ref a11, .int 0, .int 0, .ref a12, .int 0]))]) (c602_B_member l z hl0 a0 x0 h0 h1) hx hb hml hown hts w_1519 w_1516 w_1517 w_1518 w_1 md_caa1ec ⟨Nat.le_of_ble_eq_true rfl, Nat.le_of_ble_eq_true rfl⟩ hG hZ hP hD hS hA 0 rfl rfl rfl [] [0] rfl rfl rfl rfl rfl hl.1 rfl (Nat.le_of_ble_eq_true rfl) d_L38_4 ⟨Nat.le_of_ble_eq_true rfl, Nat.le_of_ble_eq_true rfl⟩ (fun q0 ce9 H locs hP hD hS h7 h8 h9 => ?_)
  have hP : va_P z.1 classes [(a0, .inr (11, [.ref a2, .ref a3, .ref a4, .ref a5, .ref a6, .ref a7, .ref a8, .ref a9, .ref a10, .ref a11, .int 0, .int 0, .ref a12, .int 0]))] H := hP
  have hD : va_D A [(a0, .inr (11, [.ref a2, .ref a3, .ref a4, .ref a5, .ref a6, .ref a7, .ref a8, .ref a9, .ref a10, .ref a11, .int 0, .int 0, .ref a12, .int 0]))] := hD
  refine vx_catch hown [] ⟨0, 9, 12, 21⟩ [⟨0, 9, 15, 13⟩] (htab.trans rfl) (fun _ h9 => absurd h9 List.not_mem_nil) rfl (by decide) (hts _ w_850) (va_Nw.use rfl (hG.2.1 _ n_879 rfl)) h7 h8 h9 ?_
  refine lv_astore_n (lv' := [(3, .ref q0), (0, .ref a0), (1, .int x0), (2, .ref a1)]) hx hb d_L38_12 rfl hl (by decide) rfl (fun ls hl => ?_)
  refine lv_iconst (v := 1) hx hb d_L38_13 (by decide +kernel) ?_
  refine W.widen (k := 1) (n := 6) (Nat.le_of_ble_eq_true rfl) (Nat.le_of_ble_eq_true rfl) ?_
  refine vx_ret ?_
  exact W.iret hx hb hr (fun t ht hW => qk hP hD hS [0] rfl ((fun k => k), (fun _ _ => none)) rfl rfl rfl ht) hS.2.2 d_L38_14
set_option maxRecDepth 100000 in
set_option maxHeartbeats 4000000 in
theorem c604_BModel_isIn (l : Launch) (z : Zz) (x0 : Int32) (h0 : ¬ x0 < 0) (h1 : 1000 < x0) : CT l z ⟨"BallothallModel", "isIn", "(III)Z"⟩ prog_14_method_20_code 3 (some .boolean) [.int x0, .int 0, .int 1000] [] 0 0 0 0 (fun u => some (.int 0)) (fun u => []) := by
  refine CT.of (own := "BallothallModel") (by decide +kernel) (Nat.le_of_ble_eq_true rfl) rfl (fun p e s m below meth c A ls hx hb hml hr hts hown hlocks hin hA hG hZ hP hD hS hl => ?_)
  have hl : lv_has ls 3 [(0, .int x0), (1, .int 0), (2, .int 1000)] := hl
  refine lv_iload_n hx hb d_14_20_0 rfl (lv_at hl 0 rfl) ?_
  refine lv_iload_n hx hb d_14_20_1 rfl (lv_at hl 1 rfl) ?_
  refine lv_icmp_lt (tgt := 14) hx hb d_14_20_2 (by decide) (fun c9 => absurd c9 h0) (fun _ => ?_)
  refine lv_iload_n hx hb d_14_20_5 rfl (lv_at hl 0 rfl) ?_
  refine lv_iload_n hx hb d_14_20_6 rfl (lv_at hl 2 rfl) ?_
  refine lv_icmp_gt (tgt := 14) hx hb d_14_20_7 (by decide) (fun _ => ?_) (fun c9 => absurd h1 c9)
  refine lv_iconst (v := 0) hx hb d_14_20_14 (by decide +kernel) ?_
  refine W.widen (k := 0) (n := 0) (Nat.le_of_ble_eq_true rfl) (Nat.le_of_ble_eq_true rfl) ?_
  exact W.zret hx hb hr rfl (fun t ht hW => qk hP hD hS [] rfl ((fun k => k), (fun _ _ => none)) rfl rfl rfl ht) hS.2.2 d_14_20_15
set_option maxRecDepth 100000 in
set_option maxHeartbeats 4000000 in
theorem c605_BModel_member (l : Launch) (z : Zz) (a0 a1 a2 a3 a4 : Nat) (x0 : Int32) (h0 : ¬ x0 < 0) (h1 : 1000 < x0) : CT l z ⟨"BallothallModel", "member", "(I)I"⟩ prog_14_method_89_code 2 (some .int) [.ref a0, .int x0] [(a0, .inr (18, [.ref a1, .ref a2, .int 0, .ref a3, .int 0, .ref a4, .int 0, .null, .int 0, .null, .long 0, .int 0, .null]))] 1 30 0 0 (fun u => some (.int 0)) (fun u => [(a0, .inr (18, [.ref a1, .ref a2, .int 0, .ref a3, .int 0, .ref a4, .int 1, .null, .int 0, .null, .long 0, .int 0, .null]))]) := by
  refine CT.of (own := "BallothallModel") (by decide +kernel) (Nat.le_of_ble_eq_true rfl) rfl (fun p e s m below meth c A ls hx hb hml hr hts hown hlocks hin hA hG hZ hP hD hS hl => ?_)
  have hl : lv_has ls 2 [(0, .ref a0), (1, .int x0)] := hl
  refine lv_aload_n hx hb d_14_89_0 rfl (lv_at hl 0 rfl) ?_
  refine lv_iload_n hx hb d_14_89_1 rfl (lv_at hl 1 rfl) ?_
  refine lv_iconst (v := 0) hx hb d_14_89_2 (by decide +kernel) ?_
  refine lv_sipush (v := 1000) hx hb d_14_89_3 (by decide +kernel) ?_
  refine kS (As := [.int x0, .int 0, .int 1000]) (rest := [.ref a0]) (wr := [(a0, .inr (18, [.ref a1, .ref a2, .int 0, .ref a3, .int 0, .ref a4, .int 0, .null, .int 0, .null, .long 0, .int 0, .null]))]) (c604_BModel_isIn l z x0 h0 h1) hx hb hml hown hts w_1718 w_1716 w_1717 w_12 md_bca45c ⟨Nat.le_of_ble_eq_true rfl, Nat.le_of_ble_eq_true rfl⟩ hG hZ hP hD hS hA [] [0] rfl rfl rfl rfl rfl hl.1 rfl (Nat.le_of_ble_eq_true rfl) d_14_89_6 ⟨Nat.le_of_ble_eq_true rfl, Nat.le_of_ble_eq_true rfl⟩ (fun u0 H locs hP hD hS => ?_)
  have hP : va_P z.1 classes [(a0, .inr (18, [.ref a1, .ref a2, .int 0, .ref a3, .int 0, .ref a4, .int 0, .null, .int 0, .null, .long 0, .int 0, .null]))] H := hP
  have hD : va_D A [(a0, .inr (18, [.ref a1, .ref a2, .int 0, .ref a3, .int 0, .ref a4, .int 0, .null, .int 0, .null, .long 0, .int 0, .null]))] := hD
  refine W.eq (g2 := F0 m 9 ls [.int 0, .ref a0]) rfl ?_
  refine lv_iconst (v := 1) hx hb d_14_89_9 (by decide +kernel) ?_
  refine kV (As := [.int 0, .int 1]) (rest := []) (wr := []) (c31_BModel_ends l z a0 a1 a2 a3 a4) hx hb hml hown hts w_1696 w_1693 w_1695 w_s_f8f2b7 w_12 md_77b0f8 ⟨Nat.le_of_ble_eq_true rfl, Nat.le_of_ble_eq_true rfl⟩ hG hZ hP hD hS hA 0 rfl rfl rfl [0] [] rfl rfl rfl rfl rfl hl.1 rfl (Nat.le_of_ble_eq_true rfl) d_14_89_10 ⟨Nat.le_of_ble_eq_true rfl, Nat.le_of_ble_eq_true rfl⟩ (fun u1 H locs hP hD hS => ?_)
  have hP : va_P z.1 classes [(a0, .inr (18, [.ref a1, .ref a2, .int 0, .ref a3, .int 0, .ref a4, .int 1, .null, .int 0, .null, .long 0, .int 0, .null]))] H := hP
  have hD : va_D A [(a0, .inr (18, [.ref a1, .ref a2, .int 0, .ref a3, .int 0, .ref a4, .int 1, .null, .int 0, .null, .long 0, .int 0, .null]))] := hD
  refine W.eq (g2 := F0 m 13 ls [.int 1]) rfl ?_
  refine lv_if_ne (tgt := 41) hx hb d_14_89_13 (by decide) (fun _ => ?_) (fun c9 => absurd c9 (by decide +kernel))
  refine lv_iconst (v := 0) hx hb d_14_89_41 (by decide +kernel) ?_
  refine W.widen (k := 0) (n := 0) (Nat.le_of_ble_eq_true rfl) (Nat.le_of_ble_eq_true rfl) ?_
  exact W.iret hx hb hr (fun t ht hW => qk hP hD hS [0] rfl ((fun k => k), (fun _ _ => none)) rfl rfl rfl ht) hS.2.2 d_14_89_42
set_option maxRecDepth 100000 in
set_option maxHeartbeats 4000000 in
theorem c606_B_needRange (l : Launch) (z : Zz) (x0 : Int32) (h0 : ¬ x0 < 0) (h1 : ¬ 1000 < x0) : CT l z ⟨"Ballothall", "needRange", "(III)V"⟩ prog_1_method_57_code 3 none [.int x0, .int 0, .int 1000] [] 0 0 0 0 (fun u => none) (fun u => []) := by
  refine CT.of (own := "Ballothall") (by decide +kernel) (Nat.le_of_ble_eq_true rfl) rfl (fun p e s m below meth c A ls hx hb hml hr hts hown hlocks hin hA hG hZ hP hD hS hl => ?_)
  have hl : lv_has ls 3 [(0, .int x0), (1, .int 0), (2, .int 1000)] := hl
  refine lv_iload_n hx hb d_1_57_0 rfl (lv_at hl 0 rfl) ?_
  refine lv_iload_n hx hb d_1_57_1 rfl (lv_at hl 1 rfl) ?_
  refine lv_icmp_lt (tgt := 10) hx hb d_1_57_2 (by decide) (fun c9 => absurd c9 h0) (fun _ => ?_)
  refine lv_iload_n hx hb d_1_57_5 rfl (lv_at hl 0 rfl) ?_
  refine lv_iload_n hx hb d_1_57_6 rfl (lv_at hl 2 rfl) ?_
  refine lv_icmp_le (tgt := 21) hx hb d_1_57_7 (by decide) (fun _ => ?_) (fun c9 => absurd (Int32.not_lt.mp h1) c9)
  refine W.widen (k := 0) (n := 0) (Nat.le_of_ble_eq_true rfl) (Nat.le_of_ble_eq_true rfl) ?_
  exact W.vret hx hb hr (fun t ht hW => qk hP hD hS [] rfl ((fun k => k), (fun _ _ => none)) rfl rfl rfl ht) hS.2.2 d_1_57_21
set_option maxRecDepth 100000 in
set_option maxHeartbeats 4000000 in
theorem c607_B_needRoom (l : Launch) (z : Zz) : CT l z ⟨"Ballothall", "needRoom", "(II)V"⟩ prog_1_method_58_code 2 none [.int 1, .int 12] [] 0 0 0 0 (fun u => none) (fun u => []) := by
  refine CT.of (own := "Ballothall") (by decide +kernel) (Nat.le_of_ble_eq_true rfl) rfl (fun p e s m below meth c A ls hx hb hml hr hts hown hlocks hin hA hG hZ hP hD hS hl => ?_)
  have hl : lv_has ls 2 [(0, .int 1), (1, .int 12)] := hl
  refine lv_iload_n hx hb d_1_58_0 rfl (lv_at hl 0 rfl) ?_
  refine lv_iload_n hx hb d_1_58_1 rfl (lv_at hl 1 rfl) ?_
  refine lv_icmp_le (tgt := 16) hx hb d_1_58_2 (by decide) (fun _ => ?_) (fun c9 => absurd (by decide +kernel) c9)
  refine W.widen (k := 0) (n := 0) (Nat.le_of_ble_eq_true rfl) (Nat.le_of_ble_eq_true rfl) ?_
  exact W.vret hx hb hr (fun t ht hW => qk hP hD hS [] rfl ((fun k => k), (fun _ _ => none)) rfl rfl rfl ht) hS.2.2 d_1_58_16
set_option maxRecDepth 100000 in
set_option maxHeartbeats 4000000 in
theorem c608_Council_append (l : Launch) (z : Zz) (a0 a1 a2 : Nat) (x0 : Int32) : CT l z ⟨"Ballothall$Council", "append", "(I)I"⟩ prog_3_method_2_code 3 (some .int) [.ref a0, .int x0] [(a0, .inr (1, [.int 0, .int 1, .ref a1, .ref a2])), (a1, .inl (z.2 0, 12, .inl (fun _ => 0)))] 0 0 0 0 (fun u => some (.int 0)) (fun u => [(a0, .inr (1, [.int 1, .int 1, .ref a1, .ref a2])), (a1, .inl (z.2 0, 12, .inl (upd (fun _ => 0) 0 x0)))]) := by
  refine CT.of (own := "Ballothall$Council") (by decide +kernel) (Nat.le_of_ble_eq_true rfl) rfl (fun p e s m below meth c A ls hx hb hml hr hts hown hlocks hin hA hG hZ hP hD hS hl => ?_)
  have hl : lv_has ls 3 [(0, .ref a0), (1, .int x0)] := hl
  refine lv_aload_n hx hb d_3_2_0 rfl (lv_at hl 0 rfl) ?_
  refine va_get (D := z.1) (ci := 1) (v := .int 0) (C := "Ballothall$Council") (T := TX1) (N := 4) hx hb hts iX1 hown hG.1 hP 0 rfl rfl 0 (by decide) (hts _ w_390) (fun _ h9 => h9) rfl d_3_2_1 ?_
  refine lv_istore_n (lv' := [(2, .int 0), (0, .ref a0), (1, .int x0)]) hx hb d_3_2_4 rfl hl (by decide) rfl (fun ls hl => ?_)
  refine lv_aload_n hx hb d_3_2_5 rfl (lv_at hl 1 rfl) ?_
  refine va_get (D := z.1) (ci := 1) (v := .ref a1) (C := "Ballothall$Council") (T := TX1) (N := 4) hx hb hts iX1 hown hG.1 hP 0 rfl rfl 2 (by decide) (hts _ w_394) (fun _ h9 => h9) rfl d_3_2_6 ?_
  refine lv_iload_n hx hb d_3_2_9 rfl (lv_at hl 0 rfl) ?_
  refine lv_iload_n hx hb d_3_2_10 rfl (lv_at hl 2 rfl) ?_
  refine va_iast hx hb hG.1 hP hD hS 1 0 rfl rfl (vin rfl) d_3_2_11 (fun H locs hP hD hS => ?_)
  have hP : va_P z.1 classes [(a0, .inr (1, [.int 0, .int 1, .ref a1, .ref a2])), (a1, .inl (z.2 0, 12, .inl (upd (fun _ => 0) 0 x0)))] H := hP
  have hD : va_D A [(a0, .inr (1, [.int 0, .int 1, .ref a1, .ref a2])), (a1, .inl (z.2 0, 12, .inl (upd (fun _ => 0) 0 x0)))] := hD
  refine lv_aload_n hx hb d_3_2_12 rfl (lv_at hl 1 rfl) ?_
  refine lv_dup hx hb d_3_2_13 rfl ?_
  refine va_get (D := z.1) (ci := 1) (v := .int 0) (C := "Ballothall$Council") (T := TX1) (N := 4) hx hb hts iX1 hown hG.1 hP 0 rfl rfl 0 (by decide) (hts _ w_390) (fun _ h9 => h9) rfl d_3_2_14 ?_
  refine lv_iconst (v := 1) hx hb d_3_2_17 (by decide +kernel) ?_
  refine lv_iadd hx hb d_3_2_18 ?_
  refine nrm (x1 := 1) (by decide +kernel) ?_
  refine va_put (D := z.1) (ci := 1) (v := .int 1) (ty := .int) (C := "Ballothall$Council") (T := TX1) (N := 4) hx hb hts iX1 tyX1 tyX1_ok nmX1 hown hG.1 hP hD hS 0 rfl rfl 0 (by decide) (hts _ w_390) (fun _ h9 => h9) rfl (by decide +kernel) rfl rfl (Nat.le_of_ble_eq_true rfl) d_3_2_19 (fun H locs hP hD hS => ?_)
  have hP : va_P z.1 classes [(a0, .inr (1, [.int 1, .int 1, .ref a1, .ref a2])), (a1, .inl (z.2 0, 12, .inl (upd (fun _ => 0) 0 x0)))] H := hP
  have hD : va_D A [(a0, .inr (1, [.int 1, .int 1, .ref a1, .ref a2])), (a1, .inl (z.2 0, 12, .inl (upd (fun _ => 0) 0 x0)))] := hD
  refine lv_iload_n hx hb d_3_2_22 rfl (lv_at hl 0 rfl) ?_
  refine W.widen (k := 0) (n := 0) (Nat.le_of_ble_eq_true rfl) (Nat.le_of_ble_eq_true rfl) ?_
  exact W.iret hx hb hr (fun t ht hW => qk hP hD hS [0, 1] rfl ((fun k => k), (fun _ _ => none)) rfl rfl rfl ht) hS.2.2 d_3_2_23
set_option maxRecDepth 100000 in
set_option maxHeartbeats 4000000 in
theorem c609_B_remember (l : Launch) (z : Zz) (a0 a1 a2 a3 a4 a5 a6 a7 a8 a9 a10 a11 : Nat) : CT l z ⟨"Ballothall", "remember", "(III)V"⟩ prog_1_method_61_code 4 none [.ref a0, .int 11, .int 0, .int 0] [(a0, .inr (11, [.ref a1, .ref a2, .ref a3, .ref a4, .ref a5, .ref a6, .ref a7, .ref a8, .ref a9, .ref a10, .int 0, .int 0, .ref a11, .int 0])), (a8, .inl (z.2 0, 20, .inl (fun _ => 0))), (a9, .inl (z.2 0, 20, .inl (fun _ => 0))), (a10, .inl (z.2 0, 20, .inl (fun _ => 0)))] 1 29 0 0 (fun u => none) (fun u => [(a0, .inr (11, [.ref a1, .ref a2, .ref a3, .ref a4, .ref a5, .ref a6, .ref a7, .ref a8, .ref a9, .ref a10, .int 1, .int 1, .ref a11, .int 0])), (a8, .inl (z.2 0, 20, .inl (upd (fun _ => 0) 1 11))), (a9, .inl (z.2 0, 20, .inl (fun _ => 0))), (a10, .inl (z.2 0, 20, .inl (fun _ => 0)))]) := by
  refine CT.of (own := "Ballothall") (by decide +kernel) (Nat.le_of_ble_eq_true rfl) rfl (fun p e s m below meth c A ls hx hb hml hr hts hown hlocks hin hA hG hZ hP hD hS hl => ?_)
  have hl : lv_has ls 4 [(0, .ref a0), (1, .int 11), (2, .int 0), (3, .int 0)] := hl
  refine lv_aload_n hx hb d_1_61_0 rfl (lv_at hl 0 rfl) ?_
  refine lv_aload_n hx hb d_1_61_1 rfl (lv_at hl 0 rfl) ?_
  refine va_get (D := z.1) (ci := 11) (v := .int 0) (C := "Ballothall") (T := TX11) (N := 14) hx hb hts iX11 hown hG.1 hP 0 rfl rfl 10 (by decide) (hts _ w_416) (fun _ h9 => h9) rfl d_1_61_2 ?_
  refine lv_iconst (v := 1) hx hb d_1_61_5 (by decide +kernel) ?_
  refine lv_iadd hx hb d_1_61_6 ?_
  refine nrm (x1 := 1) (by decide +kernel) ?_
  refine lv_bipush (v := 20) hx hb d_1_61_7 (by decide +kernel) ?_
  refine lv_irem hx hb d_1_61_9 (by decide +kernel) ?_
  refine nrm (x1 := 1) (by decide +kernel) ?_
  refine va_put (D := z.1) (ci := 11) (v := .int 1) (ty := .int) (C := "Ballothall") (T := TX11) (N := 14) hx hb hts iX11 tyX11 tyX11_ok nmX11 hown hG.1 hP hD hS 0 rfl rfl 10 (by decide) (hts _ w_416) (fun _ h9 => h9) rfl (by decide +kernel) rfl rfl (Nat.le_of_ble_eq_true rfl) d_1_61_10 (fun H locs hP hD hS => ?_)
  have hP : va_P z.1 classes [(a0, .inr (11, [.ref a1, .ref a2, .ref a3, .ref a4, .ref a5, .ref a6, .ref a7, .ref a8, .ref a9, .ref a10, .int 1, .int 0, .ref a11, .int 0])), (a8, .inl (z.2 0, 20, .inl (fun _ => 0))), (a9, .inl (z.2 0, 20, .inl (fun _ => 0))), (a10, .inl (z.2 0, 20, .inl (fun _ => 0)))] H := hP
  have hD : va_D A [(a0, .inr (11, [.ref a1, .ref a2, .ref a3, .ref a4, .ref a5, .ref a6, .ref a7, .ref a8, .ref a9, .ref a10, .int 1, .int 0, .ref a11, .int 0])), (a8, .inl (z.2 0, 20, .inl (fun _ => 0))), (a9, .inl (z.2 0, 20, .inl (fun _ => 0))), (a10, .inl (z.2 0, 20, .inl (fun _ => 0)))] := hD
  refine lv_aload_n hx hb d_1_61_13 rfl (lv_at hl 0 rfl) ?_
  refine va_get (D := z.1) (ci := 11) (v := .ref a8) (C := "Ballothall") (T := TX11) (N := 14) hx hb hts iX11 hown hG.1 hP 0 rfl rfl 7 (by decide) (hts _ w_413) (fun _ h9 => h9) rfl d_1_61_14 ?_
  refine lv_aload_n hx hb d_1_61_17 rfl (lv_at hl 0 rfl) ?_
  refine va_get (D := z.1) (ci := 11) (v := .int 1) (C := "Ballothall") (T := TX11) (N := 14) hx hb hts iX11 hown hG.1 hP 0 rfl rfl 10 (by decide) (hts _ w_416) (fun _ h9 => h9) rfl d_1_61_18 ?_
  refine lv_iload_n hx hb d_1_61_21 rfl (lv_at hl 1 rfl) ?_
  refine va_iast hx hb hG.1 hP hD hS 1 0 rfl rfl (vin rfl) d_1_61_22 (fun H locs hP hD hS => ?_)
  have hP : va_P z.1 classes [(a0, .inr (11, [.ref a1, .ref a2, .ref a3, .ref a4, .ref a5, .ref a6, .ref a7, .ref a8, .ref a9, .ref a10, .int 1, .int 0, .ref a11, .int 0])), (a8, .inl (z.2 0, 20, .inl (upd (fun _ => 0) 1 11))), (a9, .inl (z.2 0, 20, .inl (fun _ => 0))), (a10, .inl (z.2 0, 20, .inl (fun _ => 0)))] H := hP
  have hD : va_D A [(a0, .inr (11, [.ref a1, .ref a2, .ref a3, .ref a4, .ref a5, .ref a6, .ref a7, .ref a8, .ref a9, .ref a10, .int 1, .int 0, .ref a11, .int 0])), (a8, .inl (z.2 0, 20, .inl (upd (fun _ => 0) 1 11))), (a9, .inl (z.2 0, 20, .inl (fun _ => 0))), (a10, .inl (z.2 0, 20, .inl (fun _ => 0)))] := hD
  refine lv_aload_n hx hb d_1_61_23 rfl (lv_at hl 0 rfl) ?_
  refine va_get (D := z.1) (ci := 11) (v := .ref a9) (C := "Ballothall") (T := TX11) (N := 14) hx hb hts iX11 hown hG.1 hP 0 rfl rfl 8 (by decide) (hts _ w_414) (fun _ h9 => h9) rfl d_1_61_24 ?_
  refine lv_aload_n hx hb d_1_61_27 rfl (lv_at hl 0 rfl) ?_
  refine va_get (D := z.1) (ci := 11) (v := .int 1) (C := "Ballothall") (T := TX11) (N := 14) hx hb hts iX11 hown hG.1 hP 0 rfl rfl 10 (by decide) (hts _ w_416) (fun _ h9 => h9) rfl d_1_61_28 ?_
  refine lv_iload_n hx hb d_1_61_31 rfl (lv_at hl 2 rfl) ?_
  refine va_iast hx hb hG.1 hP hD hS 2 0 rfl rfl (vin rfl) d_1_61_32 (fun H locs hP hD hS => ?_)
  rw [upd_z] at hP hD
  have hP : va_P z.1 classes [(a0, .inr (11, [.ref a1, .ref a2, .ref a3, .ref a4, .ref a5, .ref a6, .ref a7, .ref a8, .ref a9, .ref a10, .int 1, .int 0, .ref a11, .int 0])), (a8, .inl (z.2 0, 20, .inl (upd (fun _ => 0) 1 11))), (a9, .inl (z.2 0, 20, .inl (fun _ => 0))), (a10, .inl (z.2 0, 20, .inl (fun _ => 0)))] H := hP
  have hD : va_D A [(a0, .inr (11, [.ref a1, .ref a2, .ref a3, .ref a4, .ref a5, .ref a6, .ref a7, .ref a8, .ref a9, .ref a10, .int 1, .int 0, .ref a11, .int 0])), (a8, .inl (z.2 0, 20, .inl (upd (fun _ => 0) 1 11))), (a9, .inl (z.2 0, 20, .inl (fun _ => 0))), (a10, .inl (z.2 0, 20, .inl (fun _ => 0)))] := hD
  refine lv_aload_n hx hb d_1_61_33 rfl (lv_at hl 0 rfl) ?_
  refine va_get (D := z.1) (ci := 11) (v := .ref a10) (C := "Ballothall") (T := TX11) (N := 14) hx hb hts iX11 hown hG.1 hP 0 rfl rfl 9 (by decide) (hts _ w_415) (fun _ h9 => h9) rfl d_1_61_34 ?_
  refine lv_aload_n hx hb d_1_61_37 rfl (lv_at hl 0 rfl) ?_
  refine va_get (D := z.1) (ci := 11) (v := .int 1) (C := "Ballothall") (T := TX11) (N := 14) hx hb hts iX11 hown hG.1 hP 0 rfl rfl 10 (by decide) (hts _ w_416) (fun _ h9 => h9) rfl d_1_61_38 ?_
  refine lv_iload_n hx hb d_1_61_41 rfl (lv_at hl 3 rfl) ?_
  refine va_iast hx hb hG.1 hP hD hS 3 0 rfl rfl (vin rfl) d_1_61_42 (fun H locs hP hD hS => ?_)
  rw [upd_z] at hP hD
  have hP : va_P z.1 classes [(a0, .inr (11, [.ref a1, .ref a2, .ref a3, .ref a4, .ref a5, .ref a6, .ref a7, .ref a8, .ref a9, .ref a10, .int 1, .int 0, .ref a11, .int 0])), (a8, .inl (z.2 0, 20, .inl (upd (fun _ => 0) 1 11))), (a9, .inl (z.2 0, 20, .inl (fun _ => 0))), (a10, .inl (z.2 0, 20, .inl (fun _ => 0)))] H := hP
  have hD : va_D A [(a0, .inr (11, [.ref a1, .ref a2, .ref a3, .ref a4, .ref a5, .ref a6, .ref a7, .ref a8, .ref a9, .ref a10, .int 1, .int 0, .ref a11, .int 0])), (a8, .inl (z.2 0, 20, .inl (upd (fun _ => 0) 1 11))), (a9, .inl (z.2 0, 20, .inl (fun _ => 0))), (a10, .inl (z.2 0, 20, .inl (fun _ => 0)))] := hD
  refine lv_aload_n hx hb d_1_61_43 rfl (lv_at hl 0 rfl) ?_
  refine lv_aload_n hx hb d_1_61_44 rfl (lv_at hl 0 rfl) ?_
  refine va_get (D := z.1) (ci := 11) (v := .int 0) (C := "Ballothall") (T := TX11) (N := 14) hx hb hts iX11 hown hG.1 hP 0 rfl rfl 11 (by decide) (hts _ w_417) (fun _ h9 => h9) rfl d_1_61_45 ?_
  refine lv_iconst (v := 1) hx hb d_1_61_48 (by decide +kernel) ?_
  refine lv_iadd hx hb d_1_61_49 ?_
  refine nrm (x1 := 1) (by decide +kernel) ?_
  refine lv_bipush (v := 20) hx hb d_1_61_50 (by decide +kernel) ?_
  refine va_mmin hx hb (by rw [hml]; exact hl.1.symm) hown (hts _ w_845) (hts _ w_550) (hts _ w_18) (hts _ w_min) (Nat.le_of_ble_eq_true rfl) (Nat.le_of_ble_eq_true rfl) (Nat.le_of_ble_eq_true rfl) (Nat.le_of_ble_eq_true rfl) d_1_61_52 ?_
  refine nrm (x1 := 1) (by decide +kernel) ?_
  refine va_put (D := z.1) (ci := 11) (v := .int 1) (ty := .int) (C := "Ballothall") (T := TX11) (N := 14) hx hb hts iX11 tyX11 tyX11_ok nmX11 hown hG.1 hP hD hS 0 rfl rfl 11 (by decide) (hts _ w_417) (fun _ h9 => h9) rfl (by decide +kernel) rfl rfl (Nat.le_of_ble_eq_true rfl) d_1_61_55 (fun H locs hP hD hS => ?_)
  have hP : va_P z.1 classes [(a0, .inr (11, [.ref a1, .ref a2, .ref a3, .ref a4, .ref a5, .ref a6, .ref a7, .ref a8, .ref a9, .ref a10, .int 1, .int 1, .ref a11, .int 0])), (a8, .inl (z.2 0, 20, .inl (upd (fun _ => 0) 1 11))), (a9, .inl (z.2 0, 20, .inl (fun _ => 0))), (a10, .inl (z.2 0, 20, .inl (fun _ => 0)))] H := hP
  have hD : va_D A [(a0, .inr (11, [.ref a1, .ref a2, .ref a3, .ref a4, .ref a5, .ref a6, .ref a7, .ref a8, .ref a9, .ref a10, .int 1, .int 1, .ref a11, .int 0])), (a8, .inl (z.2 0, 20, .inl (upd (fun _ => 0) 1 11))), (a9, .inl (z.2 0, 20, .inl (fun _ => 0))), (a10, .inl (z.2 0, 20, .inl (fun _ => 0)))] := hD
  refine W.widen (k := 0) (n := 0) (Nat.le_of_ble_eq_true rfl) (Nat.le_of_ble_eq_true rfl) ?_
  exact W.vret hx hb hr (fun t ht hW => qk hP hD hS [0, 1, 2, 3] rfl ((fun k => k), (fun _ _ => none)) rfl rfl rfl ht) hS.2.2 d_1_61_58
set_option maxRecDepth 100000 in
set_option maxHeartbeats 4000000 in
theorem c610_B_member (l : Launch) (z : Zz) (a0 a1 a2 a3 a4 a5 a6 a7 a8 a9 a10 a11 a12 a13 : Nat) (x0 : Int32) (h0 : ¬ x0 < 0) (h1 : ¬ 1000 < x0) : CT l z ⟨"Ballothall", "member", "(I)I"⟩ prog_1_method_46_code 3 (some .int) [.ref a0, .int x0] [(a0, .inr (11, [.ref a1, .ref a2, .ref a3, .ref a4, .ref a5, .ref a6, .ref a7, .ref a8, .ref a9, .ref a10, .int 0, .int 0, .ref a11, .int 0])), (a7, .inr (1, [.int 0, .int 1, .ref a12, .ref a13])), (a12, .inl (z.2 0, 12, .inl (fun _ => 0))), (a8, .inl (z.2 0, 20, .inl (fun _ => 0))), (a9, .inl (z.2 0, 20, .inl (fun _ => 0))), (a10, .inl (z.2 0, 20, .inl (fun _ => 0)))] 2 60 0 0 (fun u => some (.int 0)) (fun u => [(a0, .inr (11, [.ref a1, .ref a2, .ref a3, .ref a4, .ref a5, .ref a6, .ref a7, .ref a8, .ref a9, .ref a10, .int 1, .int 1, .ref a11, .int 0])), (a7, .inr (1, [.int 1, .int 1, .ref a12, .ref a13])), (a12, .inl (z.2 0, 12, .inl (upd (fun _ => 0) 0 x0))), (a8, .inl (z.2 0, 20, .inl (upd (fun _ => 0) 1 11))), (a9, .inl (z.2 0, 20, .inl (fun _ => 0))), (a10, .inl (z.2 0, 20, .inl (fun _ => 0)))]) := by
  refine CT.of (own := "Ballothall") (by decide +kernel) (Nat.le_of_ble_eq_true rfl) rfl (fun p e s m below meth c A ls hx hb hml hr hts hown hlocks hin hA hG hZ hP hD hS hl => ?_)
  have hl : lv_has ls 3 [(0, .ref a0), (1, .int x0)] := hl
  refine lv_iload_n hx hb d_1_46_0 rfl (lv_at hl 1 rfl) ?_
  refine lv_iconst (v := 0) hx hb d_1_46_1 (by decide +kernel) ?_
  refine lv_sipush (v := 1000) hx hb d_1_46_2 (by decide +kernel) ?_
  refine kS (As := [.int x0, .int 0, .int 1000]) (rest := []) (wr := [(a0, .inr (11, [.ref a1, .ref a2, .ref a3, .ref a4, .ref a5, .ref a6, .ref a7, .ref a8, .ref a9, .ref a10, .int 0, .int 0, .ref a11, .int 0])), (a7, .inr (1, [.int 0, .int 1, .ref a12, .ref a13])), (a12, .inl (z.2 0, 12, .inl (fun _ => 0))), (a8, .inl (z.2 0, 20, .inl (fun _ => 0))), (a9, .inl (z.2 0, 20, .inl (fun _ => 0))), (a10, .inl (z.2 0, 20, .inl (fun _ => 0)))]) (c606_B_needRange l z x0 h0 h1) hx hb hml hown hts w_876 w_874 w_875 w_1 md_519134 ⟨Nat.le_of_ble_eq_true rfl, Nat.le_of_ble_eq_true rfl⟩ hG hZ hP hD hS hA [] [0, 1, 2, 3, 4, 5] rfl rfl rfl rfl rfl hl.1 rfl (Nat.le_of_ble_eq_true rfl) d_1_46_5 ⟨Nat.le_of_ble_eq_true rfl, Nat.le_of_ble_eq_true rfl⟩ (fun u0 H locs hP hD hS => ?_)
  have hP : va_P z.1 classes [(a0, .inr (11, [.ref a1, .ref a2, .ref a3, .ref a4, .ref a5, .ref a6, .ref a7, .ref a8, .ref a9, .ref a10, .int 0, .int 0, .ref a11, .int 0])), (a7, .inr (1, [.int 0, .int 1, .ref a12, .ref a13])), (a12, .inl (z.2 0, 12, .inl (fun _ => 0))), (a8, .inl (z.2 0, 20, .inl (fun _ => 0))), (a9, .inl (z.2 0, 20, .inl (fun _ => 0))), (a10, .inl (z.2 0, 20, .inl (fun _ => 0)))] H := hP
  have hD : va_D A [(a0, .inr (11, [.ref a1, .ref a2, .ref a3, .ref a4, .ref a5, .ref a6, .ref a7, .ref a8, .ref a9, .ref a10, .int 0, .int 0, .ref a11, .int 0])), (a7, .inr (1, [.int 0, .int 1, .ref a12, .ref a13])), (a12, .inl (z.2 0, 12, .inl (fun _ => 0))), (a8, .inl (z.2 0, 20, .inl (fun _ => 0))), (a9, .inl (z.2 0, 20, .inl (fun _ => 0))), (a10, .inl (z.2 0, 20, .inl (fun _ => 0)))] := hD
  refine W.eq (g2 := F0 m 8 ls []) rfl ?_
  refine lv_aload_n hx hb d_1_46_8 rfl (lv_at hl 0 rfl) ?_
  refine va_get (D := z.1) (ci := 11) (v := .ref a7) (C := "Ballothall") (T := TX11) (N := 14) hx hb hts iX11 hown hG.1 hP 0 rfl rfl 6 (by decide) (hts _ w_412) (fun _ h9 => h9) rfl d_1_46_9 ?_
  refine va_getN (D := z.1) (ci := 1) (v := .int 0) (C := "Ballothall$Council") (T := TX1) (N := 4) hx hb hts iX1 hown hG.1 hP 1 rfl rfl 0 (by decide) (va_Nw.use rfl (hG.2.1 _ n_391 rfl)) (fun _ h9 => h9) rfl d_1_46_12 ?_
  refine lv_iconst (v := 1) hx hb d_1_46_15 (by decide +kernel) ?_
  refine lv_iadd hx hb d_1_46_16 ?_
  refine nrm (x1 := 1) (by decide +kernel) ?_
  refine lv_bipush (v := 12) hx hb d_1_46_17 (by decide +kernel) ?_
  refine kS (As := [.int 1, .int 12]) (rest := []) (wr := [(a0, .inr (11, [.ref a1, .ref a2, .ref a3, .ref a4, .ref a5, .ref a6, .ref a7, .ref a8, .ref a9, .ref a10, .int 0, .int 0, .ref a11, .int 0])), (a7, .inr (1, [.int 0, .int 1, .ref a12, .ref a13])), (a12, .inl (z.2 0, 12, .inl (fun _ => 0))), (a8, .inl (z.2 0, 20, .inl (fun _ => 0))), (a9, .inl (z.2 0, 20, .inl (fun _ => 0))), (a10, .inl (z.2 0, 20, .inl (fun _ => 0)))]) (c607_B_needRoom l z ) hx hb hml hown hts w_771 w_769 w_770 w_1 md_ec9fa9 ⟨Nat.le_of_ble_eq_true rfl, Nat.le_of_ble_eq_true rfl⟩ hG hZ hP hD hS hA [] [0, 1, 2, 3, 4, 5] rfl rfl rfl rfl rfl hl.1 rfl (Nat.le_of_ble_eq_true rfl) d_1_46_19 ⟨Nat.le_of_ble_eq_true rfl, Nat.le_of_ble_eq_true rfl⟩ (fun u1 H locs hP hD hS => ?_)
  have hP : va_P z.1 classes [(a0, .inr (11, [.ref a1, .ref a2, .ref a3, .ref a4, .ref a5, .ref a6, .ref a7, .ref a8, .ref a9, .ref a10, .int 0, .int 0, .ref a11, .int 0])), (a7, .inr (1, [.int 0, .int 1, .ref a12, .ref a13])), (a12, .inl (z.2 0, 12, .inl (fun _ => 0))), (a8, .inl (z.2 0, 20, .inl (fun _ => 0))), (a9, .inl (z.2 0, 20, .inl (fun _ => 0))), (a10, .inl (z.2 0, 20, .inl (fun _ => 0)))] H := hP
  have hD : va_D A [(a0, .inr (11, [.ref a1, .ref a2, .ref a3, .ref a4, .ref a5, .ref a6, .ref a7, .ref a8, .ref a9, .ref a10, .int 0, .int 0, .ref a11, .int 0])), (a7, .inr (1, [.int 0, .int 1, .ref a12, .ref a13])), (a12, .inl (z.2 0, 12, .inl (fun _ => 0))), (a8, .inl (z.2 0, 20, .inl (fun _ => 0))), (a9, .inl (z.2 0, 20, .inl (fun _ => 0))), (a10, .inl (z.2 0, 20, .inl (fun _ => 0)))] := hD
  refine W.eq (g2 := F0 m 22 ls []) rfl ?_
  refine lv_aload_n hx hb d_1_46_22 rfl (lv_at hl 0 rfl) ?_
  refine va_get (D := z.1) (ci := 11) (v := .ref a7) (C := "Ballothall") (T := TX11) (N := 14) hx hb hts iX11 hown hG.1 hP 0 rfl rfl 6 (by decide) (hts _ w_412) (fun _ h9 => h9) rfl d_1_46_23 ?_
  refine lv_iload_n hx hb d_1_46_26 rfl (lv_at hl 1 rfl) ?_
  refine kVN (As := [.int x0]) (rest := []) (wr := [(a0, .inr (11, [.ref a1, .ref a2, .ref a3, .ref a4, .ref a5, .ref a6, .ref a7, .ref a8, .ref a9, .ref a10, .int 0, .int 0, .ref a11, .int 0])), (a8, .inl (z.2 0, 20, .inl (fun _ => 0))), (a9, .inl (z.2 0, 20, .inl (fun _ => 0))), (a10, .inl (z.2 0, 20, .inl (fun _ => 0)))]) (c608_Council_append l z a7 a12 a13 x0) hx hb hml hown hts w_1523 n_1520 w_1522 w_s_eb7ceb w_11 md_843631 ⟨Nat.le_of_ble_eq_true rfl, Nat.le_of_ble_eq_true rfl⟩ hG hZ hP hD hS hA 1 rfl rfl rfl [1, 2] [0, 3, 4, 5] rfl rfl rfl rfl rfl hl.1 rfl (Nat.le_of_ble_eq_true rfl) d_1_46_27 ⟨Nat.le_of_ble_eq_true rfl, Nat.le_of_ble_eq_true rfl⟩ (fun u2 H locs hP hD hS => ?_)
  have hP : va_P z.1 classes [(a0, .inr (11, [.ref a1, .ref a2, .ref a3, .ref a4, .ref a5, .ref a6, .ref a7, .ref a8, .ref a9, .ref a10, .int 0, .int 0, .ref a11, .int 0])), (a8, .inl (z.2 0, 20, .inl (fun _ => 0))), (a9, .inl (z.2 0, 20, .inl (fun _ => 0))), (a10, .inl (z.2 0, 20, .inl (fun _ => 0))), (a7, .inr (1, [.int 1, .int 1, .ref a12, .ref a13])), (a12, .inl (z.2 0, 12, .inl (upd (fun _ => 0) 0 x0)))] H := hP
  have hD : va_D A [(a0, .inr (11, [.ref a1, .ref a2, .ref a3, .ref a4, .ref a5, .ref a6, .ref a7, .ref a8, .ref a9, .ref a10, .int 0, .int 0, .ref a11, .int 0])), (a8, .inl (z.2 0, 20, .inl (fun _ => 0))), (a9, .inl (z.2 0, 20, .inl (fun _ => 0))), (a10, .inl (z.2 0, 20, .inl (fun _ => 0))), (a7, .inr (1, [.int 1, .int 1, .ref a12, .ref a13])), (a12, .inl (z.2 0, 12, .inl (upd (fun _ => 0) 0 x0)))] := hD
  refine W.eq (g2 := F0 m 30 ls [.int 0]) rfl ?_
  refine lv_istore_n (lv' := [(2, .int 0), (0, .ref a0), (1, .int x0)]) hx hb d_1_46_30 rfl hl (by decide) rfl (fun ls hl => ?_)
  refine lv_aload_n hx hb d_1_46_31 rfl (lv_at hl 1 rfl) ?_
  refine lv_bipush (v := 11) hx hb d_1_46_32 (by decide +kernel) ?_
  refine lv_iload_n hx hb d_1_46_34 rfl (lv_at hl 0 rfl) ?_
  refine lv_iconst (v := 0) hx hb d_1_46_35 (by decide +kernel) ?_
  refine kV (As := [.int 11, .int 0, .int 0]) (rest := []) (wr := [(a7, .inr (1, [.int 1, .int 1, .ref a12, .ref a13])), (a12, .inl (z.2 0, 12, .inl (upd (fun _ => 0) 0 x0)))]) (c609_B_remember l z a0 a1 a2 a3 a4 a5 a6 a7 a8 a9 a10 a11) hx hb hml hown hts w_844 w_841 w_843 w_s_b872b3 w_1 md_7af0bb ⟨Nat.le_of_ble_eq_true rfl, Nat.le_of_ble_eq_true rfl⟩ hG hZ hP hD hS hA 0 rfl rfl rfl [0, 1, 2, 3] [4, 5] rfl rfl rfl rfl rfl hl.1 rfl (Nat.le_of_ble_eq_true rfl) d_1_46_36 ⟨Nat.le_of_ble_eq_true rfl, Nat.le_of_ble_eq_true rfl⟩ (fun u3 H locs hP hD hS => ?_)
  have hP : va_P z.1 classes [(a7, .inr (1, [.int 1, .int 1, .ref a12, .ref a13])), (a12, .inl (z.2 0, 12, .inl (upd (fun _ => 0) 0 x0))), (a0, .inr (11, [.ref a1, .ref a2, .ref a3, .ref a4, .ref a5, .ref a6, .ref a7, .ref a8, .ref a9, .ref a10, .int 1, .int 1, .ref a11, .int 0])), (a8, .inl (z.2 0, 20, .inl (upd (fun _ => 0) 1 11))), (a9, .inl (z.2 0, 20, .inl (fun _ => 0))), (a10, .inl (z.2 0, 20, .inl (fun _ => 0)))] H := hP
  have hD : va_D A [(a7, .inr (1, [.int 1, .int 1, .ref a12, .ref a13])), (a12, .inl (z.2 0, 12, .inl (upd (fun _ => 0) 0 x0))), (a0, .inr (11, [.ref a1, .ref a2, .ref a3, .ref a4, .ref a5, .ref a6, .ref a7, .ref a8, .ref a9, .ref a10, .int 1, .int 1, .ref a11, .int 0])), (a8, .inl (z.2 0, 20, .inl (upd (fun _ => 0) 1 11))), (a9, .inl (z.2 0, 20, .inl (fun _ => 0))), (a10, .inl (z.2 0, 20, .inl (fun _ => 0)))] := hD
  refine W.eq (g2 := F0 m 39 ls []) rfl ?_
  refine lv_iload_n hx hb d_1_46_39 rfl (lv_at hl 0 rfl) ?_
  refine W.widen (k := 0) (n := 0) (Nat.le_of_ble_eq_true rfl) (Nat.le_of_ble_eq_true rfl) ?_
  exact W.iret hx hb hr (fun t ht hW => qk hP hD hS [2, 0, 1, 3, 4, 5] rfl ((fun k => k), (fun _ _ => none)) rfl rfl rfl ht) hS.2.2 d_1_46_40
set_option maxRecDepth 100000 in
set_option maxHeartbeats 4000000 in
theorem c611_BLaw_member (l : Launch) (z : Zz) (a0 a1 a2 a3 a4 a5 a6 a7 a8 a9 a10 a11 a12 a13 a14 : Nat) (x0 : Int32) (h0 : ¬ x0 < 0) (h1 : ¬ 1000 < x0) : HT l z ⟨"BallothallLaw", "member", "(LBallothall;I[J)I"⟩ method_38_code 4 (some .int) [(0, 9, 12, 21), (0, 9, 15, 13)] [.ref a0, .int x0, .ref a1] [(a0, .inr (11, [.ref a2, .ref a3, .ref a4, .ref a5, .ref a6, .ref a7, .ref a8, .ref a9, .ref a10, .ref a11, .int 0, .int 0, .ref a12, .int 0])), (a8, .inr (1, [.int 0, .int 1, .ref a13, .ref a14])), (a13, .inl (z.2 0, 12, .inl (fun _ => 0))), (a9, .inl (z.2 0, 20, .inl (fun _ => 0))), (a10, .inl (z.2 0, 20, .inl (fun _ => 0))), (a11, .inl (z.2 0, 20, .inl (fun _ => 0))), (a1, .inl (z.2 1, 1, .inr (.inl (fun _ => 0))))] 3 90 0 0 (fun u => some (.int 0)) (fun u => [(a0, .inr (11, [.ref a2, .ref a3, .ref a4, .ref a5, .ref a6, .ref a7, .ref a8, .ref a9, .ref a10, .ref a11, .int 1, .int 1, .ref a12, .int 0])), (a8, .inr (1, [.int 1, .int 1, .ref a13, .ref a14])), (a13, .inl (z.2 0, 12, .inl (upd (fun _ => 0) 0 x0))), (a9, .inl (z.2 0, 20, .inl (upd (fun _ => 0) 1 11))), (a10, .inl (z.2 0, 20, .inl (fun _ => 0))), (a11, .inl (z.2 0, 20, .inl (fun _ => 0))), (a1, .inl (z.2 1, 1, .inr (.inl (fun _ => 0))))]) := by
  refine HT.of (own := "BallothallLaw") (by decide +kernel) (Nat.le_of_ble_eq_true rfl) rfl (fun p e s m below meth c A ls hx hb hml hr hts hown hlocks hin hA hG hZ hP hD hS hl htab => ?_)
  have hl : lv_has ls 4 [(0, .ref a0), (1, .int x0), (2, .ref a1)] := hl
  refine lv_aload_n hx hb d_L38_0 rfl (lv_at hl 2 rfl) ?_
  refine lv_iconst (v := 0) hx hb d_L38_1 (by decide +kernel) ?_
  refine lv_aload_n hx hb d_L38_2 rfl (lv_at hl 0 rfl) ?_
  refine lv_iload_n hx hb d_L38_3 rfl (lv_at hl 1 rfl) ?_
  refine kV (As := [.int x0]) (rest := [.int 0, .ref a1]) (wr := [(a1, .inl (z.2 1, 1, .inr (.inl (fun _ => 0))))]) (c610_B_member l z a0 a2 a3 a4 a5 a6 a7 a8 a9 a10 a11 a12 a13 a14 x0 h0 h1) hx hb hml hown hts w_1519 w_1516 w_1517 w_1518 w_1 md_caa1ec ⟨Nat.le_of_ble_eq_true rfl, Nat.le_of_ble_eq_true rfl⟩ hG hZ hP hD hS hA 0 rfl rfl rfl [0, 1, 2, 3, 4, 5] [6] rfl rfl rfl rfl rfl hl.1 rfl (Nat.le_of_ble_eq_true rfl) d_L38_4 ⟨Nat.le_of_ble_eq_true rfl, Nat.le_of_ble_eq_true rfl⟩ (fun u0 H locs hP hD hS => ?_)
  have hP : va_P z.1 classes [(a1, .inl (z.2 1, 1, .inr (.inl (fun _ => 0)))), (a0, .inr (11, [.ref a2, .ref a3, .ref a4, .ref a5, .ref a6, .ref a7, .ref a8, .ref a9, .ref a10, .ref a11, .int 1, .int 1, .ref a12, .int 0])), (a8, .inr (1, [.int 1, .int 1, .ref a13, .ref a14])), (a13, .inl (z.2 0, 12, .inl (upd (fun _ => 0) 0 x0))), (a9, .inl (z.2 0, 20, .inl (upd (fun _ => 0) 1 11))), (a10, .inl (z.2 0, 20, .inl (fun _ => 0))), (a11, .inl (z.2 0, 20, .inl (fun _ => 0)))] H := hP
  have hD : va_D A [(a1, .inl (z.2 1, 1, .inr (.inl (fun _ => 0)))), (a0, .inr (11, [.ref a2, .ref a3, .ref a4, .ref a5, .ref a6, .ref a7, .ref a8, .ref a9, .ref a10, .ref a11, .int 1, .int 1, .ref a12, .int 0])), (a8, .inr (1, [.int 1, .int 1, .ref a13, .ref a14])), (a13, .inl (z.2 0, 12, .inl (upd (fun _ => 0) 0 x0))), (a9, .inl (z.2 0, 20, .inl (upd (fun _ => 0) 1 11))), (a10, .inl (z.2 0, 20, .inl (fun _ => 0))), (a11, .inl (z.2 0, 20, .inl (fun _ => 0)))] := hD
  refine W.eq (g2 := F0 m 7 ls [.int 0, .int 0, .ref a1]) rfl ?_
  refine lv_i2l (v := 0) hx hb d_L38_7 (by decide +kernel) ?_
  refine va_last hx hb hG.1 hP hD hS 0 1 rfl rfl (vin rfl) d_L38_8 (fun H locs hP hD hS => ?_)
  rw [updL_z] at hP hD
  have hP : va_P z.1 classes [(a1, .inl (z.2 1, 1, .inr (.inl (fun _ => 0)))), (a0, .inr (11, [.ref a2, .ref a3, .ref a4, .ref a5, .ref a6, .ref a7, .ref a8, .ref a9, .ref a10, .ref a11, .int 1, .int 1, .ref a12, .int 0])), (a8, .inr (1, [.int 1, .int 1, .ref a13, .ref a14])), (a13, .inl (z.2 0, 12, .inl (upd (fun _ => 0) 0 x0))), (a9, .inl (z.2 0, 20, .inl (upd (fun _ => 0) 1 11))), (a10, .inl (z.2 0, 20, .inl (fun _ => 0))), (a11, .inl (z.2 0, 20, .inl (fun _ => 0)))] H := hP
  have hD : va_D A [(a1, .inl (z.2 1, 1, .inr (.inl (fun _ => 0)))), (a0, .inr (11, [.ref a2, .ref a3, .ref a4, .ref a5, .ref a6, .ref a7, .ref a8, .ref a9, .ref a10, .ref a11, .int 1, .int 1, .ref a12, .int 0])), (a8, .inr (1, [.int 1, .int 1, .ref a13, .ref a14])), (a13, .inl (z.2 0, 12, .inl (upd (fun _ => 0) 0 x0))), (a9, .inl (z.2 0, 20, .inl (upd (fun _ => 0) 1 11))), (a10, .inl (z.2 0, 20, .inl (fun _ => 0))), (a11, .inl (z.2 0, 20, .inl (fun _ => 0)))] := hD
  refine lv_goto (tgt := 18) hx hb d_L38_9 (by decide) ?_
  refine lv_iconst (v := 0) hx hb d_L38_18 (by decide +kernel) ?_
  refine W.widen (k := 0) (n := 0) (Nat.le_of_ble_eq_true rfl) (Nat.le_of_ble_eq_true rfl) ?_
  refine vx_ret ?_
  exact W.iret hx hb hr (fun t ht hW => qk hP hD hS [1, 2, 3, 4, 5, 6, 0] rfl ((fun k => k), (fun _ _ => none)) rfl rfl rfl ht) hS.2.2 d_L38_19
set_option maxRecDepth 100000 in
set_option maxHeartbeats 4000000 in
theorem c612_BModel_isIn (l : Launch) (z : Zz) (x0 : Int32) (h0 : ¬ x0 < 0) (h1 : ¬ 1000 < x0) : CT l z ⟨"BallothallModel", "isIn", "(III)Z"⟩ prog_14_method_20_code 3 (some .boolean) [.int x0, .int 0, .int 1000] [] 0 0 0 0 (fun u => some (.int 1)) (fun u => []) := by
  refine CT.of (own := "BallothallModel") (by decide +kernel) (Nat.le_of_ble_eq_true rfl) rfl (fun p e s m below meth c A ls hx hb hml hr hts hown hlocks hin hA hG hZ hP hD hS hl => ?_)
  have hl : lv_has ls 3 [(0, .int x0), (1, .int 0), (2, .int 1000)] := hl
  refine lv_iload_n hx hb d_14_20_0 rfl (lv_at hl 0 rfl) ?_
  refine lv_iload_n hx hb d_14_20_1 rfl (lv_at hl 1 rfl) ?_
  refine lv_icmp_lt (tgt := 14) hx hb d_14_20_2 (by decide) (fun c9 => absurd c9 h0) (fun _ => ?_)
  refine lv_iload_n hx hb d_14_20_5 rfl (lv_at hl 0 rfl) ?_
  refine lv_iload_n hx hb d_14_20_6 rfl (lv_at hl 2 rfl) ?_
  refine lv_icmp_gt (tgt := 14) hx hb d_14_20_7 (by decide) (fun c9 => absurd c9 h1) (fun _ => ?_)
  refine lv_iconst (v := 1) hx hb d_14_20_10 (by decide +kernel) ?_
  refine lv_goto (tgt := 15) hx hb d_14_20_11 (by decide) ?_
  refine W.widen (k := 0) (n := 0) (Nat.le_of_ble_eq_true rfl) (Nat.le_of_ble_eq_true rfl) ?_
  exact W.zret hx hb hr rfl (fun t ht hW => qk hP hD hS [] rfl ((fun k => k), (fun _ _ => none)) rfl rfl rfl ht) hS.2.2 d_14_20_15
set_option maxRecDepth 100000 in
set_option maxHeartbeats 4000000 in
theorem c613_BModel_member (l : Launch) (z : Zz) (a0 a1 a2 a3 a4 a5 a6 a7 a8 a9 a10 a11 a12 a13 : Nat) (x0 : Int32) (h0 : ¬ x0 < 0) (h1 : ¬ 1000 < x0) : CT l z ⟨"BallothallModel", "member", "(I)I"⟩ prog_14_method_89_code 2 (some .int) [.ref a0, .int x0] [(a0, .inr (18, [.ref a1, .ref a2, .int 0, .ref a3, .int 0, .ref a4, .int 0, .null, .int 0, .null, .long 0, .int 0, .null])), (a1, .inr (17, [.int 0, .ref a5, .ref a6, .int 0, .ref a7, .ref a8, .ref a9, .null, .null, .int 0, .ref a10, .ref a11, .ref a12, .int 0, .ref a13, .int 1])), (a5, .inl (z.2 0, 8, .inl (fun _ => 0))), (a7, .inl (z.2 0, 8, .inl (fun _ => 0))), (a8, .inl (z.2 0, 8, .inl (fun _ => 0))), (a9, .inl (z.2 0, 8, .inl (fun _ => 0))), (a10, .inl (z.2 0, 16, .inl (fun _ => 0))), (a11, .inl (z.2 0, 16, .inl (fun _ => 0))), (a12, .inl (z.2 0, 16, .inl (fun _ => 0))), (a13, .inl (z.2 0, 12, .inl (fun _ => 0))), (a2, .inl (z.2 6, 20, .inr (.inr (.inr (.inr (fun _ => none))))))] 4 118 10 108 (fun u => some (.int 0)) (fun u => [(a0, .inr (18, [.ref a1, .ref a2, .int 1, .ref a3, .int 0, .ref a4, .int 0, .null, .int 0, .null, .long 0, .int 0, .null])), (a1, .inr (17, [.int 0, .ref a5, .ref a6, .int 0, .ref a7, .ref a8, .ref a9, .null, .null, .int 0, .ref a10, .ref a11, .ref a12, .int 1, .ref a13, .int 1])), (a5, .inl (z.2 0, 8, .inl (fun _ => 0))), (a7, .inl (z.2 0, 8, .inl (fun _ => 0))), (a8, .inl (z.2 0, 8, .inl (fun _ => 0))), (a9, .inl (z.2 0, 8, .inl (fun _ => 0))), (a10, .inl (z.2 0, 16, .inl (fun _ => 0))), (a11, .inl (z.2 0, 16, .inl (fun _ => 0))), (a12, .inl (z.2 0, 16, .inl (fun _ => 0))), (a13, .inl (z.2 0, 12, .inl (upd (fun _ => 0) 0 x0))), (a2, .inl (z.2 6, 20, .inr (.inr (.inr (.inr (va_up (fun _ => none) 0 (some (u.1 0))))))))]) := by
  refine CT.of (own := "BallothallModel") (by decide +kernel) (Nat.le_of_ble_eq_true rfl) rfl (fun p e s m below meth c A ls hx hb hml hr hts hown hlocks hin hA hG hZ hP hD hS hl => ?_)
  have hl : lv_has ls 2 [(0, .ref a0), (1, .int x0)] := hl
  refine lv_aload_n hx hb d_14_89_0 rfl (lv_at hl 0 rfl) ?_
  refine lv_iload_n hx hb d_14_89_1 rfl (lv_at hl 1 rfl) ?_
  refine lv_iconst (v := 0) hx hb d_14_89_2 (by decide +kernel) ?_
  refine lv_sipush (v := 1000) hx hb d_14_89_3 (by decide +kernel) ?_
  refine kS (As := [.int x0, .int 0, .int 1000]) (rest := [.ref a0]) (wr := [(a0, .inr (18, [.ref a1, .ref a2, .int 0, .ref a3, .int 0, .ref a4, .int 0, .null, .int 0, .null, .long 0, .int 0, .null])), (a1, .inr (17, [.int 0, .ref a5, .ref a6, .int 0, .ref a7, .ref a8, .ref a9, .null, .null, .int 0, .ref a10, .ref a11, .ref a12, .int 0, .ref a13, .int 1])), (a5, .inl (z.2 0, 8, .inl (fun _ => 0))), (a7, .inl (z.2 0, 8, .inl (fun _ => 0))), (a8, .inl (z.2 0, 8, .inl (fun _ => 0))), (a9, .inl (z.2 0, 8, .inl (fun _ => 0))), (a10, .inl (z.2 0, 16, .inl (fun _ => 0))), (a11, .inl (z.2 0, 16, .inl (fun _ => 0))), (a12, .inl (z.2 0, 16, .inl (fun _ => 0))), (a13, .inl (z.2 0, 12, .inl (fun _ => 0))), (a2, .inl (z.2 6, 20, .inr (.inr (.inr (.inr (fun _ => none))))))]) (c612_BModel_isIn l z x0 h0 h1) hx hb hml hown hts w_1718 w_1716 w_1717 w_12 md_bca45c ⟨Nat.le_of_ble_eq_true rfl, Nat.le_of_ble_eq_true rfl⟩ hG hZ hP hD hS hA [] [0, 1, 2, 3, 4, 5, 6, 7, 8, 9, 10] rfl rfl rfl rfl rfl hl.1 rfl (Nat.le_of_ble_eq_true rfl) d_14_89_6 ⟨Nat.le_of_ble_eq_true rfl, Nat.le_of_ble_eq_true rfl⟩ (fun u0 H locs hP hD hS => ?_)
  have hP : va_P z.1 classes [(a0, .inr (18, [.ref a1, .ref a2, .int 0, .ref a3, .int 0, .ref a4, .int 0, .null, .int 0, .null, .long 0, .int 0, .null])), (a1, .inr (17, [.int 0, .ref a5, .ref a6, .int 0, .ref a7, .ref a8, .ref a9, .null, .null, .int 0, .ref a10, .ref a11, .ref a12, .int 0, .ref a13, .int 1])), (a5, .inl (z.2 0, 8, .inl (fun _ => 0))), (a7, .inl (z.2 0, 8, .inl (fun _ => 0))), (a8, .inl (z.2 0, 8, .inl (fun _ => 0))), (a9, .inl (z.2 0, 8, .inl (fun _ => 0))), (a10, .inl (z.2 0, 16, .inl (fun _ => 0))), (a11, .inl (z.2 0, 16, .inl (fun _ => 0))), (a12, .inl (z.2 0, 16, .inl (fun _ => 0))), (a13, .inl (z.2 0, 12, .inl (fun _ => 0))), (a2, .inl (z.2 6, 20, .inr (.inr (.inr (.inr (fun _ => none))))))] H := hP
  have hD : va_D A [(a0, .inr (18, [.ref a1, .ref a2, .int 0, .ref a3, .int 0, .ref a4, .int 0, .null, .int 0, .null, .long 0, .int 0, .null])), (a1, .inr (17, [.int 0, .ref a5, .ref a6, .int 0, .ref a7, .ref a8, .ref a9, .null, .null, .int 0, .ref a10, .ref a11, .ref a12, .int 0, .ref a13, .int 1])), (a5, .inl (z.2 0, 8, .inl (fun _ => 0))), (a7, .inl (z.2 0, 8, .inl (fun _ => 0))), (a8, .inl (z.2 0, 8, .inl (fun _ => 0))), (a9, .inl (z.2 0, 8, .inl (fun _ => 0))), (a10, .inl (z.2 0, 16, .inl (fun _ => 0))), (a11, .inl (z.2 0, 16, .inl (fun _ => 0))), (a12, .inl (z.2 0, 16, .inl (fun _ => 0))), (a13, .inl (z.2 0, 12, .inl (fun _ => 0))), (a2, .inl (z.2 6, 20, .inr (.inr (.inr (.inr (fun _ => none))))))] := hD
  refine W.eq (g2 := F0 m 9 ls [.int 1, .ref a0]) rfl ?_
  refine lv_iconst (v := 1) hx hb d_14_89_9 (by decide +kernel) ?_
  refine kV (As := [.int 1, .int 1]) (rest := []) (wr := [(a1, .inr (17, [.int 0, .ref a5, .ref a6, .int 0, .ref a7, .ref a8, .ref a9, .null, .null, .int 0, .ref a10, .ref a11, .ref a12, .int 0, .ref a13, .int 1])), (a5, .inl (z.2 0, 8, .inl (fun _ => 0))), (a7, .inl (z.2 0, 8, .inl (fun _ => 0))), (a8, .inl (z.2 0, 8, .inl (fun _ => 0))), (a9, .inl (z.2 0, 8, .inl (fun _ => 0))), (a10, .inl (z.2 0, 16, .inl (fun _ => 0))), (a11, .inl (z.2 0, 16, .inl (fun _ => 0))), (a12, .inl (z.2 0, 16, .inl (fun _ => 0))), (a13, .inl (z.2 0, 12, .inl (fun _ => 0))), (a2, .inl (z.2 6, 20, .inr (.inr (.inr (.inr (fun _ => none))))))]) (c16_BModel_ends l z a0 a1 a2 a3 a4) hx hb hml hown hts w_1696 w_1693 w_1695 w_s_f8f2b7 w_12 md_77b0f8 ⟨Nat.le_of_ble_eq_true rfl, Nat.le_of_ble_eq_true rfl⟩ hG hZ hP hD hS hA 0 rfl rfl rfl [0] [1, 2, 3, 4, 5, 6, 7, 8, 9, 10] rfl rfl rfl rfl rfl hl.1 rfl (Nat.le_of_ble_eq_true rfl) d_14_89_10 ⟨Nat.le_of_ble_eq_true rfl, Nat.le_of_ble_eq_true rfl⟩ (fun u1 H locs hP hD hS => ?_)
  have hP : va_P z.1 classes [(a1, .inr (17, [.int 0, .ref a5, .ref a6, .int 0, .ref a7, .ref a8, .ref a9, .null, .null, .int 0, .ref a10, .ref a11, .ref a12, .int 0, .ref a13, .int 1])), (a5, .inl (z.2 0, 8, .inl (fun _ => 0))), (a7, .inl (z.2 0, 8, .inl (fun _ => 0))), (a8, .inl (z.2 0, 8, .inl (fun _ => 0))), (a9, .inl (z.2 0, 8, .inl (fun _ => 0))), (a10, .inl (z.2 0, 16, .inl (fun _ => 0))), (a11, .inl (z.2 0, 16, .inl (fun _ => 0))), (a12, .inl (z.2 0, 16, .inl (fun _ => 0))), (a13, .inl (z.2 0, 12, .inl (fun _ => 0))), (a2, .inl (z.2 6, 20, .inr (.inr (.inr (.inr (fun _ => none)))))), (a0, .inr (18, [.ref a1, .ref a2, .int 0, .ref a3, .int 0, .ref a4, .int 0, .null, .int 0, .null, .long 0, .int 0, .null]))] H := hP
  have hD : va_D A [(a1, .inr (17, [.int 0, .ref a5, .ref a6, .int 0, .ref a7, .ref a8, .ref a9, .null, .null, .int 0, .ref a10, .ref a11, .ref a12, .int 0, .ref a13, .int 1])), (a5, .inl (z.2 0, 8, .inl (fun _ => 0))), (a7, .inl (z.2 0, 8, .inl (fun _ => 0))), (a8, .inl (z.2 0, 8, .inl (fun _ => 0))), (a9, .inl (z.2 0, 8, .inl (fun _ => 0))), (a10, .inl (z.2 0, 16, .inl (fun _ => 0))), (a11, .inl (z.2 0, 16, .inl (fun _ => 0))), (a12, .inl (z.2 0, 16, .inl (fun _ => 0))), (a13, .inl (z.2 0, 12, .inl (fun _ => 0))), (a2, .inl (z.2 6, 20, .inr (.inr (.inr (.inr (fun _ => none)))))), (a0, .inr (18, [.ref a1, .ref a2, .int 0, .ref a3, .int 0, .ref a4, .int 0, .null, .int 0, .null, .long 0, .int 0, .null]))] := hD
  refine W.eq (g2 := F0 m 13 ls [.int 0]) rfl ?_
  refine lv_if_ne (tgt := 41) hx hb d_14_89_13 (by decide) (fun c9 => absurd (by decide +kernel) c9) (fun _ => ?_)
  refine lv_aload_n hx hb d_14_89_16 rfl (lv_at hl 0 rfl) ?_
  refine lv_aload_n hx hb d_14_89_17 rfl (lv_at hl 0 rfl) ?_
  refine va_get (D := z.1) (ci := 18) (v := .ref a1) (C := "BallothallModel") (T := TX18) (N := 13) hx hb hts iX18 hown hG.1 hP 10 rfl rfl 0 (by decide) (hts _ w_1645) (fun _ h9 => h9) rfl d_14_89_18 ?_
  refine va_getN (D := z.1) (ci := 17) (v := .int 0) (C := "BallothallModel$State") (T := TX17) (N := 16) hx hb hts iX17 hown hG.1 hP 0 rfl rfl 13 (by decide) (va_Nw.use rfl (hG.2.1 _ n_1606 rfl)) (fun _ h9 => h9) rfl d_14_89_21 ?_
  refine lv_bipush (v := 12) hx hb d_14_89_24 (by decide +kernel) ?_
  refine lv_icmp_ge (tgt := 33) hx hb d_14_89_26 (by decide) (fun c9 => absurd c9 (by decide +kernel)) (fun _ => ?_)
  refine lv_iconst (v := 1) hx hb d_14_89_29 (by decide +kernel) ?_
  refine lv_goto (tgt := 34) hx hb d_14_89_30 (by decide) ?_
  refine lv_iconst (v := 2) hx hb d_14_89_34 (by decide +kernel) ?_
  refine kV (As := [.int 1, .int 2]) (rest := []) (wr := [(a1, .inr (17, [.int 0, .ref a5, .ref a6, .int 0, .ref a7, .ref a8, .ref a9, .null, .null, .int 0, .ref a10, .ref a11, .ref a12, .int 0, .ref a13, .int 1])), (a5, .inl (z.2 0, 8, .inl (fun _ => 0))), (a7, .inl (z.2 0, 8, .inl (fun _ => 0))), (a8, .inl (z.2 0, 8, .inl (fun _ => 0))), (a9, .inl (z.2 0, 8, .inl (fun _ => 0))), (a10, .inl (z.2 0, 16, .inl (fun _ => 0))), (a11, .inl (z.2 0, 16, .inl (fun _ => 0))), (a12, .inl (z.2 0, 16, .inl (fun _ => 0))), (a13, .inl (z.2 0, 12, .inl (fun _ => 0))), (a2, .inl (z.2 6, 20, .inr (.inr (.inr (.inr (fun _ => none))))))]) (c126_BModel_ends l z a0 a1 a2 a3 a4) hx hb hml hown hts w_1696 w_1693 w_1695 w_s_f8f2b7 w_12 md_77b0f8 ⟨Nat.le_of_ble_eq_true rfl, Nat.le_of_ble_eq_true rfl⟩ hG hZ hP hD hS hA 10 rfl rfl rfl [10] [0, 1, 2, 3, 4, 5, 6, 7, 8, 9] rfl rfl rfl rfl rfl hl.1 rfl (Nat.le_of_ble_eq_true rfl) d_14_89_35 ⟨Nat.le_of_ble_eq_true rfl, Nat.le_of_ble_eq_true rfl⟩ (fun u2 H locs hP hD hS => ?_)
  have hP : va_P z.1 classes [(a1, .inr (17, [.int 0, .ref a5, .ref a6, .int 0, .ref a7, .ref a8, .ref a9, .null, .null, .int 0, .ref a10, .ref a11, .ref a12, .int 0, .ref a13, .int 1])), (a5, .inl (z.2 0, 8, .inl (fun _ => 0))), (a7, .inl (z.2 0, 8, .inl (fun _ => 0))), (a8, .inl (z.2 0, 8, .inl (fun _ => 0))), (a9, .inl (z.2 0, 8, .inl (fun _ => 0))), (a10, .inl (z.2 0, 16, .inl (fun _ => 0))), (a11, .inl (z.2 0, 16, .inl (fun _ => 0))), (a12, .inl (z.2 0, 16, .inl (fun _ => 0))), (a13, .inl (z.2 0, 12, .inl (fun _ => 0))), (a2, .inl (z.2 6, 20, .inr (.inr (.inr (.inr (fun _ => none)))))), (a0, .inr (18, [.ref a1, .ref a2, .int 0, .ref a3, .int 0, .ref a4, .int 0, .null, .int 0, .null, .long 0, .int 0, .null]))] H := hP
  have hD : va_D A [(a1, .inr (17, [.int 0, .ref a5, .ref a6, .int 0, .ref a7, .ref a8, .ref a9, .null, .null, .int 0, .ref a10, .ref a11, .ref a12, .int 0, .ref a13, .int 1])), (a5, .inl (z.2 0, 8, .inl (fun _ => 0))), (a7, .inl (z.2 0, 8, .inl (fun _ => 0))), (a8, .inl (z.2 0, 8, .inl (fun _ => 0))), (a9, .inl (z.2 0, 8, .inl (fun _ => 0))), (a10, .inl (z.2 0, 16, .inl (fun _ => 0))), (a11, .inl (z.2 0, 16, .inl (fun _ => 0))), (a12, .inl (z.2 0, 16, .inl (fun _ => 0))), (a13, .inl (z.2 0, 12, .inl (fun _ => 0))), (a2, .inl (z.2 6, 20, .inr (.inr (.inr (.inr (fun _ => none)))))), (a0, .inr (18, [.ref a1, .ref a2, .int 0, .ref a3, .int 0, .ref a4, .int 0, .null, .int 0, .null, .long 0, .int 0, .null]))] := hD
  refine W.eq (g2 := F0 m 38 ls [.int 0]) rfl ?_
  refine lv_if_eq (tgt := 43) hx hb d_14_89_38 (by decide) (fun _ => ?_) (fun c9 => absurd (by decide +kernel) c9)
  refine lv_aload_n hx hb d_14_89_43 rfl (lv_at hl 0 rfl) ?_
  refine kV (As := []) (rest := []) (wr := []) (c23_BModel_keeps l z a0 a1 a2 a3 a4 a5 a6 a7 a8 a9 a10 a11 a12 a13) hx hb hml hown hts w_1700 w_1697 w_1699 w_s_6545fc w_12 md_85dc6a ⟨Nat.le_of_ble_eq_true rfl, Nat.le_of_ble_eq_true rfl⟩ hG hZ hP hD hS hA 10 rfl rfl rfl [10, 0, 1, 2, 3, 4, 5, 6, 7, 8, 9] [] rfl rfl rfl rfl rfl hl.1 rfl (Nat.le_of_ble_eq_true rfl) d_14_89_44 ⟨Nat.le_of_ble_eq_true rfl, Nat.le_of_ble_eq_true rfl⟩ (fun u3 H locs hP hD hS => ?_)
  have hP : va_P z.1 classes [(a0, .inr (18, [.ref a1, .ref a2, .int 1, .ref a3, .int 0, .ref a4, .int 0, .null, .int 0, .null, .long 0, .int 0, .null])), (a1, .inr (17, [.int 0, .ref a5, .ref a6, .int 0, .ref a7, .ref a8, .ref a9, .null, .null, .int 0, .ref a10, .ref a11, .ref a12, .int 0, .ref a13, .int 1])), (a5, .inl (z.2 0, 8, .inl (fun _ => 0))), (a7, .inl (z.2 0, 8, .inl (fun _ => 0))), (a8, .inl (z.2 0, 8, .inl (fun _ => 0))), (a9, .inl (z.2 0, 8, .inl (fun _ => 0))), (a10, .inl (z.2 0, 16, .inl (fun _ => 0))), (a11, .inl (z.2 0, 16, .inl (fun _ => 0))), (a12, .inl (z.2 0, 16, .inl (fun _ => 0))), (a13, .inl (z.2 0, 12, .inl (fun _ => 0))), (a2, .inl (z.2 6, 20, .inr (.inr (.inr (.inr (va_up (fun _ => none) 0 (some (u3.1 0))))))))] H := hP
  have hD : va_D A [(a0, .inr (18, [.ref a1, .ref a2, .int 1, .ref a3, .int 0, .ref a4, .int 0, .null, .int 0, .null, .long 0, .int 0, .null])), (a1, .inr (17, [.int 0, .ref a5, .ref a6, .int 0, .ref a7, .ref a8, .ref a9, .null, .null, .int 0, .ref a10, .ref a11, .ref a12, .int 0, .ref a13, .int 1])), (a5, .inl (z.2 0, 8, .inl (fun _ => 0))), (a7, .inl (z.2 0, 8, .inl (fun _ => 0))), (a8, .inl (z.2 0, 8, .inl (fun _ => 0))), (a9, .inl (z.2 0, 8, .inl (fun _ => 0))), (a10, .inl (z.2 0, 16, .inl (fun _ => 0))), (a11, .inl (z.2 0, 16, .inl (fun _ => 0))), (a12, .inl (z.2 0, 16, .inl (fun _ => 0))), (a13, .inl (z.2 0, 12, .inl (fun _ => 0))), (a2, .inl (z.2 6, 20, .inr (.inr (.inr (.inr (va_up (fun _ => none) 0 (some (u3.1 0))))))))] := hD
  refine W.eq (g2 := F0 m 47 ls []) rfl ?_
  refine lv_aload_n hx hb d_14_89_47 rfl (lv_at hl 0 rfl) ?_
  refine va_get (D := z.1) (ci := 18) (v := .ref a1) (C := "BallothallModel") (T := TX18) (N := 13) hx hb hts iX18 hown hG.1 hP 0 rfl rfl 0 (by decide) (hts _ w_1645) (fun _ h9 => h9) rfl d_14_89_48 ?_
  refine va_getN (D := z.1) (ci := 17) (v := .ref a13) (C := "BallothallModel$State") (T := TX17) (N := 16) hx hb hts iX17 hown hG.1 hP 1 rfl rfl 14 (by decide) (va_Nw.use rfl (hG.2.1 _ n_1608 rfl)) (fun _ h9 => h9) rfl d_14_89_51 ?_
  refine lv_aload_n hx hb d_14_89_54 rfl (lv_at hl 0 rfl) ?_
  refine va_get (D := z.1) (ci := 18) (v := .ref a1) (C := "BallothallModel") (T := TX18) (N := 13) hx hb hts iX18 hown hG.1 hP 0 rfl rfl 0 (by decide) (hts _ w_1645) (fun _ h9 => h9) rfl d_14_89_55 ?_
  refine va_getN (D := z.1) (ci := 17) (v := .int 0) (C := "BallothallModel$State") (T := TX17) (N := 16) hx hb hts iX17 hown hG.1 hP 1 rfl rfl 13 (by decide) (va_Nw.use rfl (hG.2.1 _ n_1606 rfl)) (fun _ h9 => h9) rfl d_14_89_58 ?_
  refine lv_iload_n hx hb d_14_89_61 rfl (lv_at hl 1 rfl) ?_
  refine va_iast hx hb hG.1 hP hD hS 9 0 rfl rfl (vin rfl) d_14_89_62 (fun H locs hP hD hS => ?_)
  have hP : va_P z.1 classes [(a0, .inr (18, [.ref a1, .ref a2, .int 1, .ref a3, .int 0, .ref a4, .int 0, .null, .int 0, .null, .long 0, .int 0, .null])), (a1, .inr (17, [.int 0, .ref a5, .ref a6, .int 0, .ref a7, .ref a8, .ref a9, .null, .null, .int 0, .ref a10, .ref a11, .ref a12, .int 0, .ref a13, .int 1])), (a5, .inl (z.2 0, 8, .inl (fun _ => 0))), (a7, .inl (z.2 0, 8, .inl (fun _ => 0))), (a8, .inl (z.2 0, 8, .inl (fun _ => 0))), (a9, .inl (z.2 0, 8, .inl (fun _ => 0))), (a10, .inl (z.2 0, 16, .inl (fun _ => 0))), (a11, .inl (z.2 0, 16, .inl (fun _ => 0))), (a12, .inl (z.2 0, 16, .inl (fun _ => 0))), (a13, .inl (z.2 0, 12, .inl (upd (fun _ => 0) 0 x0))), (a2, .inl (z.2 6, 20, .inr (.inr (.inr (.inr (va_up (fun _ => none) 0 (some (u3.1 0))))))))] H := hP
  have hD : va_D A [(a0, .inr (18, [.ref a1, .ref a2, .int 1, .ref a3, .int 0, .ref a4, .int 0, .null, .int 0, .null, .long 0, .int 0, .null])), (a1, .inr (17, [.int 0, .ref a5, .ref a6, .int 0, .ref a7, .ref a8, .ref a9, .null, .null, .int 0, .ref a10, .ref a11, .ref a12, .int 0, .ref a13, .int 1])), (a5, .inl (z.2 0, 8, .inl (fun _ => 0))), (a7, .inl (z.2 0, 8, .inl (fun _ => 0))), (a8, .inl (z.2 0, 8, .inl (fun _ => 0))), (a9, .inl (z.2 0, 8, .inl (fun _ => 0))), (a10, .inl (z.2 0, 16, .inl (fun _ => 0))), (a11, .inl (z.2 0, 16, .inl (fun _ => 0))), (a12, .inl (z.2 0, 16, .inl (fun _ => 0))), (a13, .inl (z.2 0, 12, .inl (upd (fun _ => 0) 0 x0))), (a2, .inl (z.2 6, 20, .inr (.inr (.inr (.inr (va_up (fun _ => none) 0 (some (u3.1 0))))))))] := hD
  refine lv_aload_n hx hb d_14_89_63 rfl (lv_at hl 0 rfl) ?_
  refine va_get (D := z.1) (ci := 18) (v := .ref a1) (C := "BallothallModel") (T := TX18) (N := 13) hx hb hts iX18 hown hG.1 hP 0 rfl rfl 0 (by decide) (hts _ w_1645) (fun _ h9 => h9) rfl d_14_89_64 ?_
  refine lv_dup hx hb d_14_89_67 rfl ?_
  refine va_getN (D := z.1) (ci := 17) (v := .int 0) (C := "BallothallModel$State") (T := TX17) (N := 16) hx hb hts iX17 hown hG.1 hP 1 rfl rfl 13 (by decide) (va_Nw.use rfl (hG.2.1 _ n_1606 rfl)) (fun _ h9 => h9) rfl d_14_89_68 ?_
  refine lv_iconst (v := 1) hx hb d_14_89_71 (by decide +kernel) ?_
  refine lv_iadd hx hb d_14_89_72 ?_
  refine nrm (x1 := 1) (by decide +kernel) ?_
  refine va_putN (D := z.1) (ci := 17) (v := .int 1) (ty := .int) (C := "BallothallModel$State") (T := TX17) (N := 16) hx hb hts iX17 tyX17 tyX17_ok nmX17 hown hG.1 hP hD hS 1 rfl rfl 13 (by decide) (va_Nw.use rfl (hG.2.1 _ n_1606 rfl)) (fun _ h9 => h9) rfl (by decide +kernel) rfl rfl (Nat.le_of_ble_eq_true rfl) d_14_89_73 (fun H locs hP hD hS => ?_)
  have hP : va_P z.1 classes [(a0, .inr (18, [.ref a1, .ref a2, .int 1, .ref a3, .int 0, .ref a4, .int 0, .null, .int 0, .null, .long 0, .int 0, .null])), (a1, .inr (17, [.int 0, .ref a5, .ref a6, .int 0, .ref a7, .ref a8, .ref a9, .null, .null, .int 0, .ref a10, .ref a11, .ref a12, .int 1, .ref a13, .int 1])), (a5, .inl (z.2 0, 8, .inl (fun _ => 0))), (a7, .inl (z.2 0, 8, .inl (fun _ => 0))), (a8, .inl (z.2 0, 8, .inl (fun _ => 0))), (a9, .inl (z.2 0, 8, .inl (fun _ => 0))), (a10, .inl (z.2 0, 16, .inl (fun _ => 0))), (a11, .inl (z.2 0, 16, .inl (fun _ => 0))), (a12, .inl (z.2 0, 16, .inl (fun _ => 0))), (a13, .inl (z.2 0, 12, .inl (upd (fun _ => 0) 0 x0))), (a2, .inl (z.2 6, 20, .inr (.inr (.inr (.inr (va_up (fun _ => none) 0 (some (u3.1 0))))))))] H := hP
  have hD : va_D A [(a0, .inr (18, [.ref a1, .ref a2, .int 1, .ref a3, .int 0, .ref a4, .int 0, .null, .int 0, .null, .long 0, .int 0, .null])), (a1, .inr (17, [.int 0, .ref a5, .ref a6, .int 0, .ref a7, .ref a8, .ref a9, .null, .null, .int 0, .ref a10, .ref a11, .ref a12, .int 1, .ref a13, .int 1])), (a5, .inl (z.2 0, 8, .inl (fun _ => 0))), (a7, .inl (z.2 0, 8, .inl (fun _ => 0))), (a8, .inl (z.2 0, 8, .inl (fun _ => 0))), (a9, .inl (z.2 0, 8, .inl (fun _ => 0))), (a10, .inl (z.2 0, 16, .inl (fun _ => 0))), (a11, .inl (z.2 0, 16, .inl (fun _ => 0))), (a12, .inl (z.2 0, 16, .inl (fun _ => 0))), (a13, .inl (z.2 0, 12, .inl (upd (fun _ => 0) 0 x0))), (a2, .inl (z.2 6, 20, .inr (.inr (.inr (.inr (va_up (fun _ => none) 0 (some (u3.1 0))))))))] := hD
  refine lv_aload_n hx hb d_14_89_76 rfl (lv_at hl 0 rfl) ?_
  refine va_get (D := z.1) (ci := 18) (v := .ref a1) (C := "BallothallModel") (T := TX18) (N := 13) hx hb hts iX18 hown hG.1 hP 0 rfl rfl 0 (by decide) (hts _ w_1645) (fun _ h9 => h9) rfl d_14_89_77 ?_
  refine va_getN (D := z.1) (ci := 17) (v := .int 1) (C := "BallothallModel$State") (T := TX17) (N := 16) hx hb hts iX17 hown hG.1 hP 1 rfl rfl 13 (by decide) (va_Nw.use rfl (hG.2.1 _ n_1606 rfl)) (fun _ h9 => h9) rfl d_14_89_80 ?_
  refine lv_iconst (v := 1) hx hb d_14_89_83 (by decide +kernel) ?_
  refine lv_isub hx hb d_14_89_84 ?_
  refine nrm (x1 := 0) (by decide +kernel) ?_
  refine W.widen (k := 10) (n := 108) (Nat.le_of_ble_eq_true rfl) (Nat.le_of_ble_eq_true rfl) ?_
  exact W.iret hx hb hr (fun t ht hW => qk hP hD hS [0, 1, 2, 3, 4, 5, 6, 7, 8, 9, 10] rfl ((fun k => ([(u3.1 0)] : List Nat).getD k 0), (fun _ _ => none)) rfl rfl rfl ht) hS.2.2 d_14_89_85
set_option maxRecDepth 100000 in
set_option maxHeartbeats 4000000 in
theorem c614_B_needRange (l : Launch) (z : Zz) (hl0 : l.stackTraces = false) (x0 : Int32) (h0 : x0 < 1) : XT l z ⟨"Ballothall", "needRange", "(III)V"⟩ prog_1_method_57_code 3 none [.int x0, .int 1, .int 12000] [] 6 98 1 6 "java/lang/IllegalArgumentException" := by
  refine XT.of (own := "Ballothall") (by decide +kernel) (Nat.le_of_ble_eq_true rfl) rfl (fun p e s m below meth c A ls hx hb hml hr hts hown hlocks hin hA hG hZ hP hD hS hl hnt => ?_)
  have hl : lv_has ls 3 [(0, .int x0), (1, .int 1), (2, .int 12000)] := hl
  refine lv_iload_n hx hb d_1_57_0 rfl (lv_at hl 0 rfl) ?_
  refine lv_iload_n hx hb d_1_57_1 rfl (lv_at hl 1 rfl) ?_
  refine lv_icmp_lt (tgt := 10) hx hb d_1_57_2 (by decide) (fun _ => ?_) (fun c9 => absurd h0 c9)
  exact x_newW (text := "out of range") hl0 hx hb hml hown hts hlocks hnt hG hZ hS hl.1 (by decide +kernel) w_877 w_21 (by decide) xa_310_a xa_310_b d_1_57_10 d_1_57_13 d_1_57_14 d_1_57_17 d_1_57_20 ⟨Nat.le_of_ble_eq_true rfl, Nat.le_of_ble_eq_true rfl, Nat.le_of_ble_eq_true rfl, Nat.le_of_ble_eq_true rfl⟩ (Nat.le_of_ble_eq_true rfl) (Nat.le_of_ble_eq_true rfl) (Nat.le_of_ble_eq_true rfl)
set_option maxRecDepth 100000 in
set_option maxHeartbeats 4000000 in
theorem c615_B_setQuota (l : Launch) (z : Zz) (hl0 : l.stackTraces = false) (a0 : Nat) (x0 : Int32) (h0 : x0 < 1) : XT l z ⟨"Ballothall", "setQuota", "(I)I"⟩ prog_1_method_47_code 3 (some .int) [.ref a0, .int x0] [] 7 128 1 6 "java/lang/IllegalArgumentException" := by
  refine XT.of (own := "Ballothall") (by decide +kernel) (Nat.le_of_ble_eq_true rfl) rfl (fun p e s m below meth c A ls hx hb hml hr hts hown hlocks hin hA hG hZ hP hD hS hl hnt => ?_)
  have hl : lv_has ls 3 [(0, .ref a0), (1, .int x0)] := hl
  refine lv_iload_n hx hb d_1_47_0 rfl (lv_at hl 1 rfl) ?_
  refine lv_iconst (v := 1) hx hb d_1_47_1 (by decide +kernel) ?_
  refine lv_sipush (v := 12000) hx hb d_1_47_2 (by decide +kernel) ?_
  exact xS (As := [.int x0, .int 1, .int 12000]) (rest := []) (wr := []) (c614_B_needRange l z hl0 x0 h0) hx hb hml hown hts w_876 w_874 w_875 w_1 md_519134 ⟨Nat.le_of_ble_eq_true rfl, Nat.le_of_ble_eq_true rfl⟩ hG hZ hP hD hS hA [] [] rfl rfl rfl rfl rfl hl.1 rfl (Nat.le_of_ble_eq_true rfl) d_1_47_5 ⟨Nat.le_of_ble_eq_true rfl, Nat.le_of_ble_eq_true rfl⟩ (fun q9 ce9 H locs hP hD hS h7 h8 h9 => x_out hnt hlocks hS h7 h8 h9 (Nat.le_of_ble_eq_true rfl) (Nat.le_of_ble_eq_true rfl))
set_option maxRecDepth 100000 in
set_option maxHeartbeats 4000000 in
theorem c616_BLaw_setQuota (l : Launch) (z : Zz) (hl0 : l.stackTraces = false) (a0 a1 a2 a3 a4 a5 a6 a7 a8 a9 a10 a11 a12 : Nat) (x0 : Int32) (h0 : x0 < 1) : HT l z ⟨"BallothallLaw", "setQuota", "(LBallothall;I[J)I"⟩ method_39_code 4 (some .int) [(0, 9, 12, 21)] [.ref a0, .int x0, .ref a1] [(a0, .inr (11, [.ref a2, .ref a3, .ref a4, .ref a5, .ref a6, .ref a7, .ref a8, .ref a9, .ref a10, .ref a11, .int 0, .int 0, .ref a12, .int 0]))] 8 158 1 6 (fun u => some (.int 1)) (fun u => [(a0, .inr (11, [.ref a2, .ref a3, .ref a4, .ref a5, .ref a6, .ref a7, .ref a8, .ref a9, .ref a10, .ref a11, .int 0, .int 0, .ref a12, .int 0]))]) := by
  refine HT.of (own := "BallothallLaw") (by decide +kernel) (Nat.le_of_ble_eq_true rfl) rfl (fun p e s m below meth c A ls hx hb hml hr hts hown hlocks hin hA hG hZ hP hD hS hl htab => ?_)
  have hl : lv_has ls 4 [(0, .ref a0), (1, .int x0), (2, .ref a1)] := hl
  refine lv_aload_n hx hb d_L39_0 rfl (lv_at hl 2 rfl) ?_
  refine lv_iconst (v := 0) hx hb d_L39_1 (by decide +kernel) ?_
  refine lv_aload_n hx hb d_L39_2 rfl (lv_at hl 0 rfl) ?_
  refine lv_iload_n hx hb d_L39_3 rfl (lv_at hl 1 rfl) ?_
  refine xV (As := [.int x0]) (rest := [.int 0, .ref a1]) (wr := [(a0, .inr (11, [.ref a2, .ref a3, .ref a4, .ref a5, .ref a6, .ref a7, .ref a8, .ref a9, .ref a10, .ref a11, .int 0, .int 0, .ref a12, .int 0]))]) (c615_B_setQuota l z hl0 a0 x0 h0) hx hb hml hown hts w_1530 w_1527 w_1528 w_1529 w_1 md_dc78b4 ⟨Nat.le_of_ble_eq_true rfl, Nat.le_of_ble_eq_true rfl⟩ hG hZ hP hD hS hA 0 rfl rfl rfl [] [0] rfl rfl rfl rfl rfl hl.1 rfl (Nat.le_of_ble_eq_true rfl) d_L39_4 ⟨Nat.le_of_ble_eq_true rfl, Nat.le_of_ble_eq_true rfl⟩ (fun q0 ce9 H locs hP hD hS h7 h8 h9 => ?_)
  have hP : va_P z.1 classes [(a0, .inr (11, [.ref a2, .ref a3, .ref a4, .ref a5, .ref a6, .ref a7, .ref a8, .ref a9, .ref a10, .ref a11, .int 0, .int 0, .ref a12, .int 0]))] H := hP
  have hD : va_D A [(a0, .inr (11, [.ref a2, .ref a3, .ref a4, .ref a5, .ref a6, .ref a7, .ref a8, .ref a9, .ref a10, .ref a11, .int 0, .int 0, .ref a12, .int 0]))] := hD
  refine vx_catch hown [] ⟨0, 9, 12, 21⟩ [] (htab.trans rfl) (fun _ h9 => absurd h9 List.not_mem_nil) rfl (by decide) (hts _ w_850) (va_Nw.use rfl (hG.2.1 _ n_879 rfl)) h7 h8 h9 ?_
  refine lv_astore_n (lv' := [(3, .ref q0), (0, .ref a0), (1, .int x0), (2, .ref a1)]) hx hb d_L39_12 rfl hl (by decide) rfl (fun ls hl => ?_)
  refine lv_iconst (v := 1) hx hb d_L39_13 (by decide +kernel) ?_
  refine W.widen (k := 1) (n := 6) (Nat.le_of_ble_eq_true rfl) (Nat.le_of_ble_eq_true rfl) ?_
  refine vx_ret ?_
  exact W.iret hx hb hr (fun t ht hW => qk hP hD hS [0] rfl ((fun k => k), (fun _ _ => none)) rfl rfl rfl ht) hS.2.2 d_L39_14
set_option maxRecDepth 100000 in
set_option maxHeartbeats 4000000 in
theorem c617_BModel_isIn (l : Launch) (z : Zz) (x0 : Int32) (h0 : x0 < 1) : CT l z ⟨"BallothallModel", "isIn", "(III)Z"⟩ prog_14_method_20_code 3 (some .boolean) [.int x0, .int 1, .int 12000] [] 0 0 0 0 (fun u => some (.int 0)) (fun u => []) := by
  refine CT.of (own := "BallothallModel") (by decide +kernel) (Nat.le_of_ble_eq_true rfl) rfl (fun p e s m below meth c A ls hx hb hml hr hts hown hlocks hin hA hG hZ hP hD hS hl => ?_)
  have hl : lv_has ls 3 [(0, .int x0), (1, .int 1), (2, .int 12000)] := hl
  refine lv_iload_n hx hb d_14_20_0 rfl (lv_at hl 0 rfl) ?_
  refine lv_iload_n hx hb d_14_20_1 rfl (lv_at hl 1 rfl) ?_
  refine lv_icmp_lt (tgt := 14) hx hb d_14_20_2 (by decide) (fun _ => ?_) (fun c9 => absurd h0 c9)
  refine lv_iconst (v := 0) hx hb d_14_20_14 (by decide +kernel) ?_
  refine W.widen (k := 0) (n := 0) (Nat.le_of_ble_eq_true rfl) (Nat.le_of_ble_eq_true rfl) ?_
  exact W.zret hx hb hr rfl (fun t ht hW => qk hP hD hS [] rfl ((fun k => k), (fun _ _ => none)) rfl rfl rfl ht) hS.2.2 d_14_20_15
set_option maxRecDepth 100000 in
set_option maxHeartbeats 4000000 in
theorem c618_BModel_setQuota (l : Launch) (z : Zz) (a0 a1 a2 a3 a4 : Nat) (x0 : Int32) (h0 : x0 < 1) : CT l z ⟨"BallothallModel", "setQuota", "(I)I"⟩ prog_14_method_90_code 3 (some .int) [.ref a0, .int x0] [(a0, .inr (18, [.ref a1, .ref a2, .int 0, .ref a3, .int 0, .ref a4, .int 0, .null, .int 0, .null, .long 0, .int 0, .null]))] 1 30 0 0 (fun u => some (.int 0)) (fun u => [(a0, .inr (18, [.ref a1, .ref a2, .int 0, .ref a3, .int 0, .ref a4, .int 1, .null, .int 0, .null, .long 0, .int 0, .null]))]) := by
  refine CT.of (own := "BallothallModel") (by decide +kernel) (Nat.le_of_ble_eq_true rfl) rfl (fun p e s m below meth c A ls hx hb hml hr hts hown hlocks hin hA hG hZ hP hD hS hl => ?_)
  have hl : lv_has ls 3 [(0, .ref a0), (1, .int x0)] := hl
  refine lv_aload_n hx hb d_14_90_0 rfl (lv_at hl 0 rfl) ?_
  refine lv_iload_n hx hb d_14_90_1 rfl (lv_at hl 1 rfl) ?_
  refine lv_iconst (v := 1) hx hb d_14_90_2 (by decide +kernel) ?_
  refine lv_sipush (v := 12000) hx hb d_14_90_3 (by decide +kernel) ?_
  refine kS (As := [.int x0, .int 1, .int 12000]) (rest := [.ref a0]) (wr := [(a0, .inr (18, [.ref a1, .ref a2, .int 0, .ref a3, .int 0, .ref a4, .int 0, .null, .int 0, .null, .long 0, .int 0, .null]))]) (c617_BModel_isIn l z x0 h0) hx hb hml hown hts w_1718 w_1716 w_1717 w_12 md_bca45c ⟨Nat.le_of_ble_eq_true rfl, Nat.le_of_ble_eq_true rfl⟩ hG hZ hP hD hS hA [] [0] rfl rfl rfl rfl rfl hl.1 rfl (Nat.le_of_ble_eq_true rfl) d_14_90_6 ⟨Nat.le_of_ble_eq_true rfl, Nat.le_of_ble_eq_true rfl⟩ (fun u0 H locs hP hD hS => ?_)
  have hP : va_P z.1 classes [(a0, .inr (18, [.ref a1, .ref a2, .int 0, .ref a3, .int 0, .ref a4, .int 0, .null, .int 0, .null, .long 0, .int 0, .null]))] H := hP
  have hD : va_D A [(a0, .inr (18, [.ref a1, .ref a2, .int 0, .ref a3, .int 0, .ref a4, .int 0, .null, .int 0, .null, .long 0, .int 0, .null]))] := hD
  refine W.eq (g2 := F0 m 9 ls [.int 0, .ref a0]) rfl ?_
  refine lv_iconst (v := 1) hx hb d_14_90_9 (by decide +kernel) ?_
  refine kV (As := [.int 0, .int 1]) (rest := []) (wr := []) (c31_BModel_ends l z a0 a1 a2 a3 a4) hx hb hml hown hts w_1696 w_1693 w_1695 w_s_f8f2b7 w_12 md_77b0f8 ⟨Nat.le_of_ble_eq_true rfl, Nat.le_of_ble_eq_true rfl⟩ hG hZ hP hD hS hA 0 rfl rfl rfl [0] [] rfl rfl rfl rfl rfl hl.1 rfl (Nat.le_of_ble_eq_true rfl) d_14_90_10 ⟨Nat.le_of_ble_eq_true rfl, Nat.le_of_ble_eq_true rfl⟩ (fun u1 H locs hP hD hS => ?_)
  have hP : va_P z.1 classes [(a0, .inr (18, [.ref a1, .ref a2, .int 0, .ref a3, .int 0, .ref a4, .int 1, .null, .int 0, .null, .long 0, .int 0, .null]))] H := hP
  have hD : va_D A [(a0, .inr (18, [.ref a1, .ref a2, .int 0, .ref a3, .int 0, .ref a4, .int 1, .null, .int 0, .null, .long 0, .int 0, .null]))] := hD
  refine W.eq (g2 := F0 m 13 ls [.int 1]) rfl ?_
  refine lv_if_eq (tgt := 18) hx hb d_14_90_13 (by decide) (fun c9 => absurd c9 (by decide +kernel)) (fun _ => ?_)
  refine lv_iconst (v := 0) hx hb d_14_90_16 (by decide +kernel) ?_
  refine W.widen (k := 0) (n := 0) (Nat.le_of_ble_eq_true rfl) (Nat.le_of_ble_eq_true rfl) ?_
  exact W.iret hx hb hr (fun t ht hW => qk hP hD hS [0] rfl ((fun k => k), (fun _ _ => none)) rfl rfl rfl ht) hS.2.2 d_14_90_17
set_option maxRecDepth 100000 in
set_option maxHeartbeats 4000000 in
theorem c619_B_needRange (l : Launch) (z : Zz) (hl0 : l.stackTraces = false) (x0 : Int32) (h0 : ¬ x0 < 1) (h1 : 12000 < x0) : XT l z ⟨"Ballothall", "needRange", "(III)V"⟩ prog_1_method_57_code 3 none [.int x0, .int 1, .int 12000] [] 6 98 1 6 "java/lang/IllegalArgumentException" := by
  refine XT.of (own := "Ballothall") (by decide +kernel) (Nat.le_of_ble_eq_true rfl) rfl (fun p e s m below meth c A ls hx hb hml hr hts hown hlocks hin hA hG hZ hP hD hS hl hnt => ?_)
  have hl : lv_has ls 3 [(0, .int x0), (1, .int 1), (2, .int 12000)] := hl
  refine lv_iload_n hx hb d_1_57_0 rfl (lv_at hl 0 rfl) ?_
  refine lv_iload_n hx hb d_1_57_1 rfl (lv_at hl 1 rfl) ?_
  refine lv_icmp_lt (tgt := 10) hx hb d_1_57_2 (by decide) (fun c9 => absurd c9 h0) (fun _ => ?_)
  refine lv_iload_n hx hb d_1_57_5 rfl (lv_at hl 0 rfl) ?_
  refine lv_iload_n hx hb d_1_57_6 rfl (lv_at hl 2 rfl) ?_
  refine lv_icmp_le (tgt := 21) hx hb d_1_57_7 (by decide) (fun c9 => absurd c9 (Int32.not_le.mpr h1)) (fun _ => ?_)
  exact x_newW (text := "out of range") hl0 hx hb hml hown hts hlocks hnt hG hZ hS hl.1 (by decide +kernel) w_877 w_21 (by decide) xa_310_a xa_310_b d_1_57_10 d_1_57_13 d_1_57_14 d_1_57_17 d_1_57_20 ⟨Nat.le_of_ble_eq_true rfl, Nat.le_of_ble_eq_true rfl, Nat.le_of_ble_eq_true rfl, Nat.le_of_ble_eq_true rfl⟩ (Nat.le_of_ble_eq_true rfl) (Nat.le_of_ble_eq_true rfl) (Nat.le_of_ble_eq_true rfl)
set_option maxRecDepth 100000 in
set_option maxHeartbeats 4000000 in
theorem c620_B_setQuota (l : Launch) (z : Zz) (hl0 : l.stackTraces = false) (a0 : Nat) (x0 : Int32) (h0 : ¬ x0 < 1) (h1 : 12000 < x0) : XT l z ⟨"Ballothall", "setQuota", "(I)I"⟩ prog_1_method_47_code 3 (some .int) [.ref a0, .int x0] [] 7 128 1 6 "java/lang/IllegalArgumentException" := by
  refine XT.of (own := "Ballothall") (by decide +kernel) (Nat.le_of_ble_eq_true rfl) rfl (fun p e s m below meth c A ls hx hb hml hr hts hown hlocks hin hA hG hZ hP hD hS hl hnt => ?_)
  have hl : lv_has ls 3 [(0, .ref a0), (1, .int x0)] := hl
  refine lv_iload_n hx hb d_1_47_0 rfl (lv_at hl 1 rfl) ?_
  refine lv_iconst (v := 1) hx hb d_1_47_1 (by decide +kernel) ?_
  refine lv_sipush (v := 12000) hx hb d_1_47_2 (by decide +kernel) ?_
  exact xS (As := [.int x0, .int 1, .int 12000]) (rest := []) (wr := []) (c619_B_needRange l z hl0 x0 h0 h1) hx hb hml hown hts w_876 w_874 w_875 w_1 md_519134 ⟨Nat.le_of_ble_eq_true rfl, Nat.le_of_ble_eq_true rfl⟩ hG hZ hP hD hS hA [] [] rfl rfl rfl rfl rfl hl.1 rfl (Nat.le_of_ble_eq_true rfl) d_1_47_5 ⟨Nat.le_of_ble_eq_true rfl, Nat.le_of_ble_eq_true rfl⟩ (fun q9 ce9 H locs hP hD hS h7 h8 h9 => x_out hnt hlocks hS h7 h8 h9 (Nat.le_of_ble_eq_true rfl) (Nat.le_of_ble_eq_true rfl))
set_option maxRecDepth 100000 in
set_option maxHeartbeats 4000000 in
theorem c621_BLaw_setQuota (l : Launch) (z : Zz) (hl0 : l.stackTraces = false) (a0 a1 a2 a3 a4 a5 a6 a7 a8 a9 a10 a11 a12 : Nat) (x0 : Int32) (h0 : ¬ x0 < 1) (h1 : 12000 < x0) : HT l z ⟨"BallothallLaw", "setQuota", "(LBallothall;I[J)I"⟩ method_39_code 4 (some .int) [(0, 9, 12, 21)] [.ref a0, .int x0, .ref a1] [(a0, .inr (11, [.ref a2, .ref a3, .ref a4, .ref a5, .ref a6, .ref a7, .ref a8, .ref a9, .ref a10, .ref a11, .int 0, .int 0, .ref a12, .int 0]))] 8 158 1 6 (fun u => some (.int 1)) (fun u => [(a0, .inr (11, [.ref a2, .ref a3, .ref a4, .ref a5, .ref a6, .ref a7, .ref a8, .ref a9, .ref a10, .ref a11, .int 0, .int 0, .ref a12, .int 0]))]) := by
  refine HT.of (own := "BallothallLaw") (by decide +kernel) (Nat.le_of_ble_eq_true rfl) rfl (fun p e s m below meth c A ls hx hb hml hr hts hown hlocks hin hA hG hZ hP hD hS hl htab => ?_)
  have hl : lv_has ls 4 [(0, .ref a0), (1, .int x0), (2, .ref a1)] := hl
  refine lv_aload_n hx hb d_L39_0 rfl (lv_at hl 2 rfl) ?_
  refine lv_iconst (v := 0) hx hb d_L39_1 (by decide +kernel) ?_
  refine lv_aload_n hx hb d_L39_2 rfl (lv_at hl 0 rfl) ?_
  refine lv_iload_n hx hb d_L39_3 rfl (lv_at hl 1 rfl) ?_
  refine xV (As := [.int x0]) (rest := [.int 0, .ref a1]) (wr := [(a0, .inr (11, [.ref a2, .ref a3, .ref a4, .ref a5, .ref a6, .ref a7, .ref a8, .ref a9, .ref a10, .ref a11, .int 0, .int 0, .ref a12, .int 0]))]) (c620_B_setQuota l z hl0 a0 x0 h0 h1) hx hb hml hown hts w_1530 w_1527 w_1528 w_1529 w_1 md_dc78b4 ⟨Nat.le_of_ble_eq_true rfl, Nat.le_of_ble_eq_true rfl⟩ hG hZ hP hD hS hA 0 rfl rfl rfl [] [0] rfl rfl rfl rfl rfl hl.1 rfl (Nat.le_of_ble_eq_true rfl) d_L39_4 ⟨Nat.le_of_ble_eq_true rfl, Nat.le_of_ble_eq_true rfl⟩ (fun q0 ce9 H locs hP hD hS h7 h8 h9 => ?_)
  have hP : va_P z.1 classes [(a0, .inr (11, [.ref a2, .ref a3, .ref a4, .ref a5, .ref a6, .ref a7, .ref a8, .ref a9, .ref a10, .ref a11, .int 0, .int 0, .ref a12, .int 0]))] H := hP
  have hD : va_D A [(a0, .inr (11, [.ref a2, .ref a3, .ref a4, .ref a5, .ref a6, .ref a7, .ref a8, .ref a9, .ref a10, .ref a11, .int 0, .int 0, .ref a12, .int 0]))] := hD
  refine vx_catch hown [] ⟨0, 9, 12, 21⟩ [] (htab.trans rfl) (fun _ h9 => absurd h9 List.not_mem_nil) rfl (by decide) (hts _ w_850) (va_Nw.use rfl (hG.2.1 _ n_879 rfl)) h7 h8 h9 ?_
  refine lv_astore_n (lv' := [(3, .ref q0), (0, .ref a0), (1, .int x0), (2, .ref a1)]) hx hb d_L39_12 rfl hl (by decide) rfl (fun ls hl => ?_)
  refine lv_iconst (v := 1) hx hb d_L39_13 (by decide +kernel) ?_
  refine W.widen (k := 1) (n := 6) (Nat.le_of_ble_eq_true rfl) (Nat.le_of_ble_eq_true rfl) ?_
  refine vx_ret ?_
  exact W.iret hx hb hr (fun t ht hW => qk hP hD hS [0] rfl ((fun k => k), (fun _ _ => none)) rfl rfl rfl ht) hS.2.2 d_L39_14
set_option maxRecDepth 100000 in
set_option maxHeartbeats 4000000 in
theorem c622_BModel_isIn (l : Launch) (z : Zz) (x0 : Int32) (h0 : ¬ x0 < 1) (h1 : 12000 < x0) : CT l z ⟨"BallothallModel", "isIn", "(III)Z"⟩ prog_14_method_20_code 3 (some .boolean) [.int x0, .int 1, .int 12000] [] 0 0 0 0 (fun u => some (.int 0)) (fun u => []) := by
  refine CT.of (own := "BallothallModel") (by decide +kernel) (Nat.le_of_ble_eq_true rfl) rfl (fun p e s m below meth c A ls hx hb hml hr hts hown hlocks hin hA hG hZ hP hD hS hl => ?_)
  have hl : lv_has ls 3 [(0, .int x0), (1, .int 1), (2, .int 12000)] := hl
  refine lv_iload_n hx hb d_14_20_0 rfl (lv_at hl 0 rfl) ?_
  refine lv_iload_n hx hb d_14_20_1 rfl (lv_at hl 1 rfl) ?_
  refine lv_icmp_lt (tgt := 14) hx hb d_14_20_2 (by decide) (fun c9 => absurd c9 h0) (fun _ => ?_)
  refine lv_iload_n hx hb d_14_20_5 rfl (lv_at hl 0 rfl) ?_
  refine lv_iload_n hx hb d_14_20_6 rfl (lv_at hl 2 rfl) ?_
  refine lv_icmp_gt (tgt := 14) hx hb d_14_20_7 (by decide) (fun _ => ?_) (fun c9 => absurd h1 c9)
  refine lv_iconst (v := 0) hx hb d_14_20_14 (by decide +kernel) ?_
  refine W.widen (k := 0) (n := 0) (Nat.le_of_ble_eq_true rfl) (Nat.le_of_ble_eq_true rfl) ?_
  exact W.zret hx hb hr rfl (fun t ht hW => qk hP hD hS [] rfl ((fun k => k), (fun _ _ => none)) rfl rfl rfl ht) hS.2.2 d_14_20_15
set_option maxRecDepth 100000 in
set_option maxHeartbeats 4000000 in
theorem c623_BModel_setQuota (l : Launch) (z : Zz) (a0 a1 a2 a3 a4 : Nat) (x0 : Int32) (h0 : ¬ x0 < 1) (h1 : 12000 < x0) : CT l z ⟨"BallothallModel", "setQuota", "(I)I"⟩ prog_14_method_90_code 3 (some .int) [.ref a0, .int x0] [(a0, .inr (18, [.ref a1, .ref a2, .int 0, .ref a3, .int 0, .ref a4, .int 0, .null, .int 0, .null, .long 0, .int 0, .null]))] 1 30 0 0 (fun u => some (.int 0)) (fun u => [(a0, .inr (18, [.ref a1, .ref a2, .int 0, .ref a3, .int 0, .ref a4, .int 1, .null, .int 0, .null, .long 0, .int 0, .null]))]) := by
  refine CT.of (own := "BallothallModel") (by decide +kernel) (Nat.le_of_ble_eq_true rfl) rfl (fun p e s m below meth c A ls hx hb hml hr hts hown hlocks hin hA hG hZ hP hD hS hl => ?_)
  have hl : lv_has ls 3 [(0, .ref a0), (1, .int x0)] := hl
  refine lv_aload_n hx hb d_14_90_0 rfl (lv_at hl 0 rfl) ?_
  refine lv_iload_n hx hb d_14_90_1 rfl (lv_at hl 1 rfl) ?_
  refine lv_iconst (v := 1) hx hb d_14_90_2 (by decide +kernel) ?_
  refine lv_sipush (v := 12000) hx hb d_14_90_3 (by decide +kernel) ?_
  refine kS (As := [.int x0, .int 1, .int 12000]) (rest := [.ref a0]) (wr := [(a0, .inr (18, [.ref a1, .ref a2, .int 0, .ref a3, .int 0, .ref a4, .int 0, .null, .int 0, .null, .long 0, .int 0, .null]))]) (c622_BModel_isIn l z x0 h0 h1) hx hb hml hown hts w_1718 w_1716 w_1717 w_12 md_bca45c ⟨Nat.le_of_ble_eq_true rfl, Nat.le_of_ble_eq_true rfl⟩ hG hZ hP hD hS hA [] [0] rfl rfl rfl rfl rfl hl.1 rfl (Nat.le_of_ble_eq_true rfl) d_14_90_6 ⟨Nat.le_of_ble_eq_true rfl, Nat.le_of_ble_eq_true rfl⟩ (fun u0 H locs hP hD hS => ?_)
  have hP : va_P z.1 classes [(a0, .inr (18, [.ref a1, .ref a2, .int 0, .ref a3, .int 0, .ref a4, .int 0, .null, .int 0, .null, .long 0, .int 0, .null]))] H := hP
  have hD : va_D A [(a0, .inr (18, [.ref a1, .ref a2, .int 0, .ref a3, .int 0, .ref a4, .int 0, .null, .int 0, .null, .long 0, .int 0, .null]))] := hD
  refine W.eq (g2 := F0 m 9 ls [.int 0, .ref a0]) rfl ?_
  refine lv_iconst (v := 1) hx hb d_14_90_9 (by decide +kernel) ?_
  refine kV (As := [.int 0, .int 1]) (rest := []) (wr := []) (c31_BModel_ends l z a0 a1 a2 a3 a4) hx hb hml hown hts w_1696 w_1693 w_1695 w_s_f8f2b7 w_12 md_77b0f8 ⟨Nat.le_of_ble_eq_true rfl, Nat.le_of_ble_eq_true rfl⟩ hG hZ hP hD hS hA 0 rfl rfl rfl [0] [] rfl rfl rfl rfl rfl hl.1 rfl (Nat.le_of_ble_eq_true rfl) d_14_90_10 ⟨Nat.le_of_ble_eq_true rfl, Nat.le_of_ble_eq_true rfl⟩ (fun u1 H locs hP hD hS => ?_)
  have hP : va_P z.1 classes [(a0, .inr (18, [.ref a1, .ref a2, .int 0, .ref a3, .int 0, .ref a4, .int 1, .null, .int 0, .null, .long 0, .int 0, .null]))] H := hP
  have hD : va_D A [(a0, .inr (18, [.ref a1, .ref a2, .int 0, .ref a3, .int 0, .ref a4, .int 1, .null, .int 0, .null, .long 0, .int 0, .null]))] := hD
  refine W.eq (g2 := F0 m 13 ls [.int 1]) rfl ?_
  refine lv_if_eq (tgt := 18) hx hb d_14_90_13 (by decide) (fun c9 => absurd c9 (by decide +kernel)) (fun _ => ?_)
  refine lv_iconst (v := 0) hx hb d_14_90_16 (by decide +kernel) ?_
  refine W.widen (k := 0) (n := 0) (Nat.le_of_ble_eq_true rfl) (Nat.le_of_ble_eq_true rfl) ?_
  exact W.iret hx hb hr (fun t ht hW => qk hP hD hS [0] rfl ((fun k => k), (fun _ _ => none)) rfl rfl rfl ht) hS.2.2 d_14_90_17
set_option maxRecDepth 100000 in
set_option maxHeartbeats 4000000 in
theorem c624_B_needRange (l : Launch) (z : Zz) (x0 : Int32) (h0 : ¬ x0 < 1) (h1 : ¬ 12000 < x0) : CT l z ⟨"Ballothall", "needRange", "(III)V"⟩ prog_1_method_57_code 3 none [.int x0, .int 1, .int 12000] [] 0 0 0 0 (fun u => none) (fun u => []) := by
  refine CT.of (own := "Ballothall") (by decide +kernel) (Nat.le_of_ble_eq_true rfl) rfl (fun p e s m below meth c A ls hx hb hml hr hts hown hlocks hin hA hG hZ hP hD hS hl => ?_)
  have hl : lv_has ls 3 [(0, .int x0), (1, .int 1), (2, .int 12000)] := hl
  refine lv_iload_n hx hb d_1_57_0 rfl (lv_at hl 0 rfl) ?_
  refine lv_iload_n hx hb d_1_57_1 rfl (lv_at hl 1 rfl) ?_
  refine lv_icmp_lt (tgt := 10) hx hb d_1_57_2 (by decide) (fun c9 => absurd c9 h0) (fun _ => ?_)
  refine lv_iload_n hx hb d_1_57_5 rfl (lv_at hl 0 rfl) ?_
  refine lv_iload_n hx hb d_1_57_6 rfl (lv_at hl 2 rfl) ?_
  refine lv_icmp_le (tgt := 21) hx hb d_1_57_7 (by decide) (fun _ => ?_) (fun c9 => absurd (Int32.not_lt.mp h1) c9)
  refine W.widen (k := 0) (n := 0) (Nat.le_of_ble_eq_true rfl) (Nat.le_of_ble_eq_true rfl) ?_
  exact W.vret hx hb hr (fun t ht hW => qk hP hD hS [] rfl ((fun k => k), (fun _ _ => none)) rfl rfl rfl ht) hS.2.2 d_1_57_21
set_option maxRecDepth 100000 in
set_option maxHeartbeats 4000000 in
theorem c625_B_remember (l : Launch) (z : Zz) (a0 a1 a2 a3 a4 a5 a6 a7 a8 a9 a10 a11 : Nat) : CT l z ⟨"Ballothall", "remember", "(III)V"⟩ prog_1_method_61_code 4 none [.ref a0, .int 12, .int 0, .int 1] [(a0, .inr (11, [.ref a1, .ref a2, .ref a3, .ref a4, .ref a5, .ref a6, .ref a7, .ref a8, .ref a9, .ref a10, .int 0, .int 0, .ref a11, .int 0])), (a8, .inl (z.2 0, 20, .inl (fun _ => 0))), (a9, .inl (z.2 0, 20, .inl (fun _ => 0))), (a10, .inl (z.2 0, 20, .inl (fun _ => 0)))] 1 29 0 0 (fun u => none) (fun u => [(a0, .inr (11, [.ref a1, .ref a2, .ref a3, .ref a4, .ref a5, .ref a6, .ref a7, .ref a8, .ref a9, .ref a10, .int 1, .int 1, .ref a11, .int 0])), (a8, .inl (z.2 0, 20, .inl (upd (fun _ => 0) 1 12))), (a9, .inl (z.2 0, 20, .inl (fun _ => 0))), (a10, .inl (z.2 0, 20, .inl (upd (fun _ => 0) 1 1)))]) := by
  refine CT.of (own := "Ballothall") (by decide +kernel) (Nat.le_of_ble_eq_true rfl) rfl (fun p e s m below meth c A ls hx hb hml hr hts hown hlocks hin hA hG hZ hP hD hS hl => ?_)
  have hl : lv_has ls 4 [(0, .ref a0), (1, .int 12), (2, .int 0), (3, .int 1)] := hl
  refine lv_aload_n hx hb d_1_61_0 rfl (lv_at hl 0 rfl) ?_
  refine lv_aload_n hx hb d_1_61_1 rfl (lv_at hl 0 rfl) ?_
  refine va_get (D := z.1) (ci := 11) (v := .int 0) (C := "Ballothall") (T := TX11) (N := 14) hx hb hts iX11 hown hG.1 hP 0 rfl rfl 10 (by decide) (hts _ w_416) (fun _ h9 => h9) rfl d_1_61_2 ?_
  refine lv_iconst (v := 1) hx hb d_1_61_5 (by decide +kernel) ?_
  refine lv_iadd hx hb d_1_61_6 ?_
  refine nrm (x1 := 1) (by decide +kernel) ?_
  refine lv_bipush (v := 20) hx hb d_1_61_7 (by decide +kernel) ?_
  refine lv_irem hx hb d_1_61_9 (by decide +kernel) ?_
  refine nrm (x1 := 1) (by decide +kernel) ?_
  refine va_put (D := z.1) (ci := 11) (v := .int 1) (ty := .int) (C := "Ballothall") (T := TX11) (N := 14) hx hb hts iX11 tyX11 tyX11_ok nmX11 hown hG.1 hP hD hS 0 rfl rfl 10 (by decide) (hts _ w_416) (fun _ h9 => h9) rfl (by decide +kernel) rfl rfl (Nat.le_of_ble_eq_true rfl) d_1_61_10 (fun H locs hP hD hS => ?_)
  have hP : va_P z.1 classes [(a0, .inr (11, [.ref a1, .ref a2, .ref a3, .ref a4, .ref a5, .ref a6, .ref a7, .ref a8, .ref a9, .ref a10, .int 1, .int 0, .ref a11, .int 0])), (a8, .inl (z.2 0, 20, .inl (fun _ => 0))), (a9, .inl (z.2 0, 20, .inl (fun _ => 0))), (a10, .inl (z.2 0, 20, .inl (fun _ => 0)))] H := hP
  have hD : va_D A [(a0, .inr (11, [.ref a1, .ref a2, .ref a3, .ref a4, .ref a5, .ref a6, .ref a7, .ref a8, .ref a9, .ref a10, .int 1, .int 0, .ref a11, .int 0])), (a8, .inl (z.2 0, 20, .inl (fun _ => 0))), (a9, .inl (z.2 0, 20, .inl (fun _ => 0))), (a10, .inl (z.2 0, 20, .inl (fun _ => 0)))] := hD
  refine lv_aload_n hx hb d_1_61_13 rfl (lv_at hl 0 rfl) ?_
  refine va_get (D := z.1) (ci := 11) (v := .ref a8) (C := "Ballothall") (T := TX11) (N := 14) hx hb hts iX11 hown hG.1 hP 0 rfl rfl 7 (by decide) (hts _ w_413) (fun _ h9 => h9) rfl d_1_61_14 ?_
  refine lv_aload_n hx hb d_1_61_17 rfl (lv_at hl 0 rfl) ?_
  refine va_get (D := z.1) (ci := 11) (v := .int 1) (C := "Ballothall") (T := TX11) (N := 14) hx hb hts iX11 hown hG.1 hP 0 rfl rfl 10 (by decide) (hts _ w_416) (fun _ h9 => h9) rfl d_1_61_18 ?_
  refine lv_iload_n hx hb d_1_61_21 rfl (lv_at hl 1 rfl) ?_
  refine va_iast hx hb hG.1 hP hD hS 1 0 rfl rfl (vin rfl) d_1_61_22 (fun H locs hP hD hS => ?_)
  have hP : va_P z.1 classes [(a0, .inr (11, [.ref a1, .ref a2, .ref a3, .ref a4, .ref a5, .ref a6, .ref a7, .ref a8, .ref a9, .ref a10, .int 1, .int 0, .ref a11, .int 0])), (a8, .inl (z.2 0, 20, .inl (upd (fun _ => 0) 1 12))), (a9, .inl (z.2 0, 20, .inl (fun _ => 0))), (a10, .inl (z.2 0, 20, .inl (fun _ => 0)))] H := hP
  have hD : va_D A [(a0, .inr (11, [.ref a1, .ref a2, .ref a3, .ref a4, .ref a5, .ref a6, .ref a7, .ref a8, .ref a9, .ref a10, .int 1, .int 0, .ref a11, .int 0])), (a8, .inl (z.2 0, 20, .inl (upd (fun _ => 0) 1 12))), (a9, .inl (z.2 0, 20, .inl (fun _ => 0))), (a10, .inl (z.2 0, 20, .inl (fun _ => 0)))] := hD
  refine lv_aload_n hx hb d_1_61_23 rfl (lv_at hl 0 rfl) ?_
  refine va_get (D := z.1) (ci := 11) (v := .ref a9) (C := "Ballothall") (T := TX11) (N := 14) hx hb hts iX11 hown hG.1 hP 0 rfl rfl 8 (by decide) (hts _ w_414) (fun _ h9 => h9) rfl d_1_61_24 ?_
  refine lv_aload_n hx hb d_1_61_27 rfl (lv_at hl 0 rfl) ?_
  refine va_get (D := z.1) (ci := 11) (v := .int 1) (C := "Ballothall") (T := TX11) (N := 14) hx hb hts iX11 hown hG.1 hP 0 rfl rfl 10 (by decide) (hts _ w_416) (fun _ h9 => h9) rfl d_1_61_28 ?_
  refine lv_iload_n hx hb d_1_61_31 rfl (lv_at hl 2 rfl) ?_
  refine va_iast hx hb hG.1 hP hD hS 2 0 rfl rfl (vin rfl) d_1_61_32 (fun H locs hP hD hS => ?_)
  rw [upd_z] at hP hD
  have hP : va_P z.1 classes [(a0, .inr (11, [.ref a1, .ref a2, .ref a3, .ref a4, .ref a5, .ref a6, .ref a7, .ref a8, .ref a9, .ref a10, .int 1, .int 0, .ref a11, .int 0])), (a8, .inl (z.2 0, 20, .inl (upd (fun _ => 0) 1 12))), (a9, .inl (z.2 0, 20, .inl (fun _ => 0))), (a10, .inl (z.2 0, 20, .inl (fun _ => 0)))] H := hP
  have hD : va_D A [(a0, .inr (11, [.ref a1, .ref a2, .ref a3, .ref a4, .ref a5, .ref a6, .ref a7, .ref a8, .ref a9, .ref a10, .int 1, .int 0, .ref a11, .int 0])), (a8, .inl (z.2 0, 20, .inl (upd (fun _ => 0) 1 12))), (a9, .inl (z.2 0, 20, .inl (fun _ => 0))), (a10, .inl (z.2 0, 20, .inl (fun _ => 0)))] := hD
  refine lv_aload_n hx hb d_1_61_33 rfl (lv_at hl 0 rfl) ?_
  refine va_get (D := z.1) (ci := 11) (v := .ref a10) (C := "Ballothall") (T := TX11) (N := 14) hx hb hts iX11 hown hG.1 hP 0 rfl rfl 9 (by decide) (hts _ w_415) (fun _ h9 => h9) rfl d_1_61_34 ?_
  refine lv_aload_n hx hb d_1_61_37 rfl (lv_at hl 0 rfl) ?_
  refine va_get (D := z.1) (ci := 11) (v := .int 1) (C := "Ballothall") (T := TX11) (N := 14) hx hb hts iX11 hown hG.1 hP 0 rfl rfl 10 (by decide) (hts _ w_416) (fun _ h9 => h9) rfl d_1_61_38 ?_
  refine lv_iload_n hx hb d_1_61_41 rfl (lv_at hl 3 rfl) ?_
  refine va_iast hx hb hG.1 hP hD hS 3 0 rfl rfl (vin rfl) d_1_61_42 (fun H locs hP hD hS => ?_)
  have hP : va_P z.1 classes [(a0, .inr (11, [.ref a1, .ref a2, .ref a3, .ref a4, .ref a5, .ref a6, .ref a7, .ref a8, .ref a9, .ref a10, .int 1, .int 0, .ref a11, .int 0])), (a8, .inl (z.2 0, 20, .inl (upd (fun _ => 0) 1 12))), (a9, .inl (z.2 0, 20, .inl (fun _ => 0))), (a10, .inl (z.2 0, 20, .inl (upd (fun _ => 0) 1 1)))] H := hP
  have hD : va_D A [(a0, .inr (11, [.ref a1, .ref a2, .ref a3, .ref a4, .ref a5, .ref a6, .ref a7, .ref a8, .ref a9, .ref a10, .int 1, .int 0, .ref a11, .int 0])), (a8, .inl (z.2 0, 20, .inl (upd (fun _ => 0) 1 12))), (a9, .inl (z.2 0, 20, .inl (fun _ => 0))), (a10, .inl (z.2 0, 20, .inl (upd (fun _ => 0) 1 1)))] := hD
  refine lv_aload_n hx hb d_1_61_43 rfl (lv_at hl 0 rfl) ?_
  refine lv_aload_n hx hb d_1_61_44 rfl (lv_at hl 0 rfl) ?_
  refine va_get (D := z.1) (ci := 11) (v := .int 0) (C := "Ballothall") (T := TX11) (N := 14) hx hb hts iX11 hown hG.1 hP 0 rfl rfl 11 (by decide) (hts _ w_417) (fun _ h9 => h9) rfl d_1_61_45 ?_
  refine lv_iconst (v := 1) hx hb d_1_61_48 (by decide +kernel) ?_
  refine lv_iadd hx hb d_1_61_49 ?_
  refine nrm (x1 := 1) (by decide +kernel) ?_
  refine lv_bipush (v := 20) hx hb d_1_61_50 (by decide +kernel) ?_
  refine va_mmin hx hb (by rw [hml]; exact hl.1.symm) hown (hts _ w_845) (hts _ w_550) (hts _ w_18) (hts _ w_min) (Nat.le_of_ble_eq_true rfl) (Nat.le_of_ble_eq_true rfl) (Nat.le_of_ble_eq_true rfl) (Nat.le_of_ble_eq_true rfl) d_1_61_52 ?_
  refine nrm (x1 := 1) (by decide +kernel) ?_
  refine va_put (D := z.1) (ci := 11) (v := .int 1) (ty := .int) (C := "Ballothall") (T := TX11) (N := 14) hx hb hts iX11 tyX11 tyX11_ok nmX11 hown hG.1 hP hD hS 0 rfl rfl 11 (by decide) (hts _ w_417) (fun _ h9 => h9) rfl (by decide +kernel) rfl rfl (Nat.le_of_ble_eq_true rfl) d_1_61_55 (fun H locs hP hD hS => ?_)
  have hP : va_P z.1 classes [(a0, .inr (11, [.ref a1, .ref a2, .ref a3, .ref a4, .ref a5, .ref a6, .ref a7, .ref a8, .ref a9, .ref a10, .int 1, .int 1, .ref a11, .int 0])), (a8, .inl (z.2 0, 20, .inl (upd (fun _ => 0) 1 12))), (a9, .inl (z.2 0, 20, .inl (fun _ => 0))), (a10, .inl (z.2 0, 20, .inl (upd (fun _ => 0) 1 1)))] H := hP
  have hD : va_D A [(a0, .inr (11, [.ref a1, .ref a2, .ref a3, .ref a4, .ref a5, .ref a6, .ref a7, .ref a8, .ref a9, .ref a10, .int 1, .int 1, .ref a11, .int 0])), (a8, .inl (z.2 0, 20, .inl (upd (fun _ => 0) 1 12))), (a9, .inl (z.2 0, 20, .inl (fun _ => 0))), (a10, .inl (z.2 0, 20, .inl (upd (fun _ => 0) 1 1)))] := hD
  refine W.widen (k := 0) (n := 0) (Nat.le_of_ble_eq_true rfl) (Nat.le_of_ble_eq_true rfl) ?_
  exact W.vret hx hb hr (fun t ht hW => qk hP hD hS [0, 1, 2, 3] rfl ((fun k => k), (fun _ _ => none)) rfl rfl rfl ht) hS.2.2 d_1_61_58
set_option maxRecDepth 100000 in
set_option maxHeartbeats 4000000 in
theorem c626_B_setQuota (l : Launch) (z : Zz) (a0 a1 a2 a3 a4 a5 a6 a7 a8 a9 a10 a11 a12 a13 : Nat) (x0 : Int32) (h0 : ¬ x0 < 1) (h1 : ¬ 12000 < x0) : CT l z ⟨"Ballothall", "setQuota", "(I)I"⟩ prog_1_method_47_code 3 (some .int) [.ref a0, .int x0] [(a0, .inr (11, [.ref a1, .ref a2, .ref a3, .ref a4, .ref a5, .ref a6, .ref a7, .ref a8, .ref a9, .ref a10, .int 0, .int 0, .ref a11, .int 0])), (a7, .inr (1, [.int 0, .int 1, .ref a12, .ref a13])), (a8, .inl (z.2 0, 20, .inl (fun _ => 0))), (a9, .inl (z.2 0, 20, .inl (fun _ => 0))), (a10, .inl (z.2 0, 20, .inl (fun _ => 0)))] 2 60 0 0 (fun u => some (.int 1)) (fun u => [(a0, .inr (11, [.ref a1, .ref a2, .ref a3, .ref a4, .ref a5, .ref a6, .ref a7, .ref a8, .ref a9, .ref a10, .int 1, .int 1, .ref a11, .int 0])), (a7, .inr (1, [.int 0, .int x0, .ref a12, .ref a13])), (a8, .inl (z.2 0, 20, .inl (upd (fun _ => 0) 1 12))), (a9, .inl (z.2 0, 20, .inl (fun _ => 0))), (a10, .inl (z.2 0, 20, .inl (upd (fun _ => 0) 1 1)))]) := by
  refine CT.of (own := "Ballothall") (by decide +kernel) (Nat.le_of_ble_eq_true rfl) rfl (fun p e s m below meth c A ls hx hb hml hr hts hown hlocks hin hA hG hZ hP hD hS hl => ?_)
  have hl : lv_has ls 3 [(0, .ref a0), (1, .int x0)] := hl
  refine lv_iload_n hx hb d_1_47_0 rfl (lv_at hl 1 rfl) ?_
  refine lv_iconst (v := 1) hx hb d_1_47_1 (by decide +kernel) ?_
  refine lv_sipush (v := 12000) hx hb d_1_47_2 (by decide +kernel) ?_
  refine kS (As := [.int x0, .int 1, .int 12000]) (rest := []) (wr := [(a0, .inr (11, [.ref a1, .ref a2, .ref a3, .ref a4, .ref a5, .ref a6, .ref a7, .ref a8, .ref a9, .ref a10, .int 0, .int 0, .ref a11, .int 0])), (a7, .inr (1, [.int 0, .int 1, .ref a12, .ref a13])), (a8, .inl (z.2 0, 20, .inl (fun _ => 0))), (a9, .inl (z.2 0, 20, .inl (fun _ => 0))), (a10, .inl (z.2 0, 20, .inl (fun _ => 0)))]) (c624_B_needRange l z x0 h0 h1) hx hb hml hown hts w_876 w_874 w_875 w_1 md_519134 ⟨Nat.le_of_ble_eq_true rfl, Nat.le_of_ble_eq_true rfl⟩ hG hZ hP hD hS hA [] [0, 1, 2, 3, 4] rfl rfl rfl rfl rfl hl.1 rfl (Nat.le_of_ble_eq_true rfl) d_1_47_5 ⟨Nat.le_of_ble_eq_true rfl, Nat.le_of_ble_eq_true rfl⟩ (fun u0 H locs hP hD hS => ?_)
  have hP : va_P z.1 classes [(a0, .inr (11, [.ref a1, .ref a2, .ref a3, .ref a4, .ref a5, .ref a6, .ref a7, .ref a8, .ref a9, .ref a10, .int 0, .int 0, .ref a11, .int 0])), (a7, .inr (1, [.int 0, .int 1, .ref a12, .ref a13])), (a8, .inl (z.2 0, 20, .inl (fun _ => 0))), (a9, .inl (z.2 0, 20, .inl (fun _ => 0))), (a10, .inl (z.2 0, 20, .inl (fun _ => 0)))] H := hP
  have hD : va_D A [(a0, .inr (11, [.ref a1, .ref a2, .ref a3, .ref a4, .ref a5, .ref a6, .ref a7, .ref a8, .ref a9, .ref a10, .int 0, .int 0, .ref a11, .int 0])), (a7, .inr (1, [.int 0, .int 1, .ref a12, .ref a13])), (a8, .inl (z.2 0, 20, .inl (fun _ => 0))), (a9, .inl (z.2 0, 20, .inl (fun _ => 0))), (a10, .inl (z.2 0, 20, .inl (fun _ => 0)))] := hD
  refine W.eq (g2 := F0 m 8 ls []) rfl ?_
  refine lv_aload_n hx hb d_1_47_8 rfl (lv_at hl 0 rfl) ?_
  refine va_get (D := z.1) (ci := 11) (v := .ref a7) (C := "Ballothall") (T := TX11) (N := 14) hx hb hts iX11 hown hG.1 hP 0 rfl rfl 6 (by decide) (hts _ w_412) (fun _ h9 => h9) rfl d_1_47_9 ?_
  refine va_getN (D := z.1) (ci := 1) (v := .int 1) (C := "Ballothall$Council") (T := TX1) (N := 4) hx hb hts iX1 hown hG.1 hP 1 rfl rfl 1 (by decide) (va_Nw.use rfl (hG.2.1 _ n_393 rfl)) (fun _ h9 => h9) rfl d_1_47_12 ?_
  refine lv_istore_n (lv' := [(2, .int 1), (0, .ref a0), (1, .int x0)]) hx hb d_1_47_15 rfl hl (by decide) rfl (fun ls hl => ?_)
  refine lv_aload_n hx hb d_1_47_16 rfl (lv_at hl 1 rfl) ?_
  refine va_get (D := z.1) (ci := 11) (v := .ref a7) (C := "Ballothall") (T := TX11) (N := 14) hx hb hts iX11 hown hG.1 hP 0 rfl rfl 6 (by decide) (hts _ w_412) (fun _ h9 => h9) rfl d_1_47_17 ?_
  refine lv_iload_n hx hb d_1_47_20 rfl (lv_at hl 2 rfl) ?_
  refine va_putN (D := z.1) (ci := 1) (v := .int x0) (ty := .int) (C := "Ballothall$Council") (T := TX1) (N := 4) hx hb hts iX1 tyX1 tyX1_ok nmX1 hown hG.1 hP hD hS 1 rfl rfl 1 (by decide) (va_Nw.use rfl (hG.2.1 _ n_393 rfl)) (fun _ h9 => h9) rfl (by decide +kernel) rfl rfl (Nat.le_of_ble_eq_true rfl) d_1_47_21 (fun H locs hP hD hS => ?_)
  have hP : va_P z.1 classes [(a0, .inr (11, [.ref a1, .ref a2, .ref a3, .ref a4, .ref a5, .ref a6, .ref a7, .ref a8, .ref a9, .ref a10, .int 0, .int 0, .ref a11, .int 0])), (a7, .inr (1, [.int 0, .int x0, .ref a12, .ref a13])), (a8, .inl (z.2 0, 20, .inl (fun _ => 0))), (a9, .inl (z.2 0, 20, .inl (fun _ => 0))), (a10, .inl (z.2 0, 20, .inl (fun _ => 0)))] H := hP
  have hD : va_D A [(a0, .inr (11, [.ref a1, .ref a2, .ref a3, .ref a4, .ref a5, .ref a6, .ref a7, .ref a8, .ref a9, .ref a10, .int 0, .int 0, .ref a11, .int 0])), (a7, .inr (1, [.int 0, .int x0, .ref a12, .ref a13])), (a8, .inl (z.2 0, 20, .inl (fun _ => 0))), (a9, .inl (z.2 0, 20, .inl (fun _ => 0))), (a10, .inl (z.2 0, 20, .inl (fun _ => 0)))] := hD
  refine lv_aload_n hx hb d_1_47_24 rfl (lv_at hl 1 rfl) ?_
  refine lv_bipush (v := 12) hx hb d_1_47_25 (by decide +kernel) ?_
  refine lv_iconst (v := 0) hx hb d_1_47_27 (by decide +kernel) ?_
  refine lv_iload_n hx hb d_1_47_28 rfl (lv_at hl 0 rfl) ?_
  refine kV (As := [.int 12, .int 0, .int 1]) (rest := []) (wr := [(a7, .inr (1, [.int 0, .int x0, .ref a12, .ref a13]))]) (c625_B_remember l z a0 a1 a2 a3 a4 a5 a6 a7 a8 a9 a10 a11) hx hb hml hown hts w_844 w_841 w_843 w_s_b872b3 w_1 md_7af0bb ⟨Nat.le_of_ble_eq_true rfl, Nat.le_of_ble_eq_true rfl⟩ hG hZ hP hD hS hA 0 rfl rfl rfl [0, 2, 3, 4] [1] rfl rfl rfl rfl rfl hl.1 rfl (Nat.le_of_ble_eq_true rfl) d_1_47_29 ⟨Nat.le_of_ble_eq_true rfl, Nat.le_of_ble_eq_true rfl⟩ (fun u1 H locs hP hD hS => ?_)
  have hP : va_P z.1 classes [(a7, .inr (1, [.int 0, .int x0, .ref a12, .ref a13])), (a0, .inr (11, [.ref a1, .ref a2, .ref a3, .ref a4, .ref a5, .ref a6, .ref a7, .ref a8, .ref a9, .ref a10, .int 1, .int 1, .ref a11, .int 0])), (a8, .inl (z.2 0, 20, .inl (upd (fun _ => 0) 1 12))), (a9, .inl (z.2 0, 20, .inl (fun _ => 0))), (a10, .inl (z.2 0, 20, .inl (upd (fun _ => 0) 1 1)))] H := hP
  have hD : va_D A [(a7, .inr (1, [.int 0, .int x0, .ref a12, .ref a13])), (a0, .inr (11, [.ref a1, .ref a2, .ref a3, .ref a4, .ref a5, .ref a6, .ref a7, .ref a8, .ref a9, .ref a10, .int 1, .int 1, .ref a11, .int 0])), (a8, .inl (z.2 0, 20, .inl (upd (fun _ => 0) 1 12))), (a9, .inl (z.2 0, 20, .inl (fun _ => 0))), (a10, .inl (z.2 0, 20, .inl (upd (fun _ => 0) 1 1)))] := hD
  refine W.eq (g2 := F0 m 32 ls []) rfl ?_
  refine lv_iload_n hx hb d_1_47_32 rfl (lv_at hl 0 rfl) ?_
  refine W.widen (k := 0) (n := 0) (Nat.le_of_ble_eq_true rfl) (Nat.le_of_ble_eq_true rfl) ?_
  exact W.iret hx hb hr (fun t ht hW => qk hP hD hS [1, 0, 2, 3, 4] rfl ((fun k => k), (fun _ _ => none)) rfl rfl rfl ht) hS.2.2 d_1_47_33
set_option maxRecDepth 100000 in
set_option maxHeartbeats 4000000 in
theorem c627_BLaw_setQuota (l : Launch) (z : Zz) (a0 a1 a2 a3 a4 a5 a6 a7 a8 a9 a10 a11 a12 a13 a14 : Nat) (x0 : Int32) (h0 : ¬ x0 < 1) (h1 : ¬ 12000 < x0) : HT l z ⟨"BallothallLaw", "setQuota", "(LBallothall;I[J)I"⟩ method_39_code 4 (some .int) [(0, 9, 12, 21)] [.ref a0, .int x0, .ref a1] [(a0, .inr (11, [.ref a2, .ref a3, .ref a4, .ref a5, .ref a6, .ref a7, .ref a8, .ref a9, .ref a10, .ref a11, .int 0, .int 0, .ref a12, .int 0])), (a8, .inr (1, [.int 0, .int 1, .ref a13, .ref a14])), (a9, .inl (z.2 0, 20, .inl (fun _ => 0))), (a10, .inl (z.2 0, 20, .inl (fun _ => 0))), (a11, .inl (z.2 0, 20, .inl (fun _ => 0))), (a1, .inl (z.2 1, 1, .inr (.inl (fun _ => 0))))] 3 90 0 0 (fun u => some (.int 0)) (fun u => [(a0, .inr (11, [.ref a2, .ref a3, .ref a4, .ref a5, .ref a6, .ref a7, .ref a8, .ref a9, .ref a10, .ref a11, .int 1, .int 1, .ref a12, .int 0])), (a8, .inr (1, [.int 0, .int x0, .ref a13, .ref a14])), (a9, .inl (z.2 0, 20, .inl (upd (fun _ => 0) 1 12))), (a10, .inl (z.2 0, 20, .inl (fun _ => 0))), (a11, .inl (z.2 0, 20, .inl (upd (fun _ => 0) 1 1))), (a1, .inl (z.2 1, 1, .inr (.inl (vp_updL (fun _ => 0) 0 1))))]) := by
  refine HT.of (own := "BallothallLaw") (by decide +kernel) (Nat.le_of_ble_eq_true rfl) rfl (fun p e s m below meth c A ls hx hb hml hr hts hown hlocks hin hA hG hZ hP hD hS hl htab => ?_)
  have hl : lv_has ls 4 [(0, .ref a0), (1, .int x0), (2, .ref a1)] := hl
  refine lv_aload_n hx hb d_L39_0 rfl (lv_at hl 2 rfl) ?_
  refine lv_iconst (v := 0) hx hb d_L39_1 (by decide +kernel) ?_
  refine lv_aload_n hx hb d_L39_2 rfl (lv_at hl 0 rfl) ?_
  refine lv_iload_n hx hb d_L39_3 rfl (lv_at hl 1 rfl) ?_
  refine kV (As := [.int x0]) (rest := [.int 0, .ref a1]) (wr := [(a1, .inl (z.2 1, 1, .inr (.inl (fun _ => 0))))]) (c626_B_setQuota l z a0 a2 a3 a4 a5 a6 a7 a8 a9 a10 a11 a12 a13 a14 x0 h0 h1) hx hb hml hown hts w_1530 w_1527 w_1528 w_1529 w_1 md_dc78b4 ⟨Nat.le_of_ble_eq_true rfl, Nat.le_of_ble_eq_true rfl⟩ hG hZ hP hD hS hA 0 rfl rfl rfl [0, 1, 2, 3, 4] [5] rfl rfl rfl rfl rfl hl.1 rfl (Nat.le_of_ble_eq_true rfl) d_L39_4 ⟨Nat.le_of_ble_eq_true rfl, Nat.le_of_ble_eq_true rfl⟩ (fun u0 H locs hP hD hS => ?_)
  have hP : va_P z.1 classes [(a1, .inl (z.2 1, 1, .inr (.inl (fun _ => 0)))), (a0, .inr (11, [.ref a2, .ref a3, .ref a4, .ref a5, .ref a6, .ref a7, .ref a8, .ref a9, .ref a10, .ref a11, .int 1, .int 1, .ref a12, .int 0])), (a8, .inr (1, [.int 0, .int x0, .ref a13, .ref a14])), (a9, .inl (z.2 0, 20, .inl (upd (fun _ => 0) 1 12))), (a10, .inl (z.2 0, 20, .inl (fun _ => 0))), (a11, .inl (z.2 0, 20, .inl (upd (fun _ => 0) 1 1)))] H := hP
  have hD : va_D A [(a1, .inl (z.2 1, 1, .inr (.inl (fun _ => 0)))), (a0, .inr (11, [.ref a2, .ref a3, .ref a4, .ref a5, .ref a6, .ref a7, .ref a8, .ref a9, .ref a10, .ref a11, .int 1, .int 1, .ref a12, .int 0])), (a8, .inr (1, [.int 0, .int x0, .ref a13, .ref a14])), (a9, .inl (z.2 0, 20, .inl (upd (fun _ => 0) 1 12))), (a10, .inl (z.2 0, 20, .inl (fun _ => 0))), (a11, .inl (z.2 0, 20, .inl (upd (fun _ => 0) 1 1)))] := hD
  refine W.eq (g2 := F0 m 7 ls [.int 1, .int 0, .ref a1]) rfl ?_
  refine lv_i2l (v := 1) hx hb d_L39_7 (by decide +kernel) ?_
  refine va_last hx hb hG.1 hP hD hS 0 1 rfl rfl (vin rfl) d_L39_8 (fun H locs hP hD hS => ?_)
  have hP : va_P z.1 classes [(a1, .inl (z.2 1, 1, .inr (.inl (vp_updL (fun _ => 0) 0 1)))), (a0, .inr (11, [.ref a2, .ref a3, .ref a4, .ref a5, .ref a6, .ref a7, .ref a8, .ref a9, .ref a10, .ref a11, .int 1, .int 1, .ref a12, .int 0])), (a8, .inr (1, [.int 0, .int x0, .ref a13, .ref a14])), (a9, .inl (z.2 0, 20, .inl (upd (fun _ => 0) 1 12))), (a10, .inl (z.2 0, 20, .inl (fun _ => 0))), (a11, .inl (z.2 0, 20, .inl (upd (fun _ => 0) 1 1)))] H := hP
  have hD : va_D A [(a1, .inl (z.2 1, 1, .inr (.inl (vp_updL (fun _ => 0) 0 1)))), (a0, .inr (11, [.ref a2, .ref a3, .ref a4, .ref a5, .ref a6, .ref a7, .ref a8, .ref a9, .ref a10, .ref a11, .int 1, .int 1, .ref a12, .int 0])), (a8, .inr (1, [.int 0, .int x0, .ref a13, .ref a14])), (a9, .inl (z.2 0, 20, .inl (upd (fun _ => 0) 1 12))), (a10, .inl (z.2 0, 20, .inl (fun _ => 0))), (a11, .inl (z.2 0, 20, .inl (upd (fun _ => 0) 1 1)))] := hD
  refine lv_goto (tgt := 15) hx hb d_L39_9 (by decide) ?_
  refine lv_iconst (v := 0) hx hb d_L39_15 (by decide +kernel) ?_
  refine W.widen (k := 0) (n := 0) (Nat.le_of_ble_eq_true rfl) (Nat.le_of_ble_eq_true rfl) ?_
  refine vx_ret ?_
  exact W.iret hx hb hr (fun t ht hW => qk hP hD hS [1, 2, 3, 4, 5, 0] rfl ((fun k => k), (fun _ _ => none)) rfl rfl rfl ht) hS.2.2 d_L39_16
set_option maxRecDepth 100000 in
set_option maxHeartbeats 4000000 in
theorem c628_BModel_isIn (l : Launch) (z : Zz) (x0 : Int32) (h0 : ¬ x0 < 1) (h1 : ¬ 12000 < x0) : CT l z ⟨"BallothallModel", "isIn", "(III)Z"⟩ prog_14_method_20_code 3 (some .boolean) [.int x0, .int 1, .int 12000] [] 0 0 0 0 (fun u => some (.int 1)) (fun u => []) := by
  refine CT.of (own := "BallothallModel") (by decide +kernel) (Nat.le_of_ble_eq_true rfl) rfl (fun p e s m below meth c A ls hx hb hml hr hts hown hlocks hin hA hG hZ hP hD hS hl => ?_)
  have hl : lv_has ls 3 [(0, .int x0), (1, .int 1), (2, .int 12000)] := hl
  refine lv_iload_n hx hb d_14_20_0 rfl (lv_at hl 0 rfl) ?_
  refine lv_iload_n hx hb d_14_20_1 rfl (lv_at hl 1 rfl) ?_
  refine lv_icmp_lt (tgt := 14) hx hb d_14_20_2 (by decide) (fun c9 => absurd c9 h0) (fun _ => ?_)
  refine lv_iload_n hx hb d_14_20_5 rfl (lv_at hl 0 rfl) ?_
  refine lv_iload_n hx hb d_14_20_6 rfl (lv_at hl 2 rfl) ?_
  refine lv_icmp_gt (tgt := 14) hx hb d_14_20_7 (by decide) (fun c9 => absurd c9 h1) (fun _ => ?_)
  refine lv_iconst (v := 1) hx hb d_14_20_10 (by decide +kernel) ?_
  refine lv_goto (tgt := 15) hx hb d_14_20_11 (by decide) ?_
  refine W.widen (k := 0) (n := 0) (Nat.le_of_ble_eq_true rfl) (Nat.le_of_ble_eq_true rfl) ?_
  exact W.zret hx hb hr rfl (fun t ht hW => qk hP hD hS [] rfl ((fun k => k), (fun _ _ => none)) rfl rfl rfl ht) hS.2.2 d_14_20_15
set_option maxRecDepth 100000 in
set_option maxHeartbeats 4000000 in
theorem c629_BModel_setQuota (l : Launch) (z : Zz) (a0 a1 a2 a3 a4 a5 a6 a7 a8 a9 a10 a11 a12 a13 : Nat) (x0 : Int32) (h0 : ¬ x0 < 1) (h1 : ¬ 12000 < x0) : CT l z ⟨"BallothallModel", "setQuota", "(I)I"⟩ prog_14_method_90_code 3 (some .int) [.ref a0, .int x0] [(a0, .inr (18, [.ref a1, .ref a2, .int 0, .ref a3, .int 0, .ref a4, .int 0, .null, .int 0, .null, .long 0, .int 0, .null])), (a1, .inr (17, [.int 0, .ref a5, .ref a6, .int 0, .ref a7, .ref a8, .ref a9, .null, .null, .int 0, .ref a10, .ref a11, .ref a12, .int 0, .ref a13, .int 1])), (a5, .inl (z.2 0, 8, .inl (fun _ => 0))), (a7, .inl (z.2 0, 8, .inl (fun _ => 0))), (a8, .inl (z.2 0, 8, .inl (fun _ => 0))), (a9, .inl (z.2 0, 8, .inl (fun _ => 0))), (a10, .inl (z.2 0, 16, .inl (fun _ => 0))), (a11, .inl (z.2 0, 16, .inl (fun _ => 0))), (a12, .inl (z.2 0, 16, .inl (fun _ => 0))), (a13, .inl (z.2 0, 12, .inl (fun _ => 0))), (a2, .inl (z.2 6, 20, .inr (.inr (.inr (.inr (fun _ => none))))))] 4 118 10 108 (fun u => some (.int 1)) (fun u => [(a0, .inr (18, [.ref a1, .ref a2, .int 1, .ref a3, .int 0, .ref a4, .int 0, .null, .int 0, .null, .long 0, .int 0, .null])), (a1, .inr (17, [.int 0, .ref a5, .ref a6, .int 0, .ref a7, .ref a8, .ref a9, .null, .null, .int 0, .ref a10, .ref a11, .ref a12, .int 0, .ref a13, .int x0])), (a5, .inl (z.2 0, 8, .inl (fun _ => 0))), (a7, .inl (z.2 0, 8, .inl (fun _ => 0))), (a8, .inl (z.2 0, 8, .inl (fun _ => 0))), (a9, .inl (z.2 0, 8, .inl (fun _ => 0))), (a10, .inl (z.2 0, 16, .inl (fun _ => 0))), (a11, .inl (z.2 0, 16, .inl (fun _ => 0))), (a12, .inl (z.2 0, 16, .inl (fun _ => 0))), (a13, .inl (z.2 0, 12, .inl (fun _ => 0))), (a2, .inl (z.2 6, 20, .inr (.inr (.inr (.inr (va_up (fun _ => none) 0 (some (u.1 0))))))))]) := by
  refine CT.of (own := "BallothallModel") (by decide +kernel) (Nat.le_of_ble_eq_true rfl) rfl (fun p e s m below meth c A ls hx hb hml hr hts hown hlocks hin hA hG hZ hP hD hS hl => ?_)
  have hl : lv_has ls 3 [(0, .ref a0), (1, .int x0)] := hl
  refine lv_aload_n hx hb d_14_90_0 rfl (lv_at hl 0 rfl) ?_
  refine lv_iload_n hx hb d_14_90_1 rfl (lv_at hl 1 rfl) ?_
  refine lv_iconst (v := 1) hx hb d_14_90_2 (by decide +kernel) ?_
  refine lv_sipush (v := 12000) hx hb d_14_90_3 (by decide +kernel) ?_
  refine kS (As := [.int x0, .int 1, .int 12000]) (rest := [.ref a0]) (wr := [(a0, .inr (18, [.ref a1, .ref a2, .int 0, .ref a3, .int 0, .ref a4, .int 0, .null, .int 0, .null, .long 0, .int 0, .null])), (a1, .inr (17, [.int 0, .ref a5, .ref a6, .int 0, .ref a7, .ref a8, .ref a9, .null, .null, .int 0, .ref a10, .ref a11, .ref a12, .int 0, .ref a13, .int 1])), (a5, .inl (z.2 0, 8, .inl (fun _ => 0))), (a7, .inl (z.2 0, 8, .inl (fun _ => 0))), (a8, .inl (z.2 0, 8, .inl (fun _ => 0))), (a9, .inl (z.2 0, 8, .inl (fun _ => 0))), (a10, .inl (z.2 0, 16, .inl (fun _ => 0))), (a11, .inl (z.2 0, 16, .inl (fun _ => 0))), (a12, .inl (z.2 0, 16, .inl (fun _ => 0))), (a13, .inl (z.2 0, 12, .inl (fun _ => 0))), (a2, .inl (z.2 6, 20, .inr (.inr (.inr (.inr (fun _ => none))))))]) (c628_BModel_isIn l z x0 h0 h1) hx hb hml hown hts w_1718 w_1716 w_1717 w_12 md_bca45c ⟨Nat.le_of_ble_eq_true rfl, Nat.le_of_ble_eq_true rfl⟩ hG hZ hP hD hS hA [] [0, 1, 2, 3, 4, 5, 6, 7, 8, 9, 10] rfl rfl rfl rfl rfl hl.1 rfl (Nat.le_of_ble_eq_true rfl) d_14_90_6 ⟨Nat.le_of_ble_eq_true rfl, Nat.le_of_ble_eq_true rfl⟩ (fun u0 H locs hP hD hS => ?_)
  have hP : va_P z.1 classes [(a0, .inr (18, [.ref a1, .ref a2, .int 0, .ref a3, .int 0, .ref a4, .int 0, .null, .int 0, .null, .long 0, .int 0, .null])), (a1, .inr (17, [.int 0, .ref a5, .ref a6, .int 0, .ref a7, .ref a8, .ref a9, .null, .null, .int 0, .ref a10, .ref a11, .ref a12, .int 0, .ref a13, .int 1])), (a5, .inl (z.2 0, 8, .inl (fun _ => 0))), (a7, .inl (z.2 0, 8, .inl (fun _ => 0))), (a8, .inl (z.2 0, 8, .inl (fun _ => 0))), (a9, .inl (z.2 0, 8, .inl (fun _ => 0))), (a10, .inl (z.2 0, 16, .inl (fun _ => 0))), (a11, .inl (z.2 0, 16, .inl (fun _ => 0))), (a12, .inl (z.2 0, 16, .inl (fun _ => 0))), (a13, .inl (z.2 0, 12, .inl (fun _ => 0))), (a2, .inl (z.2 6, 20, .inr (.inr (.inr (.inr (fun _ => none))))))] H := hP
  have hD : va_D A [(a0, .inr (18, [.ref a1, .ref a2, .int 0, .ref a3, .int 0, .ref a4, .int 0, .null, .int 0, .null, .long 0, .int 0, .null])), (a1, .inr (17, [.int 0, .ref a5, .ref a6, .int 0, .ref a7, .ref a8, .ref a9, .null, .null, .int 0, .ref a10, .ref a11, .ref a12, .int 0, .ref a13, .int 1])), (a5, .inl (z.2 0, 8, .inl (fun _ => 0))), (a7, .inl (z.2 0, 8, .inl (fun _ => 0))), (a8, .inl (z.2 0, 8, .inl (fun _ => 0))), (a9, .inl (z.2 0, 8, .inl (fun _ => 0))), (a10, .inl (z.2 0, 16, .inl (fun _ => 0))), (a11, .inl (z.2 0, 16, .inl (fun _ => 0))), (a12, .inl (z.2 0, 16, .inl (fun _ => 0))), (a13, .inl (z.2 0, 12, .inl (fun _ => 0))), (a2, .inl (z.2 6, 20, .inr (.inr (.inr (.inr (fun _ => none))))))] := hD
  refine W.eq (g2 := F0 m 9 ls [.int 1, .ref a0]) rfl ?_
  refine lv_iconst (v := 1) hx hb d_14_90_9 (by decide +kernel) ?_
  refine kV (As := [.int 1, .int 1]) (rest := []) (wr := [(a1, .inr (17, [.int 0, .ref a5, .ref a6, .int 0, .ref a7, .ref a8, .ref a9, .null, .null, .int 0, .ref a10, .ref a11, .ref a12, .int 0, .ref a13, .int 1])), (a5, .inl (z.2 0, 8, .inl (fun _ => 0))), (a7, .inl (z.2 0, 8, .inl (fun _ => 0))), (a8, .inl (z.2 0, 8, .inl (fun _ => 0))), (a9, .inl (z.2 0, 8, .inl (fun _ => 0))), (a10, .inl (z.2 0, 16, .inl (fun _ => 0))), (a11, .inl (z.2 0, 16, .inl (fun _ => 0))), (a12, .inl (z.2 0, 16, .inl (fun _ => 0))), (a13, .inl (z.2 0, 12, .inl (fun _ => 0))), (a2, .inl (z.2 6, 20, .inr (.inr (.inr (.inr (fun _ => none))))))]) (c16_BModel_ends l z a0 a1 a2 a3 a4) hx hb hml hown hts w_1696 w_1693 w_1695 w_s_f8f2b7 w_12 md_77b0f8 ⟨Nat.le_of_ble_eq_true rfl, Nat.le_of_ble_eq_true rfl⟩ hG hZ hP hD hS hA 0 rfl rfl rfl [0] [1, 2, 3, 4, 5, 6, 7, 8, 9, 10] rfl rfl rfl rfl rfl hl.1 rfl (Nat.le_of_ble_eq_true rfl) d_14_90_10 ⟨Nat.le_of_ble_eq_true rfl, Nat.le_of_ble_eq_true rfl⟩ (fun u1 H locs hP hD hS => ?_)
  have hP : va_P z.1 classes [(a1, .inr (17, [.int 0, .ref a5, .ref a6, .int 0, .ref a7, .ref a8, .ref a9, .null, .null, .int 0, .ref a10, .ref a11, .ref a12, .int 0, .ref a13, .int 1])), (a5, .inl (z.2 0, 8, .inl (fun _ => 0))), (a7, .inl (z.2 0, 8, .inl (fun _ => 0))), (a8, .inl (z.2 0, 8, .inl (fun _ => 0))), (a9, .inl (z.2 0, 8, .inl (fun _ => 0))), (a10, .inl (z.2 0, 16, .inl (fun _ => 0))), (a11, .inl (z.2 0, 16, .inl (fun _ => 0))), (a12, .inl (z.2 0, 16, .inl (fun _ => 0))), (a13, .inl (z.2 0, 12, .inl (fun _ => 0))), (a2, .inl (z.2 6, 20, .inr (.inr (.inr (.inr (fun _ => none)))))), (a0, .inr (18, [.ref a1, .ref a2, .int 0, .ref a3, .int 0, .ref a4, .int 0, .null, .int 0, .null, .long 0, .int 0, .null]))] H := hP
  have hD : va_D A [(a1, .inr (17, [.int 0, .ref a5, .ref a6, .int 0, .ref a7, .ref a8, .ref a9, .null, .null, .int 0, .ref a10, .ref a11, .ref a12, .int 0, .ref a13, .int 1])), (a5, .inl (z.2 0, 8, .inl (fun _ => 0))), (a7, .inl (z.2 0, 8, .inl (fun _ => 0))), (a8, .inl (z.2 0, 8, .inl (fun _ => 0))), (a9, .inl (z.2 0, 8, .inl (fun _ => 0))), (a10, .inl (z.2 0, 16, .inl (fun _ => 0))), (a11, .inl (z.2 0, 16, .inl (fun _ => 0))), (a12, .inl (z.2 0, 16, .inl (fun _ => 0))), (a13, .inl (z.2 0, 12, .inl (fun _ => 0))), (a2, .inl (z.2 6, 20, .inr (.inr (.inr (.inr (fun _ => none)))))), (a0, .inr (18, [.ref a1, .ref a2, .int 0, .ref a3, .int 0, .ref a4, .int 0, .null, .int 0, .null, .long 0, .int 0, .null]))] := hD
  refine W.eq (g2 := F0 m 13 ls [.int 0]) rfl ?_
  refine lv_if_eq (tgt := 18) hx hb d_14_90_13 (by decide) (fun _ => ?_) (fun c9 => absurd (by decide +kernel) c9)
  refine lv_aload_n hx hb d_14_90_18 rfl (lv_at hl 0 rfl) ?_
  refine kV (As := []) (rest := []) (wr := []) (c23_BModel_keeps l z a0 a1 a2 a3 a4 a5 a6 a7 a8 a9 a10 a11 a12 a13) hx hb hml hown hts w_1700 w_1697 w_1699 w_s_6545fc w_12 md_85dc6a ⟨Nat.le_of_ble_eq_true rfl, Nat.le_of_ble_eq_true rfl⟩ hG hZ hP hD hS hA 10 rfl rfl rfl [10, 0, 1, 2, 3, 4, 5, 6, 7, 8, 9] [] rfl rfl rfl rfl rfl hl.1 rfl (Nat.le_of_ble_eq_true rfl) d_14_90_19 ⟨Nat.le_of_ble_eq_true rfl, Nat.le_of_ble_eq_true rfl⟩ (fun u2 H locs hP hD hS => ?_)
  have hP : va_P z.1 classes [(a0, .inr (18, [.ref a1, .ref a2, .int 1, .ref a3, .int 0, .ref a4, .int 0, .null, .int 0, .null, .long 0, .int 0, .null])), (a1, .inr (17, [.int 0, .ref a5, .ref a6, .int 0, .ref a7, .ref a8, .ref a9, .null, .null, .int 0, .ref a10, .ref a11, .ref a12, .int 0, .ref a13, .int 1])), (a5, .inl (z.2 0, 8, .inl (fun _ => 0))), (a7, .inl (z.2 0, 8, .inl (fun _ => 0))), (a8, .inl (z.2 0, 8, .inl (fun _ => 0))), (a9, .inl (z.2 0, 8, .inl (fun _ => 0))), (a10, .inl (z.2 0, 16, .inl (fun _ => 0))), (a11, .inl (z.2 0, 16, .inl (fun _ => 0))), (a12, .inl (z.2 0, 16, .inl (fun _ => 0))), (a13, .inl (z.2 0, 12, .inl (fun _ => 0))), (a2, .inl (z.2 6, 20, .inr (.inr (.inr (.inr (va_up (fun _ => none) 0 (some (u2.1 0))))))))] H := hP
  have hD : va_D A [(a0, .inr (18, [.ref a1, .ref a2, .int 1, .ref a3, .int 0, .ref a4, .int 0, .null, .int 0, .null, .long 0, .int 0, .null])), (a1, .inr (17, [.int 0, .ref a5, .ref a6, .int 0, .ref a7, .ref a8, .ref a9, .null, .null, .int 0, .ref a10, .ref a11, .ref a12, .int 0, .ref a13, .int 1])), (a5, .inl (z.2 0, 8, .inl (fun _ => 0))), (a7, .inl (z.2 0, 8, .inl (fun _ => 0))), (a8, .inl (z.2 0, 8, .inl (fun _ => 0))), (a9, .inl (z.2 0, 8, .inl (fun _ => 0))), (a10, .inl (z.2 0, 16, .inl (fun _ => 0))), (a11, .inl (z.2 0, 16, .inl (fun _ => 0))), (a12, .inl (z.2 0, 16, .inl (fun _ => 0))), (a13, .inl (z.2 0, 12, .inl (fun _ => 0))), (a2, .inl (z.2 6, 20, .inr (.inr (.inr (.inr (va_up (fun _ => none) 0 (some (u2.1 0))))))))] := hD
  refine W.eq (g2 := F0 m 22 ls []) rfl ?_
  refine lv_aload_n hx hb d_14_90_22 rfl (lv_at hl 0 rfl) ?_
  refine va_get (D := z.1) (ci := 18) (v := .ref a1) (C := "BallothallModel") (T := TX18) (N := 13) hx hb hts iX18 hown hG.1 hP 0 rfl rfl 0 (by decide) (hts _ w_1645) (fun _ h9 => h9) rfl d_14_90_23 ?_
  refine va_getN (D := z.1) (ci := 17) (v := .int 1) (C := "BallothallModel$State") (T := TX17) (N := 16) hx hb hts iX17 hown hG.1 hP 1 rfl rfl 15 (by decide) (va_Nw.use rfl (hG.2.1 _ n_1610 rfl)) (fun _ h9 => h9) rfl d_14_90_26 ?_
  refine lv_istore_n (lv' := [(2, .int 1), (0, .ref a0), (1, .int x0)]) hx hb d_14_90_29 rfl hl (by decide) rfl (fun ls hl => ?_)
  refine lv_aload_n hx hb d_14_90_30 rfl (lv_at hl 1 rfl) ?_
  refine va_get (D := z.1) (ci := 18) (v := .ref a1) (C := "BallothallModel") (T := TX18) (N := 13) hx hb hts iX18 hown hG.1 hP 0 rfl rfl 0 (by decide) (hts _ w_1645) (fun _ h9 => h9) rfl d_14_90_31 ?_
  refine lv_iload_n hx hb d_14_90_34 rfl (lv_at hl 2 rfl) ?_
  refine va_putN (D := z.1) (ci := 17) (v := .int x0) (ty := .int) (C := "BallothallModel$State") (T := TX17) (N := 16) hx hb hts iX17 tyX17 tyX17_ok nmX17 hown hG.1 hP hD hS 1 rfl rfl 15 (by decide) (va_Nw.use rfl (hG.2.1 _ n_1610 rfl)) (fun _ h9 => h9) rfl (by decide +kernel) rfl rfl (Nat.le_of_ble_eq_true rfl) d_14_90_35 (fun H locs hP hD hS => ?_)
  have hP : va_P z.1 classes [(a0, .inr (18, [.ref a1, .ref a2, .int 1, .ref a3, .int 0, .ref a4, .int 0, .null, .int 0, .null, .long 0, .int 0, .null])), (a1, .inr (17, [.int 0, .ref a5, .ref a6, .int 0, .ref a7, .ref a8, .ref a9, .null, .null, .int 0, .ref a10, .ref a11, .ref a12, .int 0, .ref a13, .int x0])), (a5, .inl (z.2 0, 8, .inl (fun _ => 0))), (a7, .inl (z.2 0, 8, .inl (fun _ => 0))), (a8, .inl (z.2 0, 8, .inl (fun _ => 0))), (a9, .inl (z.2 0, 8, .inl (fun _ => 0))), (a10, .inl (z.2 0, 16, .inl (fun _ => 0))), (a11, .inl (z.2 0, 16, .inl (fun _ => 0))), (a12, .inl (z.2 0, 16, .inl (fun _ => 0))), (a13, .inl (z.2 0, 12, .inl (fun _ => 0))), (a2, .inl (z.2 6, 20, .inr (.inr (.inr (.inr (va_up (fun _ => none) 0 (some (u2.1 0))))))))] H := hP
  have hD : va_D A [(a0, .inr (18, [.ref a1, .ref a2, .int 1, .ref a3, .int 0, .ref a4, .int 0, .null, .int 0, .null, .long 0, .int 0, .null])), (a1, .inr (17, [.int 0, .ref a5, .ref a6, .int 0, .ref a7, .ref a8, .ref a9, .null, .null, .int 0, .ref a10, .ref a11, .ref a12, .int 0, .ref a13, .int x0])), (a5, .inl (z.2 0, 8, .inl (fun _ => 0))), (a7, .inl (z.2 0, 8, .inl (fun _ => 0))), (a8, .inl (z.2 0, 8, .inl (fun _ => 0))), (a9, .inl (z.2 0, 8, .inl (fun _ => 0))), (a10, .inl (z.2 0, 16, .inl (fun _ => 0))), (a11, .inl (z.2 0, 16, .inl (fun _ => 0))), (a12, .inl (z.2 0, 16, .inl (fun _ => 0))), (a13, .inl (z.2 0, 12, .inl (fun _ => 0))), (a2, .inl (z.2 6, 20, .inr (.inr (.inr (.inr (va_up (fun _ => none) 0 (some (u2.1 0))))))))] := hD
  refine lv_iload_n hx hb d_14_90_38 rfl (lv_at hl 0 rfl) ?_
  refine W.widen (k := 10) (n := 108) (Nat.le_of_ble_eq_true rfl) (Nat.le_of_ble_eq_true rfl) ?_
  exact W.iret hx hb hr (fun t ht hW => qk hP hD hS [0, 1, 2, 3, 4, 5, 6, 7, 8, 9, 10] rfl ((fun k => ([(u2.1 0)] : List Nat).getD k 0), (fun _ _ => none)) rfl rfl rfl ht) hS.2.2 d_14_90_39
set_option maxRecDepth 100000 in
set_option maxHeartbeats 4000000 in
theorem c630_B_swings (l : Launch) (z : Zz) (hl0 : l.stackTraces = false) (a0 a1 a2 a3 a4 a5 a6 a7 a8 a9 a10 a11 a12 a13 : Nat) (x0 : Int32) (h0 : x0 < 0) : XT l z ⟨"Ballothall", "swings", "(I)I"⟩ prog_1_method_48_code 2 (some .int) [.ref a0, .int x0] [(a0, .inr (11, [.ref a1, .ref a2, .ref a3, .ref a4, .ref a5, .ref a6, .ref a7, .ref a8, .ref a9, .ref a10, .int 0, .int 0, .ref a11, .int 0])), (a7, .inr (1, [.int 0, .int 1, .ref a12, .ref a13]))] 7 127 1 6 "java/lang/IndexOutOfBoundsException" := by
  refine XT.of (own := "Ballothall") (by decide +kernel) (Nat.le_of_ble_eq_true rfl) rfl (fun p e s m below meth c A ls hx hb hml hr hts hown hlocks hin hA hG hZ hP hD hS hl hnt => ?_)
  have hl : lv_has ls 2 [(0, .ref a0), (1, .int x0)] := hl
  refine lv_iload_n hx hb d_1_48_0 rfl (lv_at hl 1 rfl) ?_
  refine lv_aload_n hx hb d_1_48_1 rfl (lv_at hl 0 rfl) ?_
  refine va_get (D := z.1) (ci := 11) (v := .ref a7) (C := "Ballothall") (T := TX11) (N := 14) hx hb hts iX11 hown hG.1 hP 0 rfl rfl 6 (by decide) (hts _ w_412) (fun _ h9 => h9) rfl d_1_48_2 ?_
  refine va_getN (D := z.1) (ci := 1) (v := .int 0) (C := "Ballothall$Council") (T := TX1) (N := 4) hx hb hts iX1 hown hG.1 hP 1 rfl rfl 0 (by decide) (va_Nw.use rfl (hG.2.1 _ n_391 rfl)) (fun _ h9 => h9) rfl d_1_48_5 ?_
  exact xS (As := [.int x0, .int 0]) (rest := []) (wr := [(a0, .inr (11, [.ref a1, .ref a2, .ref a3, .ref a4, .ref a5, .ref a6, .ref a7, .ref a8, .ref a9, .ref a10, .int 0, .int 0, .ref a11, .int 0])), (a7, .inr (1, [.int 0, .int 1, .ref a12, .ref a13]))]) (c26_B_needIndex l z hl0 x0 h0) hx hb hml hown hts w_857 w_855 w_856 w_1 md_6cb26b ⟨Nat.le_of_ble_eq_true rfl, Nat.le_of_ble_eq_true rfl⟩ hG hZ hP hD hS hA [] [0, 1] rfl rfl rfl rfl rfl hl.1 rfl (Nat.le_of_ble_eq_true rfl) d_1_48_8 ⟨Nat.le_of_ble_eq_true rfl, Nat.le_of_ble_eq_true rfl⟩ (fun q9 ce9 H locs hP hD hS h7 h8 h9 => x_out hnt hlocks hS h7 h8 h9 (Nat.le_of_ble_eq_true rfl) (Nat.le_of_ble_eq_true rfl))
set_option maxRecDepth 100000 in
set_option maxHeartbeats 4000000 in
theorem c631_BLaw_swings (l : Launch) (z : Zz) (hl0 : l.stackTraces = false) (a0 a1 a2 a3 a4 a5 a6 a7 a8 a9 a10 a11 a12 a13 a14 : Nat) (x0 : Int32) (h0 : x0 < 0) : HT l z ⟨"BallothallLaw", "swings", "(LBallothall;I[J)I"⟩ method_40_code 4 (some .int) [(0, 9, 12, 19)] [.ref a0, .int x0, .ref a1] [(a0, .inr (11, [.ref a2, .ref a3, .ref a4, .ref a5, .ref a6, .ref a7, .ref a8, .ref a9, .ref a10, .ref a11, .int 0, .int 0, .ref a12, .int 0])), (a8, .inr (1, [.int 0, .int 1, .ref a13, .ref a14]))] 8 156 1 6 (fun u => some (.int 1)) (fun u => []) := by
  refine HT.of (own := "BallothallLaw") (by decide +kernel) (Nat.le_of_ble_eq_true rfl) rfl (fun p e s m below meth c A ls hx hb hml hr hts hown hlocks hin hA hG hZ hP hD hS hl htab => ?_)
  have hl : lv_has ls 4 [(0, .ref a0), (1, .int x0), (2, .ref a1)] := hl
  refine lv_aload_n hx hb d_L40_0 rfl (lv_at hl 2 rfl) ?_
  refine lv_iconst (v := 0) hx hb d_L40_1 (by decide +kernel) ?_
  refine lv_aload_n hx hb d_L40_2 rfl (lv_at hl 0 rfl) ?_
  refine lv_iload_n hx hb d_L40_3 rfl (lv_at hl 1 rfl) ?_
  refine xV (As := [.int x0]) (rest := [.int 0, .ref a1]) (wr := []) (c630_B_swings l z hl0 a0 a2 a3 a4 a5 a6 a7 a8 a9 a10 a11 a12 a13 a14 x0 h0) hx hb hml hown hts w_1537 w_1534 w_1535 w_1536 w_1 md_fa578c ⟨Nat.le_of_ble_eq_true rfl, Nat.le_of_ble_eq_true rfl⟩ hG hZ hP hD hS hA 0 rfl rfl rfl [0, 1] [] rfl rfl rfl rfl rfl hl.1 rfl (Nat.le_of_ble_eq_true rfl) d_L40_4 ⟨Nat.le_of_ble_eq_true rfl, Nat.le_of_ble_eq_true rfl⟩ (fun q0 ce9 H locs hP hD hS h7 h8 h9 => ?_)
  have hP : va_P z.1 classes [] H := hP
  have hD : va_D A [] := hD
  refine vx_catch hown [] ⟨0, 9, 12, 19⟩ [] (htab.trans rfl) (fun _ h9 => absurd h9 List.not_mem_nil) rfl (by decide) (hts _ w_849) (va_Nw.use rfl (hG.2.1 _ n_860 rfl)) h7 h8 h9 ?_
  refine lv_astore_n (lv' := [(3, .ref q0), (0, .ref a0), (1, .int x0), (2, .ref a1)]) hx hb d_L40_12 rfl hl (by decide) rfl (fun ls hl => ?_)
  refine lv_iconst (v := 1) hx hb d_L40_13 (by decide +kernel) ?_
  refine W.widen (k := 1) (n := 6) (Nat.le_of_ble_eq_true rfl) (Nat.le_of_ble_eq_true rfl) ?_
  refine vx_ret ?_
  exact W.iret hx hb hr (fun t ht hW => qk hP hD hS [] rfl ((fun k => k), (fun _ _ => none)) rfl rfl rfl ht) hS.2.2 d_L40_14
set_option maxRecDepth 100000 in
set_option maxHeartbeats 4000000 in
theorem c632_BModel_swings (l : Launch) (z : Zz) (a0 a1 a2 a3 a4 a5 a6 a7 a8 a9 a10 a11 a12 a13 : Nat) (x0 : Int32) (h0 : x0 < 0) : CT l z ⟨"BallothallModel", "swings", "(I)I"⟩ prog_14_method_92_code 4 (some .int) [.ref a0, .int x0] [(a0, .inr (18, [.ref a1, .ref a2, .int 0, .ref a3, .int 0, .ref a4, .int 0, .null, .int 0, .null, .long 0, .int 0, .null])), (a1, .inr (17, [.int 0, .ref a5, .ref a6, .int 0, .ref a7, .ref a8, .ref a9, .null, .null, .int 0, .ref a10, .ref a11, .ref a12, .int 0, .ref a13, .int 1]))] 1 30 0 0 (fun u => some (.int 0)) (fun u => [(a0, .inr (18, [.ref a1, .ref a2, .int 0, .ref a3, .int 0, .ref a4, .int 1, .null, .int 0, .null, .long 0, .int 0, .null])), (a1, .inr (17, [.int 0, .ref a5, .ref a6, .int 0, .ref a7, .ref a8, .ref a9, .null, .null, .int 0, .ref a10, .ref a11, .ref a12, .int 0, .ref a13, .int 1]))]) := by
  refine CT.of (own := "BallothallModel") (by decide +kernel) (Nat.le_of_ble_eq_true rfl) rfl (fun p e s m below meth c A ls hx hb hml hr hts hown hlocks hin hA hG hZ hP hD hS hl => ?_)
  have hl : lv_has ls 4 [(0, .ref a0), (1, .int x0)] := hl
  refine lv_aload_n hx hb d_14_92_0 rfl (lv_at hl 0 rfl) ?_
  refine lv_iload_n hx hb d_14_92_1 rfl (lv_at hl 1 rfl) ?_
  refine lv_iconst (v := 0) hx hb d_14_92_2 (by decide +kernel) ?_
  refine lv_aload_n hx hb d_14_92_3 rfl (lv_at hl 0 rfl) ?_
  refine va_get (D := z.1) (ci := 18) (v := .ref a1) (C := "BallothallModel") (T := TX18) (N := 13) hx hb hts iX18 hown hG.1 hP 0 rfl rfl 0 (by decide) (hts _ w_1645) (fun _ h9 => h9) rfl d_14_92_4 ?_
  refine va_getN (D := z.1) (ci := 17) (v := .int 0) (C := "BallothallModel$State") (T := TX17) (N := 16) hx hb hts iX17 hown hG.1 hP 1 rfl rfl 13 (by decide) (va_Nw.use rfl (hG.2.1 _ n_1606 rfl)) (fun _ h9 => h9) rfl d_14_92_7 ?_
  refine lv_iconst (v := 1) hx hb d_14_92_10 (by decide +kernel) ?_
  refine lv_isub hx hb d_14_92_11 ?_
  refine nrm (x1 := (-1)) (by decide +kernel) ?_
  refine kS (As := [.int x0, .int 0, .int (-1)]) (rest := [.ref a0]) (wr := [(a0, .inr (18, [.ref a1, .ref a2, .int 0, .ref a3, .int 0, .ref a4, .int 0, .null, .int 0, .null, .long 0, .int 0, .null])), (a1, .inr (17, [.int 0, .ref a5, .ref a6, .int 0, .ref a7, .ref a8, .ref a9, .null, .null, .int 0, .ref a10, .ref a11, .ref a12, .int 0, .ref a13, .int 1]))]) (c29_BModel_isIn l z x0 h0) hx hb hml hown hts w_1718 w_1716 w_1717 w_12 md_bca45c ⟨Nat.le_of_ble_eq_true rfl, Nat.le_of_ble_eq_true rfl⟩ hG hZ hP hD hS hA [] [0, 1] rfl rfl rfl rfl rfl hl.1 rfl (Nat.le_of_ble_eq_true rfl) d_14_92_12 ⟨Nat.le_of_ble_eq_true rfl, Nat.le_of_ble_eq_true rfl⟩ (fun u0 H locs hP hD hS => ?_)
  have hP : va_P z.1 classes [(a0, .inr (18, [.ref a1, .ref a2, .int 0, .ref a3, .int 0, .ref a4, .int 0, .null, .int 0, .null, .long 0, .int 0, .null])), (a1, .inr (17, [.int 0, .ref a5, .ref a6, .int 0, .ref a7, .ref a8, .ref a9, .null, .null, .int 0, .ref a10, .ref a11, .ref a12, .int 0, .ref a13, .int 1]))] H := hP
  have hD : va_D A [(a0, .inr (18, [.ref a1, .ref a2, .int 0, .ref a3, .int 0, .ref a4, .int 0, .null, .int 0, .null, .long 0, .int 0, .null])), (a1, .inr (17, [.int 0, .ref a5, .ref a6, .int 0, .ref a7, .ref a8, .ref a9, .null, .null, .int 0, .ref a10, .ref a11, .ref a12, .int 0, .ref a13, .int 1]))] := hD
  refine W.eq (g2 := F0 m 15 ls [.int 0, .ref a0]) rfl ?_
  refine lv_iconst (v := 1) hx hb d_14_92_15 (by decide +kernel) ?_
  refine kV (As := [.int 0, .int 1]) (rest := []) (wr := [(a1, .inr (17, [.int 0, .ref a5, .ref a6, .int 0, .ref a7, .ref a8, .ref a9, .null, .null, .int 0, .ref a10, .ref a11, .ref a12, .int 0, .ref a13, .int 1]))]) (c31_BModel_ends l z a0 a1 a2 a3 a4) hx hb hml hown hts w_1696 w_1693 w_1695 w_s_f8f2b7 w_12 md_77b0f8 ⟨Nat.le_of_ble_eq_true rfl, Nat.le_of_ble_eq_true rfl⟩ hG hZ hP hD hS hA 0 rfl rfl rfl [0] [1] rfl rfl rfl rfl rfl hl.1 rfl (Nat.le_of_ble_eq_true rfl) d_14_92_16 ⟨Nat.le_of_ble_eq_true rfl, Nat.le_of_ble_eq_true rfl⟩ (fun u1 H locs hP hD hS => ?_)
  have hP : va_P z.1 classes [(a1, .inr (17, [.int 0, .ref a5, .ref a6, .int 0, .ref a7, .ref a8, .ref a9, .null, .null, .int 0, .ref a10, .ref a11, .ref a12, .int 0, .ref a13, .int 1])), (a0, .inr (18, [.ref a1, .ref a2, .int 0, .ref a3, .int 0, .ref a4, .int 1, .null, .int 0, .null, .long 0, .int 0, .null]))] H := hP
  have hD : va_D A [(a1, .inr (17, [.int 0, .ref a5, .ref a6, .int 0, .ref a7, .ref a8, .ref a9, .null, .null, .int 0, .ref a10, .ref a11, .ref a12, .int 0, .ref a13, .int 1])), (a0, .inr (18, [.ref a1, .ref a2, .int 0, .ref a3, .int 0, .ref a4, .int 1, .null, .int 0, .null, .long 0, .int 0, .null]))] := hD
  refine W.eq (g2 := F0 m 19 ls [.int 1]) rfl ?_
  refine lv_if_eq (tgt := 24) hx hb d_14_92_19 (by decide) (fun c9 => absurd c9 (by decide +kernel)) (fun _ => ?_)
  refine lv_iconst (v := 0) hx hb d_14_92_22 (by decide +kernel) ?_
  refine W.widen (k := 0) (n := 0) (Nat.le_of_ble_eq_true rfl) (Nat.le_of_ble_eq_true rfl) ?_
  exact W.iret hx hb hr (fun t ht hW => qk hP hD hS [1, 0] rfl ((fun k => k), (fun _ _ => none)) rfl rfl rfl ht) hS.2.2 d_14_92_23
set_option maxRecDepth 100000 in
set_option maxHeartbeats 4000000 in
theorem c633_B_swings (l : Launch) (z : Zz) (hl0 : l.stackTraces = false) (a0 a1 a2 a3 a4 a5 a6 a7 a8 a9 a10 a11 a12 a13 : Nat) (x0 : Int32) (h0 : ¬ x0 < 0) : XT l z ⟨"Ballothall", "swings", "(I)I"⟩ prog_1_method_48_code 2 (some .int) [.ref a0, .int x0] [(a0, .inr (11, [.ref a1, .ref a2, .ref a3, .ref a4, .ref a5, .ref a6, .ref a7, .ref a8, .ref a9, .ref a10, .int 0, .int 0, .ref a11, .int 0])), (a7, .inr (1, [.int 0, .int 1, .ref a12, .ref a13]))] 7 127 1 6 "java/lang/IndexOutOfBoundsException" := by
  refine XT.of (own := "Ballothall") (by decide +kernel) (Nat.le_of_ble_eq_true rfl) rfl (fun p e s m below meth c A ls hx hb hml hr hts hown hlocks hin hA hG hZ hP hD hS hl hnt => ?_)
  have hl : lv_has ls 2 [(0, .ref a0), (1, .int x0)] := hl
  refine lv_iload_n hx hb d_1_48_0 rfl (lv_at hl 1 rfl) ?_
  refine lv_aload_n hx hb d_1_48_1 rfl (lv_at hl 0 rfl) ?_
  refine va_get (D := z.1) (ci := 11) (v := .ref a7) (C := "Ballothall") (T := TX11) (N := 14) hx hb hts iX11 hown hG.1 hP 0 rfl rfl 6 (by decide) (hts _ w_412) (fun _ h9 => h9) rfl d_1_48_2 ?_
  refine va_getN (D := z.1) (ci := 1) (v := .int 0) (C := "Ballothall$Council") (T := TX1) (N := 4) hx hb hts iX1 hown hG.1 hP 1 rfl rfl 0 (by decide) (va_Nw.use rfl (hG.2.1 _ n_391 rfl)) (fun _ h9 => h9) rfl d_1_48_5 ?_
  exact xS (As := [.int x0, .int 0]) (rest := []) (wr := [(a0, .inr (11, [.ref a1, .ref a2, .ref a3, .ref a4, .ref a5, .ref a6, .ref a7, .ref a8, .ref a9, .ref a10, .int 0, .int 0, .ref a11, .int 0])), (a7, .inr (1, [.int 0, .int 1, .ref a12, .ref a13]))]) (c34_B_needIndex l z hl0 x0 h0) hx hb hml hown hts w_857 w_855 w_856 w_1 md_6cb26b ⟨Nat.le_of_ble_eq_true rfl, Nat.le_of_ble_eq_true rfl⟩ hG hZ hP hD hS hA [] [0, 1] rfl rfl rfl rfl rfl hl.1 rfl (Nat.le_of_ble_eq_true rfl) d_1_48_8 ⟨Nat.le_of_ble_eq_true rfl, Nat.le_of_ble_eq_true rfl⟩ (fun q9 ce9 H locs hP hD hS h7 h8 h9 => x_out hnt hlocks hS h7 h8 h9 (Nat.le_of_ble_eq_true rfl) (Nat.le_of_ble_eq_true rfl))
set_option maxRecDepth 100000 in
set_option maxHeartbeats 4000000 in
theorem c634_BLaw_swings (l : Launch) (z : Zz) (hl0 : l.stackTraces = false) (a0 a1 a2 a3 a4 a5 a6 a7 a8 a9 a10 a11 a12 a13 a14 : Nat) (x0 : Int32) (h0 : ¬ x0 < 0) : HT l z ⟨"BallothallLaw", "swings", "(LBallothall;I[J)I"⟩ method_40_code 4 (some .int) [(0, 9, 12, 19)] [.ref a0, .int x0, .ref a1] [(a0, .inr (11, [.ref a2, .ref a3, .ref a4, .ref a5, .ref a6, .ref a7, .ref a8, .ref a9, .ref a10, .ref a11, .int 0, .int 0, .ref a12, .int 0])), (a8, .inr (1, [.int 0, .int 1, .ref a13, .ref a14]))] 8 156 1 6 (fun u => some (.int 1)) (fun u => []) := by
  refine HT.of (own := "BallothallLaw") (by decide +kernel) (Nat.le_of_ble_eq_true rfl) rfl (fun p e s m below meth c A ls hx hb hml hr hts hown hlocks hin hA hG hZ hP hD hS hl htab => ?_)
  have hl : lv_has ls 4 [(0, .ref a0), (1, .int x0), (2, .ref a1)] := hl
  refine lv_aload_n hx hb d_L40_0 rfl (lv_at hl 2 rfl) ?_
  refine lv_iconst (v := 0) hx hb d_L40_1 (by decide +kernel) ?_
  refine lv_aload_n hx hb d_L40_2 rfl (lv_at hl 0 rfl) ?_
  refine lv_iload_n hx hb d_L40_3 rfl (lv_at hl 1 rfl) ?_
  refine xV (As := [.int x0]) (rest := [.int 0, .ref a1]) (wr := []) (c633_B_swings l z hl0 a0 a2 a3 a4 a5 a6 a7 a8 a9 a10 a11 a12 a13 a14 x0 h0) hx hb hml hown hts w_1537 w_1534 w_1535 w_1536 w_1 md_fa578c ⟨Nat.le_of_ble_eq_true rfl, Nat.le_of_ble_eq_true rfl⟩ hG hZ hP hD hS hA 0 rfl rfl rfl [0, 1] [] rfl rfl rfl rfl rfl hl.1 rfl (Nat.le_of_ble_eq_true rfl) d_L40_4 ⟨Nat.le_of_ble_eq_true rfl, Nat.le_of_ble_eq_true rfl⟩ (fun q0 ce9 H locs hP hD hS h7 h8 h9 => ?_)
  have hP : va_P z.1 classes [] H := hP
  have hD : va_D A [] := hD
  refine vx_catch hown [] ⟨0, 9, 12, 19⟩ [] (htab.trans rfl) (fun _ h9 => absurd h9 List.not_mem_nil) rfl (by decide) (hts _ w_849) (va_Nw.use rfl (hG.2.1 _ n_860 rfl)) h7 h8 h9 ?_
  refine lv_astore_n (lv' := [(3, .ref q0), (0, .ref a0), (1, .int x0), (2, .ref a1)]) hx hb d_L40_12 rfl hl (by decide) rfl (fun ls hl => ?_)
  refine lv_iconst (v := 1) hx hb d_L40_13 (by decide +kernel) ?_
  refine W.widen (k := 1) (n := 6) (Nat.le_of_ble_eq_true rfl) (Nat.le_of_ble_eq_true rfl) ?_
  refine vx_ret ?_
  exact W.iret hx hb hr (fun t ht hW => qk hP hD hS [] rfl ((fun k => k), (fun _ _ => none)) rfl rfl rfl ht) hS.2.2 d_L40_14
set_option maxRecDepth 100000 in
set_option maxHeartbeats 4000000 in
theorem c635_BModel_swings (l : Launch) (z : Zz) (a0 a1 a2 a3 a4 a5 a6 a7 a8 a9 a10 a11 a12 a13 : Nat) (x0 : Int32) (h0 : ¬ x0 < 0) (h1 : (-1) < x0) : CT l z ⟨"BallothallModel", "swings", "(I)I"⟩ prog_14_method_92_code 4 (some .int) [.ref a0, .int x0] [(a0, .inr (18, [.ref a1, .ref a2, .int 0, .ref a3, .int 0, .ref a4, .int 0, .null, .int 0, .null, .long 0, .int 0, .null])), (a1, .inr (17, [.int 0, .ref a5, .ref a6, .int 0, .ref a7, .ref a8, .ref a9, .null, .null, .int 0, .ref a10, .ref a11, .ref a12, .int 0, .ref a13, .int 1]))] 1 30 0 0 (fun u => some (.int 0)) (fun u => [(a0, .inr (18, [.ref a1, .ref a2, .int 0, .ref a3, .int 0, .ref a4, .int 1, .null, .int 0, .null, .long 0, .int 0, .null])), (a1, .inr (17, [.int 0, .ref a5, .ref a6, .int 0, .ref a7, .ref a8, .ref a9, .null, .null, .int 0, .ref a10, .ref a11, .ref a12, .int 0, .ref a13, .int 1]))]) := by
  refine CT.of (own := "BallothallModel") (by decide +kernel) (Nat.le_of_ble_eq_true rfl) rfl (fun p e s m below meth c A ls hx hb hml hr hts hown hlocks hin hA hG hZ hP hD hS hl => ?_)
  have hl : lv_has ls 4 [(0, .ref a0), (1, .int x0)] := hl
  refine lv_aload_n hx hb d_14_92_0 rfl (lv_at hl 0 rfl) ?_
  refine lv_iload_n hx hb d_14_92_1 rfl (lv_at hl 1 rfl) ?_
  refine lv_iconst (v := 0) hx hb d_14_92_2 (by decide +kernel) ?_
  refine lv_aload_n hx hb d_14_92_3 rfl (lv_at hl 0 rfl) ?_
  refine va_get (D := z.1) (ci := 18) (v := .ref a1) (C := "BallothallModel") (T := TX18) (N := 13) hx hb hts iX18 hown hG.1 hP 0 rfl rfl 0 (by decide) (hts _ w_1645) (fun _ h9 => h9) rfl d_14_92_4 ?_
  refine va_getN (D := z.1) (ci := 17) (v := .int 0) (C := "BallothallModel$State") (T := TX17) (N := 16) hx hb hts iX17 hown hG.1 hP 1 rfl rfl 13 (by decide) (va_Nw.use rfl (hG.2.1 _ n_1606 rfl)) (fun _ h9 => h9) rfl d_14_92_7 ?_
  refine lv_iconst (v := 1) hx hb d_14_92_10 (by decide +kernel) ?_
  refine lv_isub hx hb d_14_92_11 ?_
  refine nrm (x1 := (-1)) (by decide +kernel) ?_
  refine kS (As := [.int x0, .int 0, .int (-1)]) (rest := [.ref a0]) (wr := [(a0, .inr (18, [.ref a1, .ref a2, .int 0, .ref a3, .int 0, .ref a4, .int 0, .null, .int 0, .null, .long 0, .int 0, .null])), (a1, .inr (17, [.int 0, .ref a5, .ref a6, .int 0, .ref a7, .ref a8, .ref a9, .null, .null, .int 0, .ref a10, .ref a11, .ref a12, .int 0, .ref a13, .int 1]))]) (c37_BModel_isIn l z x0 h0 h1) hx hb hml hown hts w_1718 w_1716 w_1717 w_12 md_bca45c ⟨Nat.le_of_ble_eq_true rfl, Nat.le_of_ble_eq_true rfl⟩ hG hZ hP hD hS hA [] [0, 1] rfl rfl rfl rfl rfl hl.1 rfl (Nat.le_of_ble_eq_true rfl) d_14_92_12 ⟨Nat.le_of_ble_eq_true rfl, Nat.le_of_ble_eq_true rfl⟩ (fun u0 H locs hP hD hS => ?_)
  have hP : va_P z.1 classes [(a0, .inr (18, [.ref a1, .ref a2, .int 0, .ref a3, .int 0, .ref a4, .int 0, .null, .int 0, .null, .long 0, .int 0, .null])), (a1, .inr (17, [.int 0, .ref a5, .ref a6, .int 0, .ref a7, .ref a8, .ref a9, .null, .null, .int 0, .ref a10, .ref a11, .ref a12, .int 0, .ref a13, .int 1]))] H := hP
  have hD : va_D A [(a0, .inr (18, [.ref a1, .ref a2, .int 0, .ref a3, .int 0, .ref a4, .int 0, .null, .int 0, .null, .long 0, .int 0, .null])), (a1, .inr (17, [.int 0, .ref a5, .ref a6, .int 0, .ref a7, .ref a8, .ref a9, .null, .null, .int 0, .ref a10, .ref a11, .ref a12, .int 0, .ref a13, .int 1]))] := hD
  refine W.eq (g2 := F0 m 15 ls [.int 0, .ref a0]) rfl ?_
  refine lv_iconst (v := 1) hx hb d_14_92_15 (by decide +kernel) ?_
  refine kV (As := [.int 0, .int 1]) (rest := []) (wr := [(a1, .inr (17, [.int 0, .ref a5, .ref a6, .int 0, .ref a7, .ref a8, .ref a9, .null, .null, .int 0, .ref a10, .ref a11, .ref a12, .int 0, .ref a13, .int 1]))]) (c31_BModel_ends l z a0 a1 a2 a3 a4) hx hb hml hown hts w_1696 w_1693 w_1695 w_s_f8f2b7 w_12 md_77b0f8 ⟨Nat.le_of_ble_eq_true rfl, Nat.le_of_ble_eq_true rfl⟩ hG hZ hP hD hS hA 0 rfl rfl rfl [0] [1] rfl rfl rfl rfl rfl hl.1 rfl (Nat.le_of_ble_eq_true rfl) d_14_92_16 ⟨Nat.le_of_ble_eq_true rfl, Nat.le_of_ble_eq_true rfl⟩ (fun u1 H locs hP hD hS => ?_)
  have hP : va_P z.1 classes [(a1, .inr (17, [.int 0, .ref a5, .ref a6, .int 0, .ref a7, .ref a8, .ref a9, .null, .null, .int 0, .ref a10, .ref a11, .ref a12, .int 0, .ref a13, .int 1])), (a0, .inr (18, [.ref a1, .ref a2, .int 0, .ref a3, .int 0, .ref a4, .int 1, .null, .int 0, .null, .long 0, .int 0, .null]))] H := hP
  have hD : va_D A [(a1, .inr (17, [.int 0, .ref a5, .ref a6, .int 0, .ref a7, .ref a8, .ref a9, .null, .null, .int 0, .ref a10, .ref a11, .ref a12, .int 0, .ref a13, .int 1])), (a0, .inr (18, [.ref a1, .ref a2, .int 0, .ref a3, .int 0, .ref a4, .int 1, .null, .int 0, .null, .long 0, .int 0, .null]))] := hD
  refine W.eq (g2 := F0 m 19 ls [.int 1]) rfl ?_
  refine lv_if_eq (tgt := 24) hx hb d_14_92_19 (by decide) (fun c9 => absurd c9 (by decide +kernel)) (fun _ => ?_)
  refine lv_iconst (v := 0) hx hb d_14_92_22 (by decide +kernel) ?_
  refine W.widen (k := 0) (n := 0) (Nat.le_of_ble_eq_true rfl) (Nat.le_of_ble_eq_true rfl) ?_
  exact W.iret hx hb hr (fun t ht hW => qk hP hD hS [1, 0] rfl ((fun k => k), (fun _ _ => none)) rfl rfl rfl ht) hS.2.2 d_14_92_23
set_option maxRecDepth 100000 in
set_option maxHeartbeats 4000000 in
theorem c636_B_ordersTurned (l : Launch) (z : Zz) (hl0 : l.stackTraces = false) (a0 a1 a2 a3 a4 a5 a6 a7 a8 a9 a10 a11 a12 a13 : Nat) (x0 : Int32) (h0 : x0 < 0) : XT l z ⟨"Ballothall", "ordersTurned", "(I)J"⟩ prog_1_method_49_code 2 (some .long) [.ref a0, .int x0] [(a0, .inr (11, [.ref a1, .ref a2, .ref a3, .ref a4, .ref a5, .ref a6, .ref a7, .ref a8, .ref a9, .ref a10, .int 0, .int 0, .ref a11, .int 0])), (a7, .inr (1, [.int 0, .int 1, .ref a12, .ref a13]))] 7 127 1 6 "java/lang/IndexOutOfBoundsException" := by
  refine XT.of (own := "Ballothall") (by decide +kernel) (Nat.le_of_ble_eq_true rfl) rfl (fun p e s m below meth c A ls hx hb hml hr hts hown hlocks hin hA hG hZ hP hD hS hl hnt => ?_)
  have hl : lv_has ls 2 [(0, .ref a0), (1, .int x0)] := hl
  refine lv_iload_n hx hb d_1_49_0 rfl (lv_at hl 1 rfl) ?_
  refine lv_aload_n hx hb d_1_49_1 rfl (lv_at hl 0 rfl) ?_
  refine va_get (D := z.1) (ci := 11) (v := .ref a7) (C := "Ballothall") (T := TX11) (N := 14) hx hb hts iX11 hown hG.1 hP 0 rfl rfl 6 (by decide) (hts _ w_412) (fun _ h9 => h9) rfl d_1_49_2 ?_
  refine va_getN (D := z.1) (ci := 1) (v := .int 0) (C := "Ballothall$Council") (T := TX1) (N := 4) hx hb hts iX1 hown hG.1 hP 1 rfl rfl 0 (by decide) (va_Nw.use rfl (hG.2.1 _ n_391 rfl)) (fun _ h9 => h9) rfl d_1_49_5 ?_
  exact xS (As := [.int x0, .int 0]) (rest := []) (wr := [(a0, .inr (11, [.ref a1, .ref a2, .ref a3, .ref a4, .ref a5, .ref a6, .ref a7, .ref a8, .ref a9, .ref a10, .int 0, .int 0, .ref a11, .int 0])), (a7, .inr (1, [.int 0, .int 1, .ref a12, .ref a13]))]) (c26_B_needIndex l z hl0 x0 h0) hx hb hml hown hts w_857 w_855 w_856 w_1 md_6cb26b ⟨Nat.le_of_ble_eq_true rfl, Nat.le_of_ble_eq_true rfl⟩ hG hZ hP hD hS hA [] [0, 1] rfl rfl rfl rfl rfl hl.1 rfl (Nat.le_of_ble_eq_true rfl) d_1_49_8 ⟨Nat.le_of_ble_eq_true rfl, Nat.le_of_ble_eq_true rfl⟩ (fun q9 ce9 H locs hP hD hS h7 h8 h9 => x_out hnt hlocks hS h7 h8 h9 (Nat.le_of_ble_eq_true rfl) (Nat.le_of_ble_eq_true rfl))
set_option maxRecDepth 100000 in
set_option maxHeartbeats 4000000 in
theorem c637_BLaw_ordersTurned (l : Launch) (z : Zz) (hl0 : l.stackTraces = false) (a0 a1 a2 a3 a4 a5 a6 a7 a8 a9 a10 a11 a12 a13 a14 : Nat) (x0 : Int32) (h0 : x0 < 0) : HT l z ⟨"BallothallLaw", "ordersTurned", "(LBallothall;I[J)I"⟩ method_41_code 4 (some .int) [(0, 8, 11, 19)] [.ref a0, .int x0, .ref a1] [(a0, .inr (11, [.ref a2, .ref a3, .ref a4, .ref a5, .ref a6, .ref a7, .ref a8, .ref a9, .ref a10, .ref a11, .int 0, .int 0, .ref a12, .int 0])), (a8, .inr (1, [.int 0, .int 1, .ref a13, .ref a14]))] 8 156 1 6 (fun u => some (.int 1)) (fun u => []) := by
  refine HT.of (own := "BallothallLaw") (by decide +kernel) (Nat.le_of_ble_eq_true rfl) rfl (fun p e s m below meth c A ls hx hb hml hr hts hown hlocks hin hA hG hZ hP hD hS hl htab => ?_)
  have hl : lv_has ls 4 [(0, .ref a0), (1, .int x0), (2, .ref a1)] := hl
  refine lv_aload_n hx hb d_L41_0 rfl (lv_at hl 2 rfl) ?_
  refine lv_iconst (v := 0) hx hb d_L41_1 (by decide +kernel) ?_
  refine lv_aload_n hx hb d_L41_2 rfl (lv_at hl 0 rfl) ?_
  refine lv_iload_n hx hb d_L41_3 rfl (lv_at hl 1 rfl) ?_
  refine xV (As := [.int x0]) (rest := [.int 0, .ref a1]) (wr := []) (c636_B_ordersTurned l z hl0 a0 a2 a3 a4 a5 a6 a7 a8 a9 a10 a11 a12 a13 a14 x0 h0) hx hb hml hown hts w_1549 w_1546 w_1547 w_1548 w_1 md_41465a ⟨Nat.le_of_ble_eq_true rfl, Nat.le_of_ble_eq_true rfl⟩ hG hZ hP hD hS hA 0 rfl rfl rfl [0, 1] [] rfl rfl rfl rfl rfl hl.1 rfl (Nat.le_of_ble_eq_true rfl) d_L41_4 ⟨Nat.le_of_ble_eq_true rfl, Nat.le_of_ble_eq_true rfl⟩ (fun q0 ce9 H locs hP hD hS h7 h8 h9 => ?_)
  have hP : va_P z.1 classes [] H := hP
  have hD : va_D A [] := hD
  refine vx_catch hown [] ⟨0, 8, 11, 19⟩ [] (htab.trans rfl) (fun _ h9 => absurd h9 List.not_mem_nil) rfl (by decide) (hts _ w_849) (va_Nw.use rfl (hG.2.1 _ n_860 rfl)) h7 h8 h9 ?_
  refine lv_astore_n (lv' := [(3, .ref q0), (0, .ref a0), (1, .int x0), (2, .ref a1)]) hx hb d_L41_11 rfl hl (by decide) rfl (fun ls hl => ?_)
  refine lv_iconst (v := 1) hx hb d_L41_12 (by decide +kernel) ?_
  refine W.widen (k := 1) (n := 6) (Nat.le_of_ble_eq_true rfl) (Nat.le_of_ble_eq_true rfl) ?_
  refine vx_ret ?_
  exact W.iret hx hb hr (fun t ht hW => qk hP hD hS [] rfl ((fun k => k), (fun _ _ => none)) rfl rfl rfl ht) hS.2.2 d_L41_13
set_option maxRecDepth 100000 in
set_option maxHeartbeats 4000000 in
theorem c638_BModel_ordersTurned (l : Launch) (z : Zz) (a0 a1 a2 a3 a4 a5 a6 a7 a8 a9 a10 a11 a12 a13 : Nat) (x0 : Int32) (h0 : x0 < 0) : CT l z ⟨"BallothallModel", "ordersTurned", "(I)J"⟩ prog_14_method_95_code 2 (some .long) [.ref a0, .int x0] [(a0, .inr (18, [.ref a1, .ref a2, .int 0, .ref a3, .int 0, .ref a4, .int 0, .null, .int 0, .null, .long 0, .int 0, .null])), (a1, .inr (17, [.int 0, .ref a5, .ref a6, .int 0, .ref a7, .ref a8, .ref a9, .null, .null, .int 0, .ref a10, .ref a11, .ref a12, .int 0, .ref a13, .int 1]))] 1 30 0 0 (fun u => some (.long 0)) (fun u => [(a0, .inr (18, [.ref a1, .ref a2, .int 0, .ref a3, .int 0, .ref a4, .int 1, .null, .int 0, .null, .long 0, .int 0, .null])), (a1, .inr (17, [.int 0, .ref a5, .ref a6, .int 0, .ref a7, .ref a8, .ref a9, .null, .null, .int 0, .ref a10, .ref a11, .ref a12, .int 0, .ref a13, .int 1]))]) := by
  refine CT.of (own := "BallothallModel") (by decide +kernel) (Nat.le_of_ble_eq_true rfl) rfl (fun p e s m below meth c A ls hx hb hml hr hts hown hlocks hin hA hG hZ hP hD hS hl => ?_)
  have hl : lv_has ls 2 [(0, .ref a0), (1, .int x0)] := hl
  refine lv_aload_n hx hb d_14_95_0 rfl (lv_at hl 0 rfl) ?_
  refine lv_iload_n hx hb d_14_95_1 rfl (lv_at hl 1 rfl) ?_
  refine lv_iconst (v := 0) hx hb d_14_95_2 (by decide +kernel) ?_
  refine lv_aload_n hx hb d_14_95_3 rfl (lv_at hl 0 rfl) ?_
  refine va_get (D := z.1) (ci := 18) (v := .ref a1) (C := "BallothallModel") (T := TX18) (N := 13) hx hb hts iX18 hown hG.1 hP 0 rfl rfl 0 (by decide) (hts _ w_1645) (fun _ h9 => h9) rfl d_14_95_4 ?_
  refine va_getN (D := z.1) (ci := 17) (v := .int 0) (C := "BallothallModel$State") (T := TX17) (N := 16) hx hb hts iX17 hown hG.1 hP 1 rfl rfl 13 (by decide) (va_Nw.use rfl (hG.2.1 _ n_1606 rfl)) (fun _ h9 => h9) rfl d_14_95_7 ?_
  refine lv_iconst (v := 1) hx hb d_14_95_10 (by decide +kernel) ?_
  refine lv_isub hx hb d_14_95_11 ?_
  refine nrm (x1 := (-1)) (by decide +kernel) ?_
  refine kS (As := [.int x0, .int 0, .int (-1)]) (rest := [.ref a0]) (wr := [(a0, .inr (18, [.ref a1, .ref a2, .int 0, .ref a3, .int 0, .ref a4, .int 0, .null, .int 0, .null, .long 0, .int 0, .null])), (a1, .inr (17, [.int 0, .ref a5, .ref a6, .int 0, .ref a7, .ref a8, .ref a9, .null, .null, .int 0, .ref a10, .ref a11, .ref a12, .int 0, .ref a13, .int 1]))]) (c29_BModel_isIn l z x0 h0) hx hb hml hown hts w_1718 w_1716 w_1717 w_12 md_bca45c ⟨Nat.le_of_ble_eq_true rfl, Nat.le_of_ble_eq_true rfl⟩ hG hZ hP hD hS hA [] [0, 1] rfl rfl rfl rfl rfl hl.1 rfl (Nat.le_of_ble_eq_true rfl) d_14_95_12 ⟨Nat.le_of_ble_eq_true rfl, Nat.le_of_ble_eq_true rfl⟩ (fun u0 H locs hP hD hS => ?_)
  have hP : va_P z.1 classes [(a0, .inr (18, [.ref a1, .ref a2, .int 0, .ref a3, .int 0, .ref a4, .int 0, .null, .int 0, .null, .long 0, .int 0, .null])), (a1, .inr (17, [.int 0, .ref a5, .ref a6, .int 0, .ref a7, .ref a8, .ref a9, .null, .null, .int 0, .ref a10, .ref a11, .ref a12, .int 0, .ref a13, .int 1]))] H := hP
  have hD : va_D A [(a0, .inr (18, [.ref a1, .ref a2, .int 0, .ref a3, .int 0, .ref a4, .int 0, .null, .int 0, .null, .long 0, .int 0, .null])), (a1, .inr (17, [.int 0, .ref a5, .ref a6, .int 0, .ref a7, .ref a8, .ref a9, .null, .null, .int 0, .ref a10, .ref a11, .ref a12, .int 0, .ref a13, .int 1]))] := hD
  refine W.eq (g2 := F0 m 15 ls [.int 0, .ref a0]) rfl ?_
  refine lv_iconst (v := 1) hx hb d_14_95_15 (by decide +kernel) ?_
  refine kV (As := [.int 0, .int 1]) (rest := []) (wr := [(a1, .inr (17, [.int 0, .ref a5, .ref a6, .int 0, .ref a7, .ref a8, .ref a9, .null, .null, .int 0, .ref a10, .ref a11, .ref a12, .int 0, .ref a13, .int 1]))]) (c31_BModel_ends l z a0 a1 a2 a3 a4) hx hb hml hown hts w_1696 w_1693 w_1695 w_s_f8f2b7 w_12 md_77b0f8 ⟨Nat.le_of_ble_eq_true rfl, Nat.le_of_ble_eq_true rfl⟩ hG hZ hP hD hS hA 0 rfl rfl rfl [0] [1] rfl rfl rfl rfl rfl hl.1 rfl (Nat.le_of_ble_eq_true rfl) d_14_95_16 ⟨Nat.le_of_ble_eq_true rfl, Nat.le_of_ble_eq_true rfl⟩ (fun u1 H locs hP hD hS => ?_)
  have hP : va_P z.1 classes [(a1, .inr (17, [.int 0, .ref a5, .ref a6, .int 0, .ref a7, .ref a8, .ref a9, .null, .null, .int 0, .ref a10, .ref a11, .ref a12, .int 0, .ref a13, .int 1])), (a0, .inr (18, [.ref a1, .ref a2, .int 0, .ref a3, .int 0, .ref a4, .int 1, .null, .int 0, .null, .long 0, .int 0, .null]))] H := hP
  have hD : va_D A [(a1, .inr (17, [.int 0, .ref a5, .ref a6, .int 0, .ref a7, .ref a8, .ref a9, .null, .null, .int 0, .ref a10, .ref a11, .ref a12, .int 0, .ref a13, .int 1])), (a0, .inr (18, [.ref a1, .ref a2, .int 0, .ref a3, .int 0, .ref a4, .int 1, .null, .int 0, .null, .long 0, .int 0, .null]))] := hD
  refine W.eq (g2 := F0 m 19 ls [.int 1]) rfl ?_
  refine lv_if_eq (tgt := 26) hx hb d_14_95_19 (by decide) (fun c9 => absurd c9 (by decide +kernel)) (fun _ => ?_)
  refine lv_lconst (v := 0) hx hb d_14_95_22 (by decide +kernel) ?_
  refine lv_goto (tgt := 31) hx hb d_14_95_23 (by decide) ?_
  refine W.widen (k := 0) (n := 0) (Nat.le_of_ble_eq_true rfl) (Nat.le_of_ble_eq_true rfl) ?_
  exact W.lret hx hb hr (fun t ht hW => qk hP hD hS [1, 0] rfl ((fun k => k), (fun _ _ => none)) rfl rfl rfl ht) hS.2.2 d_14_95_31
set_option maxRecDepth 100000 in
set_option maxHeartbeats 4000000 in
theorem c639_B_ordersTurned (l : Launch) (z : Zz) (hl0 : l.stackTraces = false) (a0 a1 a2 a3 a4 a5 a6 a7 a8 a9 a10 a11 a12 a13 : Nat) (x0 : Int32) (h0 : ¬ x0 < 0) : XT l z ⟨"Ballothall", "ordersTurned", "(I)J"⟩ prog_1_method_49_code 2 (some .long) [.ref a0, .int x0] [(a0, .inr (11, [.ref a1, .ref a2, .ref a3, .ref a4, .ref a5, .ref a6, .ref a7, .ref a8, .ref a9, .ref a10, .int 0, .int 0, .ref a11, .int 0])), (a7, .inr (1, [.int 0, .int 1, .ref a12, .ref a13]))] 7 127 1 6 "java/lang/IndexOutOfBoundsException" := by
  refine XT.of (own := "Ballothall") (by decide +kernel) (Nat.le_of_ble_eq_true rfl) rfl (fun p e s m below meth c A ls hx hb hml hr hts hown hlocks hin hA hG hZ hP hD hS hl hnt => ?_)
  have hl : lv_has ls 2 [(0, .ref a0), (1, .int x0)] := hl
  refine lv_iload_n hx hb d_1_49_0 rfl (lv_at hl 1 rfl) ?_
  refine lv_aload_n hx hb d_1_49_1 rfl (lv_at hl 0 rfl) ?_
  refine va_get (D := z.1) (ci := 11) (v := .ref a7) (C := "Ballothall") (T := TX11) (N := 14) hx hb hts iX11 hown hG.1 hP 0 rfl rfl 6 (by decide) (hts _ w_412) (fun _ h9 => h9) rfl d_1_49_2 ?_
  refine va_getN (D := z.1) (ci := 1) (v := .int 0) (C := "Ballothall$Council") (T := TX1) (N := 4) hx hb hts iX1 hown hG.1 hP 1 rfl rfl 0 (by decide) (va_Nw.use rfl (hG.2.1 _ n_391 rfl)) (fun _ h9 => h9) rfl d_1_49_5 ?_
  exact xS (As := [.int x0, .int 0]) (rest := []) (wr := [(a0, .inr (11, [.ref a1, .ref a2, .ref a3, .ref a4, .ref a5, .ref a6, .ref a7, .ref a8, .ref a9, .ref a10, .int 0, .int 0, .ref a11, .int 0])), (a7, .inr (1, [.int 0, .int 1, .ref a12, .ref a13]))]) (c34_B_needIndex l z hl0 x0 h0) hx hb hml hown hts w_857 w_855 w_856 w_1 md_6cb26b ⟨Nat.le_of_ble_eq_true rfl, Nat.le_of_ble_eq_true rfl⟩ hG hZ hP hD hS hA [] [0, 1] rfl rfl rfl rfl rfl hl.1 rfl (Nat.le_of_ble_eq_true rfl) d_1_49_8 ⟨Nat.le_of_ble_eq_true rfl, Nat.le_of_ble_eq_true rfl⟩ (fun q9 ce9 H locs hP hD hS h7 h8 h9 => x_out hnt hlocks hS h7 h8 h9 (Nat.le_of_ble_eq_true rfl) (Nat.le_of_ble_eq_true rfl))
