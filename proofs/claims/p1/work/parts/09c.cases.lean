set_option maxRecDepth 100000 in
set_option maxHeartbeats 4000000 in
theorem c181_BLaw_seats (l : Launch) (z : Zz) (a0 a1 a2 a3 a4 a5 a6 a7 a8 a9 a10 a11 a12 a13 a14 a15 a16 a17 a18 a19 a20 a21 a22 a23 a24 a25 a26 a27 a28 a29 a30 a31 a32 a33 a34 a35 a36 a37 a38 a39 a40 a41 a42 a43 a44 a45 a46 a47 a48 a49 a50 a51 : Nat) (x0 : Int32) (x1 : Int32) (x2 : Int32) (h0 : ¬ x0 < 0) (h1 : ¬ 5 < x0) (h2 : ¬ x1 < 1) (h3 : ¬ 60 < x1) (h4 : ¬ x2 < 0) (h5 : ¬ 20 < x2) : HT l z ⟨"BallothallLaw", "seats", "(LBallothall;III[J)I"⟩ method_13_code 6 (some .int) [(0, 12, 15, 21)] [.ref a0, .int x0, .int x1, .int x2, .ref a1] [(a0, .inr (11, [.ref a2, .ref a3, .ref a4, .ref a5, .ref a6, .ref a7, .ref a8, .ref a9, .ref a10, .ref a11, .int 0, .int 0, .ref a12, .int 0])), (a5, .inr (7, [.int 0, .ref a13, .ref a14, .ref a15, .ref a16, .ref a17, .int 0, .ref a18, .ref a19, .ref a20, .int 0])), (a16, .inr (4, [.int 0, .int 0, .ref a21, .ref a22, .ref a23, .ref a24, .ref a25, .ref a26])), (a18, .inl (z.2 0, 8, .inl (fun _ => 0))), (a20, .inl (z.2 3, 21, .inr (.inr (.inr (.inr (va_up (va_up (va_up (va_up (va_up (va_up (va_up (va_up (va_up (va_up (va_up (va_up (va_up (va_up (va_up (va_up (va_up (va_up (va_up (va_up (va_up (fun _ => none) 0 (some a27)) 1 (some a28)) 2 (some a29)) 3 (some a30)) 4 (some a31)) 5 (some a32)) 6 (some a33)) 7 (some a34)) 8 (some a35)) 9 (some a36)) 10 (some a37)) 11 (some a38)) 12 (some a39)) 13 (some a40)) 14 (some a41)) 15 (some a42)) 16 (some a43)) 17 (some a44)) 18 (some a45)) 19 (some a46)) 20 (some a47))))))), (a28, .inr (6, [.int 0, .int 0, .int 0, .ref a48, .ref a49, .ref a50, .ref a51])), (a26, .inl (z.2 0, 61, .inl (fun _ => 0))), (a48, .inl (z.2 0, 60, .inl (fun _ => 0))), (a49, .inl (z.2 0, 8, .inl (fun _ => 0))), (a13, .inl (z.2 0, 8, .inl (fun _ => 0))), (a50, .inl (z.2 0, 8, .inl (fun _ => 0))), (a14, .inl (z.2 0, 8, .inl (fun _ => 0))), (a51, .inl (z.2 0, 8, .inl (fun _ => 0))), (a9, .inl (z.2 0, 20, .inl (fun _ => 0))), (a10, .inl (z.2 0, 20, .inl (fun _ => 0))), (a11, .inl (z.2 0, 20, .inl (fun _ => 0))), (a1, .inl (z.2 1, 1, .inr (.inl (fun _ => 0))))] 4 121 0 0 (fun u => some (.int 0)) (fun u => [(a0, .inr (11, [.ref a2, .ref a3, .ref a4, .ref a5, .ref a6, .ref a7, .ref a8, .ref a9, .ref a10, .ref a11, .int 1, .int 1, .ref a12, .int 0])), (a5, .inr (7, [.int 0, .ref a13, .ref a14, .ref a15, .ref a16, .ref a17, .int 0, .ref a18, .ref a19, .ref a20, .int 1])), (a16, .inr (4, [.int 0, .int 0, .ref a21, .ref a22, .ref a23, .ref a24, .ref a25, .ref a26])), (a18, .inl (z.2 0, 8, .inl (fun _ => 0))), (a20, .inl (z.2 3, 21, .inr (.inr (.inr (.inr (va_up (va_up (va_up (va_up (va_up (va_up (va_up (va_up (va_up (va_up (va_up (va_up (va_up (va_up (va_up (va_up (va_up (va_up (va_up (va_up (va_up (fun _ => none) 0 (some a27)) 1 (some a28)) 2 (some a29)) 3 (some a30)) 4 (some a31)) 5 (some a32)) 6 (some a33)) 7 (some a34)) 8 (some a35)) 9 (some a36)) 10 (some a37)) 11 (some a38)) 12 (some a39)) 13 (some a40)) 14 (some a41)) 15 (some a42)) 16 (some a43)) 17 (some a44)) 18 (some a45)) 19 (some a46)) 20 (some a47))))))), (a28, .inr (6, [.int 0, .int 0, .int 0, .ref a48, .ref a49, .ref a50, .ref a51])), (a26, .inl (z.2 0, 61, .inl (fun _ => 0))), (a48, .inl (z.2 0, 60, .inl (fun _ => 0))), (a49, .inl (z.2 0, 8, .inl (fun _ => 0))), (a13, .inl (z.2 0, 8, .inl (fun _ => 0))), (a50, .inl (z.2 0, 8, .inl (fun _ => 0))), (a14, .inl (z.2 0, 8, .inl (fun _ => 0))), (a51, .inl (z.2 0, 8, .inl (fun _ => 0))), (a9, .inl (z.2 0, 20, .inl (upd (fun _ => 0) 1 8))), (a10, .inl (z.2 0, 20, .inl (fun _ => 0))), (a11, .inl (z.2 0, 20, .inl (fun _ => 0))), (a1, .inl (z.2 1, 1, .inr (.inl (fun _ => 0))))]) := by
  refine HT.of (own := "BallothallLaw") (by decide +kernel) (Nat.le_of_ble_eq_true rfl) rfl (fun p e s m below meth c A ls hx hb hml hr hts hown hlocks hin hA hG hZ hP hD hS hl htab => ?_)
  have hl : lv_has ls 6 [(0, .ref a0), (1, .int x0), (2, .int x1), (3, .int x2), (4, .ref a1)] := hl
  refine lv_aload hx hb d_L13_0 (lv_at hl 4 rfl) ?_
  refine lv_iconst (v := 0) hx hb d_L13_2 (by decide +kernel) ?_
  refine lv_aload_n hx hb d_L13_3 rfl (lv_at hl 0 rfl) ?_
  refine lv_iload_n hx hb d_L13_4 rfl (lv_at hl 1 rfl) ?_
  refine lv_iload_n hx hb d_L13_5 rfl (lv_at hl 2 rfl) ?_
  refine lv_iload_n hx hb d_L13_6 rfl (lv_at hl 3 rfl) ?_
  refine kV (As := [.int x0, .int x1, .int x2]) (rest := [.int 0, .ref a1]) (wr := [(a1, .inl (z.2 1, 1, .inr (.inl (fun _ => 0))))]) (c180_B_seats l z a0 a2 a3 a4 a5 a6 a7 a8 a9 a10 a11 a12 a13 a14 a15 a16 a17 a18 a19 a20 a21 a22 a23 a24 a25 a26 a27 a28 a29 a30 a31 a32 a33 a34 a35 a36 a37 a38 a39 a40 a41 a42 a43 a44 a45 a46 a47 a48 a49 a50 a51 x0 x1 x2 h0 h1 h2 h3 h4 h5) hx hb hml hown hts w_998 w_995 w_996 w_997 w_1 md_fbc403 ⟨Nat.le_of_ble_eq_true rfl, Nat.le_of_ble_eq_true rfl⟩ hG hZ hP hD hS hA 0 rfl rfl rfl [0, 1, 2, 3, 4, 5, 6, 7, 8, 9, 10, 11, 12, 13, 14, 15] [16] rfl rfl rfl rfl rfl hl.1 rfl (Nat.le_of_ble_eq_true rfl) d_L13_7 ⟨Nat.le_of_ble_eq_true rfl, Nat.le_of_ble_eq_true rfl⟩ (fun u0 H locs hP hD hS => ?_)
  have hP : va_P z.1 classes [(a1, .inl (z.2 1, 1, .inr (.inl (fun _ => 0)))), (a0, .inr (11, [.ref a2, .ref a3, .ref a4, .ref a5, .ref a6, .ref a7, .ref a8, .ref a9, .ref a10, .ref a11, .int 1, .int 1, .ref a12, .int 0])), (a5, .inr (7, [.int 0, .ref a13, .ref a14, .ref a15, .ref a16, .ref a17, .int 0, .ref a18, .ref a19, .ref a20, .int 1])), (a16, .inr (4, [.int 0, .int 0, .ref a21, .ref a22, .ref a23, .ref a24, .ref a25, .ref a26])), (a18, .inl (z.2 0, 8, .inl (fun _ => 0))), (a20, .inl (z.2 3, 21, .inr (.inr (.inr (.inr (va_up (va_up (va_up (va_up (va_up (va_up (va_up (va_up (va_up (va_up (va_up (va_up (va_up (va_up (va_up (va_up (va_up (va_up (va_up (va_up (va_up (fun _ => none) 0 (some a27)) 1 (some a28)) 2 (some a29)) 3 (some a30)) 4 (some a31)) 5 (some a32)) 6 (some a33)) 7 (some a34)) 8 (some a35)) 9 (some a36)) 10 (some a37)) 11 (some a38)) 12 (some a39)) 13 (some a40)) 14 (some a41)) 15 (some a42)) 16 (some a43)) 17 (some a44)) 18 (some a45)) 19 (some a46)) 20 (some a47))))))), (a28, .inr (6, [.int 0, .int 0, .int 0, .ref a48, .ref a49, .ref a50, .ref a51])), (a26, .inl (z.2 0, 61, .inl (fun _ => 0))), (a48, .inl (z.2 0, 60, .inl (fun _ => 0))), (a49, .inl (z.2 0, 8, .inl (fun _ => 0))), (a13, .inl (z.2 0, 8, .inl (fun _ => 0))), (a50, .inl (z.2 0, 8, .inl (fun _ => 0))), (a14, .inl (z.2 0, 8, .inl (fun _ => 0))), (a51, .inl (z.2 0, 8, .inl (fun _ => 0))), (a9, .inl (z.2 0, 20, .inl (upd (fun _ => 0) 1 8))), (a10, .inl (z.2 0, 20, .inl (fun _ => 0))), (a11, .inl (z.2 0, 20, .inl (fun _ => 0)))] H := hP
  have hD : va_D A [(a1, .inl (z.2 1, 1, .inr (.inl (fun _ => 0)))), (a0, .inr (11, [.ref a2, .ref a3, .ref a4, .ref a5, .ref a6, .ref a7, .ref a8, .ref a9, .ref a10, .ref a11, .int 1, .int 1, .ref a12, .int 0])), (a5, .inr (7, [.int 0, .ref a13, .ref a14, .ref a15, .ref a16, .ref a17, .int 0, .ref a18, .ref a19, .ref a20, .int 1])), (a16, .inr (4, [.int 0, .int 0, .ref a21, .ref a22, .ref a23, .ref a24, .ref a25, .ref a26])), (a18, .inl (z.2 0, 8, .inl (fun _ => 0))), (a20, .inl (z.2 3, 21, .inr (.inr (.inr (.inr (va_up (va_up (va_up (va_up (va_up (va_up (va_up (va_up (va_up (va_up (va_up (va_up (va_up (va_up (va_up (va_up (va_up (va_up (va_up (va_up (va_up (fun _ => none) 0 (some a27)) 1 (some a28)) 2 (some a29)) 3 (some a30)) 4 (some a31)) 5 (some a32)) 6 (some a33)) 7 (some a34)) 8 (some a35)) 9 (some a36)) 10 (some a37)) 11 (some a38)) 12 (some a39)) 13 (some a40)) 14 (some a41)) 15 (some a42)) 16 (some a43)) 17 (some a44)) 18 (some a45)) 19 (some a46)) 20 (some a47))))))), (a28, .inr (6, [.int 0, .int 0, .int 0, .ref a48, .ref a49, .ref a50, .ref a51])), (a26, .inl (z.2 0, 61, .inl (fun _ => 0))), (a48, .inl (z.2 0, 60, .inl (fun _ => 0))), (a49, .inl (z.2 0, 8, .inl (fun _ => 0))), (a13, .inl (z.2 0, 8, .inl (fun _ => 0))), (a50, .inl (z.2 0, 8, .inl (fun _ => 0))), (a14, .inl (z.2 0, 8, .inl (fun _ => 0))), (a51, .inl (z.2 0, 8, .inl (fun _ => 0))), (a9, .inl (z.2 0, 20, .inl (upd (fun _ => 0) 1 8))), (a10, .inl (z.2 0, 20, .inl (fun _ => 0))), (a11, .inl (z.2 0, 20, .inl (fun _ => 0)))] := hD
  refine W.eq (g2 := F0 m 10 ls [.int 0, .int 0, .ref a1]) rfl ?_
  refine lv_i2l (v := 0) hx hb d_L13_10 (by decide +kernel) ?_
  refine va_last hx hb hG.1 hP hD hS 0 1 rfl rfl (vin rfl) d_L13_11 (fun H locs hP hD hS => ?_)
  rw [updL_z] at hP hD
  have hP : va_P z.1 classes [(a1, .inl (z.2 1, 1, .inr (.inl (fun _ => 0)))), (a0, .inr (11, [.ref a2, .ref a3, .ref a4, .ref a5, .ref a6, .ref a7, .ref a8, .ref a9, .ref a10, .ref a11, .int 1, .int 1, .ref a12, .int 0])), (a5, .inr (7, [.int 0, .ref a13, .ref a14, .ref a15, .ref a16, .ref a17, .int 0, .ref a18, .ref a19, .ref a20, .int 1])), (a16, .inr (4, [.int 0, .int 0, .ref a21, .ref a22, .ref a23, .ref a24, .ref a25, .ref a26])), (a18, .inl (z.2 0, 8, .inl (fun _ => 0))), (a20, .inl (z.2 3, 21, .inr (.inr (.inr (.inr (va_up (va_up (va_up (va_up (va_up (va_up (va_up (va_up (va_up (va_up (va_up (va_up (va_up (va_up (va_up (va_up (va_up (va_up (va_up (va_up (va_up (fun _ => none) 0 (some a27)) 1 (some a28)) 2 (some a29)) 3 (some a30)) 4 (some a31)) 5 (some a32)) 6 (some a33)) 7 (some a34)) 8 (some a35)) 9 (some a36)) 10 (some a37)) 11 (some a38)) 12 (some a39)) 13 (some a40)) 14 (some a41)) 15 (some a42)) 16 (some a43)) 17 (some a44)) 18 (some a45)) 19 (some a46)) 20 (some a47))))))), (a28, .inr (6, [.int 0, .int 0, .int 0, .ref a48, .ref a49, .ref a50, .ref a51])), (a26, .inl (z.2 0, 61, .inl (fun _ => 0))), (a48, .inl (z.2 0, 60, .inl (fun _ => 0))), (a49, .inl (z.2 0, 8, .inl (fun _ => 0))), (a13, .inl (z.2 0, 8, .inl (fun _ => 0))), (a50, .inl (z.2 0, 8, .inl (fun _ => 0))), (a14, .inl (z.2 0, 8, .inl (fun _ => 0))), (a51, .inl (z.2 0, 8, .inl (fun _ => 0))), (a9, .inl (z.2 0, 20, .inl (upd (fun _ => 0) 1 8))), (a10, .inl (z.2 0, 20, .inl (fun _ => 0))), (a11, .inl (z.2 0, 20, .inl (fun _ => 0)))] H := hP
  have hD : va_D A [(a1, .inl (z.2 1, 1, .inr (.inl (fun _ => 0)))), (a0, .inr (11, [.ref a2, .ref a3, .ref a4, .ref a5, .ref a6, .ref a7, .ref a8, .ref a9, .ref a10, .ref a11, .int 1, .int 1, .ref a12, .int 0])), (a5, .inr (7, [.int 0, .ref a13, .ref a14, .ref a15, .ref a16, .ref a17, .int 0, .ref a18, .ref a19, .ref a20, .int 1])), (a16, .inr (4, [.int 0, .int 0, .ref a21, .ref a22, .ref a23, .ref a24, .ref a25, .ref a26])), (a18, .inl (z.2 0, 8, .inl (fun _ => 0))), (a20, .inl (z.2 3, 21, .inr (.inr (.inr (.inr (va_up (va_up (va_up (va_up (va_up (va_up (va_up (va_up (va_up (va_up (va_up (va_up (va_up (va_up (va_up (va_up (va_up (va_up (va_up (va_up (va_up (fun _ => none) 0 (some a27)) 1 (some a28)) 2 (some a29)) 3 (some a30)) 4 (some a31)) 5 (some a32)) 6 (some a33)) 7 (some a34)) 8 (some a35)) 9 (some a36)) 10 (some a37)) 11 (some a38)) 12 (some a39)) 13 (some a40)) 14 (some a41)) 15 (some a42)) 16 (some a43)) 17 (some a44)) 18 (some a45)) 19 (some a46)) 20 (some a47))))))), (a28, .inr (6, [.int 0, .int 0, .int 0, .ref a48, .ref a49, .ref a50, .ref a51])), (a26, .inl (z.2 0, 61, .inl (fun _ => 0))), (a48, .inl (z.2 0, 60, .inl (fun _ => 0))), (a49, .inl (z.2 0, 8, .inl (fun _ => 0))), (a13, .inl (z.2 0, 8, .inl (fun _ => 0))), (a50, .inl (z.2 0, 8, .inl (fun _ => 0))), (a14, .inl (z.2 0, 8, .inl (fun _ => 0))), (a51, .inl (z.2 0, 8, .inl (fun _ => 0))), (a9, .inl (z.2 0, 20, .inl (upd (fun _ => 0) 1 8))), (a10, .inl (z.2 0, 20, .inl (fun _ => 0))), (a11, .inl (z.2 0, 20, .inl (fun _ => 0)))] := hD
  refine lv_goto (tgt := 19) hx hb d_L13_12 (by decide) ?_
  refine lv_iconst (v := 0) hx hb d_L13_19 (by decide +kernel) ?_
  refine W.widen (k := 0) (n := 0) (Nat.le_of_ble_eq_true rfl) (Nat.le_of_ble_eq_true rfl) ?_
  refine vx_ret ?_
  exact W.iret hx hb hr (fun t ht hW => qk hP hD hS [1, 2, 3, 4, 5, 6, 7, 8, 9, 10, 11, 12, 13, 14, 15, 16, 0] rfl ((fun k => k), (fun _ _ => none)) rfl rfl rfl ht) hS.2.2 d_L13_20
set_option maxRecDepth 100000 in
set_option maxHeartbeats 4000000 in
theorem c182_BModel_isIn (l : Launch) (z : Zz) (x0 : Int32) (h0 : ¬ x0 < 0) (h1 : ¬ 20 < x0) : CT l z ⟨"BallothallModel", "isIn", "(III)Z"⟩ prog_14_method_20_code 3 (some .boolean) [.int x0, .int 0, .int 20] [] 0 0 0 0 (fun u => some (.int 1)) (fun u => []) := by
  refine CT.of (own := "BallothallModel") (by decide +kernel) (Nat.le_of_ble_eq_true rfl) rfl (fun p e s m below meth c A ls hx hb hml hr hts hown hlocks hin hA hG hZ hP hD hS hl => ?_)
  have hl : lv_has ls 3 [(0, .int x0), (1, .int 0), (2, .int 20)] := hl
  refine lv_iload_n hx hb d_14_20_0 rfl (lv_at hl 0 rfl) ?_
  refine lv_iload_n hx hb d_14_20_1 rfl (lv_at hl 1 rfl) ?_
  refine lv_icmp_lt (tgt := 14) hx hb d_14_20_2 (by decide) (fun c9 => absurd c9 h0) (fun _ => ?_)
  refine lv_iload_n hx hb d_14_20_5 rfl (lv_at hl 0 rfl) ?_
  refine lv_iload_n hx hb d_14_20_6 rfl (lv_at hl 2 rfl) ?_
  refine lv_icmp_gt (tgt := 14) hx hb d_14_20_7 (by decide) (fun c9 => absurd c9 h1) (fun _ => ?_)
  refine lv_iconst (v := 1) hx hb d_14_20_10 (by decide +kernel) ?_
  refine lv_goto (tgt := 15) hx hb d_14_20_11 (by decide) ?_
  refine W.widen (k := 0) (n := 0) (Nat.le_of_ble_eq_true rfl) (Nat.le_of_ble_eq_true rfl) ?_
  exact W.zret hx hb hr rfl (fun t ht hW => qk hP hD hS [] rfl ((fun k => k), (fun _ _ => none)) rfl rfl rfl ht) hS.2.2 d_14_20_15
set_option maxRecDepth 100000 in
set_option maxHeartbeats 4000000 in
theorem c183_Seats_init (l : Launch) (z : Zz) (a0 a1 a2 : Nat) : CT l z ⟨"BallothallModel$Seats", "<init>", "([I[I)V"⟩ prog_18_method_1_code 3 none [.ref a0, .ref a1, .ref a2] [(a0, .inr (15, [.null, .null, .null, .null, .int 0, .int 0, .int 0]))] 1 20 2 69 (fun u => none) (fun u => [(a0, .inr (15, [.ref a1, .ref a2, .ref (u.1 0), .ref (u.1 1), .int 0, .int 0, .int 0]))]) := by
  refine CT.of (own := "BallothallModel$Seats") (by decide +kernel) (Nat.le_of_ble_eq_true rfl) rfl (fun p e s m below meth c A ls hx hb hml hr hts hown hlocks hin hA hG hZ hP hD hS hl => ?_)
  have hl : lv_has ls 3 [(0, .ref a0), (1, .ref a1), (2, .ref a2)] := hl
  refine lv_aload_n hx hb d_18_1_0 rfl (lv_at hl 0 rfl) ?_
  refine W.objInit hx hb hown (hts _ w_1837) (hts _ w_43) (hts _ w_obj) rfl (by rw [hml]; exact hl.1) rfl d_18_1_1 (Nat.le_of_ble_eq_true rfl) (Nat.le_of_ble_eq_true rfl) ?_
  refine W.eq (g2 := F0 m 4 ls []) rfl ?_
  refine lv_aload_n hx hb d_18_1_4 rfl (lv_at hl 0 rfl) ?_
  refine lv_bipush (v := 8) hx hb d_18_1_5 (by decide +kernel) ?_
  refine va_newa (atype := .int) (N' := 8) (a0 := (8, .inl (fun _ => 0))) hx hb (hts _ w_105) rfl hG.1 hP hD hS hA (fun _ => rfl) (by decide +kernel) (by decide +kernel) (Nat.le_of_ble_eq_true rfl) (Nat.le_of_ble_eq_true rfl) (Nat.le_of_ble_eq_true rfl) d_18_1_7 (fun q0 cA9 H hK9 hP hD hS => ?_)
  obtain rfl := ty_eq0 hK9
  clear hK9
  have hP : va_P z.1 classes [(a0, .inr (15, [.null, .null, .null, .null, .int 0, .int 0, .int 0])), (q0, .inl (z.2 0, 8, .inl (fun _ => 0)))] H := hP
  have hD : va_D A [(a0, .inr (15, [.null, .null, .null, .null, .int 0, .int 0, .int 0])), (q0, .inl (z.2 0, 8, .inl (fun _ => 0)))] := hD
  refine va_putF (D := z.1) (ci := 15) (v := .ref q0) (ty := .array .int) (C := "BallothallModel$Seats") (T := TX15) (N := 7) hx hb hts iX15 tyX15 tyX15_ok nmX15 hown hG.1 hP hD hS 0 rfl rfl 2 (by decide) (hts _ w_1842) (fun _ h9 => h9) rfl hin rfl (by decide +kernel) rfl rfl (Nat.le_of_ble_eq_true rfl) d_18_1_9 (fun H locs hP hD hS => ?_)
  have hP : va_P z.1 classes [(a0, .inr (15, [.null, .null, .ref q0, .null, .int 0, .int 0, .int 0])), (q0, .inl (z.2 0, 8, .inl (fun _ => 0)))] H := hP
  have hD : va_D A [(a0, .inr (15, [.null, .null, .ref q0, .null, .int 0, .int 0, .int 0])), (q0, .inl (z.2 0, 8, .inl (fun _ => 0)))] := hD
  refine lv_aload_n hx hb d_18_1_12 rfl (lv_at hl 0 rfl) ?_
  refine lv_bipush (v := 61) hx hb d_18_1_13 (by decide +kernel) ?_
  refine va_newa (atype := .int) (N' := 61) (a0 := (61, .inl (fun _ => 0))) hx hb (hts _ w_105) rfl hG.1 hP hD hS hA (fun _ => rfl) (by decide +kernel) (by decide +kernel) (Nat.le_of_ble_eq_true rfl) (Nat.le_of_ble_eq_true rfl) (Nat.le_of_ble_eq_true rfl) d_18_1_15 (fun q1 cA9 H hK9 hP hD hS => ?_)
  obtain rfl := ty_eq0 hK9
  clear hK9
  have hP : va_P z.1 classes [(a0, .inr (15, [.null, .null, .ref q0, .null, .int 0, .int 0, .int 0])), (q0, .inl (z.2 0, 8, .inl (fun _ => 0))), (q1, .inl (z.2 0, 61, .inl (fun _ => 0)))] H := hP
  have hD : va_D A [(a0, .inr (15, [.null, .null, .ref q0, .null, .int 0, .int 0, .int 0])), (q0, .inl (z.2 0, 8, .inl (fun _ => 0))), (q1, .inl (z.2 0, 61, .inl (fun _ => 0)))] := hD
  refine va_putF (D := z.1) (ci := 15) (v := .ref q1) (ty := .array .int) (C := "BallothallModel$Seats") (T := TX15) (N := 7) hx hb hts iX15 tyX15 tyX15_ok nmX15 hown hG.1 hP hD hS 0 rfl rfl 3 (by decide) (hts _ w_1844) (fun _ h9 => h9) rfl hin rfl (by decide +kernel) rfl rfl (Nat.le_of_ble_eq_true rfl) d_18_1_17 (fun H locs hP hD hS => ?_)
  have hP : va_P z.1 classes [(a0, .inr (15, [.null, .null, .ref q0, .ref q1, .int 0, .int 0, .int 0])), (q0, .inl (z.2 0, 8, .inl (fun _ => 0))), (q1, .inl (z.2 0, 61, .inl (fun _ => 0)))] H := hP
  have hD : va_D A [(a0, .inr (15, [.null, .null, .ref q0, .ref q1, .int 0, .int 0, .int 0])), (q0, .inl (z.2 0, 8, .inl (fun _ => 0))), (q1, .inl (z.2 0, 61, .inl (fun _ => 0)))] := hD
  refine lv_aload_n hx hb d_18_1_20 rfl (lv_at hl 0 rfl) ?_
  refine lv_aload_n hx hb d_18_1_21 rfl (lv_at hl 1 rfl) ?_
  refine va_putF (D := z.1) (ci := 15) (v := .ref a1) (ty := .array .int) (C := "BallothallModel$Seats") (T := TX15) (N := 7) hx hb hts iX15 tyX15 tyX15_ok nmX15 hown hG.1 hP hD hS 0 rfl rfl 0 (by decide) (hts _ w_1838) (fun _ h9 => h9) rfl hin rfl (by decide +kernel) rfl rfl (Nat.le_of_ble_eq_true rfl) d_18_1_22 (fun H locs hP hD hS => ?_)
  have hP : va_P z.1 classes [(a0, .inr (15, [.ref a1, .null, .ref q0, .ref q1, .int 0, .int 0, .int 0])), (q0, .inl (z.2 0, 8, .inl (fun _ => 0))), (q1, .inl (z.2 0, 61, .inl (fun _ => 0)))] H := hP
  have hD : va_D A [(a0, .inr (15, [.ref a1, .null, .ref q0, .ref q1, .int 0, .int 0, .int 0])), (q0, .inl (z.2 0, 8, .inl (fun _ => 0))), (q1, .inl (z.2 0, 61, .inl (fun _ => 0)))] := hD
  refine lv_aload_n hx hb d_18_1_25 rfl (lv_at hl 0 rfl) ?_
  refine lv_aload_n hx hb d_18_1_26 rfl (lv_at hl 2 rfl) ?_
  refine va_putF (D := z.1) (ci := 15) (v := .ref a2) (ty := .array .int) (C := "BallothallModel$Seats") (T := TX15) (N := 7) hx hb hts iX15 tyX15 tyX15_ok nmX15 hown hG.1 hP hD hS 0 rfl rfl 1 (by decide) (hts _ w_1840) (fun _ h9 => h9) rfl hin rfl (by decide +kernel) rfl rfl (Nat.le_of_ble_eq_true rfl) d_18_1_27 (fun H locs hP hD hS => ?_)
  have hP : va_P z.1 classes [(a0, .inr (15, [.ref a1, .ref a2, .ref q0, .ref q1, .int 0, .int 0, .int 0])), (q0, .inl (z.2 0, 8, .inl (fun _ => 0))), (q1, .inl (z.2 0, 61, .inl (fun _ => 0)))] H := hP
  have hD : va_D A [(a0, .inr (15, [.ref a1, .ref a2, .ref q0, .ref q1, .int 0, .int 0, .int 0])), (q0, .inl (z.2 0, 8, .inl (fun _ => 0))), (q1, .inl (z.2 0, 61, .inl (fun _ => 0)))] := hD
  refine W.widen (k := 2) (n := 69) (Nat.le_of_ble_eq_true rfl) (Nat.le_of_ble_eq_true rfl) ?_
  exact W.vret hx hb hr (fun t ht hW => qk hP hD hS [0] rfl ((fun k => ([q0, q1] : List Nat).getD k 0), (fun _ _ => none)) rfl rfl rfl ht) hS.2.2 d_18_1_30
set_option maxRecDepth 100000 in
set_option maxHeartbeats 4000000 in
theorem c184_Sharing_init (l : Launch) (z : Zz) (a0 a1 a2 a3 : Nat) : CT l z ⟨"BallothallModel$Sharing", "<init>", "(I[J[I[I)V"⟩ prog_19_method_1_code 5 none [.ref a0, .int 0, .ref a1, .ref a2, .ref a3] [(a0, .inr (16, [.int 0, .null, .null, .null, .null, .null, .int 0]))] 1 20 2 61 (fun u => none) (fun u => [(a0, .inr (16, [.int 0, .ref a1, .ref a2, .ref a3, .ref (u.1 0), .ref (u.1 1), .int 0]))]) := by
  refine CT.of (own := "BallothallModel$Sharing") (by decide +kernel) (Nat.le_of_ble_eq_true rfl) rfl (fun p e s m below meth c A ls hx hb hml hr hts hown hlocks hin hA hG hZ hP hD hS hl => ?_)
  have hl : lv_has ls 5 [(0, .ref a0), (1, .int 0), (2, .ref a1), (3, .ref a2), (4, .ref a3)] := hl
  refine lv_aload_n hx hb d_19_1_0 rfl (lv_at hl 0 rfl) ?_
  refine W.objInit hx hb hown (hts _ w_1870) (hts _ w_43) (hts _ w_obj) rfl (by rw [hml]; exact hl.1) rfl d_19_1_1 (Nat.le_of_ble_eq_true rfl) (Nat.le_of_ble_eq_true rfl) ?_
  refine W.eq (g2 := F0 m 4 ls []) rfl ?_
  refine lv_aload_n hx hb d_19_1_4 rfl (lv_at hl 0 rfl) ?_
  refine lv_bipush (v := 61) hx hb d_19_1_5 (by decide +kernel) ?_
  refine va_newa (atype := .int) (N' := 61) (a0 := (61, .inl (fun _ => 0))) hx hb (hts _ w_105) rfl hG.1 hP hD hS hA (fun _ => rfl) (by decide +kernel) (by decide +kernel) (Nat.le_of_ble_eq_true rfl) (Nat.le_of_ble_eq_true rfl) (Nat.le_of_ble_eq_true rfl) d_19_1_7 (fun q0 cA9 H hK9 hP hD hS => ?_)
  obtain rfl := ty_eq0 hK9
  clear hK9
  have hP : va_P z.1 classes [(a0, .inr (16, [.int 0, .null, .null, .null, .null, .null, .int 0])), (q0, .inl (z.2 0, 61, .inl (fun _ => 0)))] H := hP
  have hD : va_D A [(a0, .inr (16, [.int 0, .null, .null, .null, .null, .null, .int 0])), (q0, .inl (z.2 0, 61, .inl (fun _ => 0)))] := hD
  refine va_putF (D := z.1) (ci := 16) (v := .ref q0) (ty := .array .int) (C := "BallothallModel$Sharing") (T := TX16) (N := 7) hx hb hts iX16 tyX16 tyX16_ok nmX16 hown hG.1 hP hD hS 0 rfl rfl 5 (by decide) (hts _ w_1877) (fun _ h9 => h9) rfl hin rfl (by decide +kernel) rfl rfl (Nat.le_of_ble_eq_true rfl) d_19_1_9 (fun H locs hP hD hS => ?_)
  have hP : va_P z.1 classes [(a0, .inr (16, [.int 0, .null, .null, .null, .null, .ref q0, .int 0])), (q0, .inl (z.2 0, 61, .inl (fun _ => 0)))] H := hP
  have hD : va_D A [(a0, .inr (16, [.int 0, .null, .null, .null, .null, .ref q0, .int 0])), (q0, .inl (z.2 0, 61, .inl (fun _ => 0)))] := hD
  refine lv_aload_n hx hb d_19_1_12 rfl (lv_at hl 0 rfl) ?_
  refine lv_iload_n hx hb d_19_1_13 rfl (lv_at hl 1 rfl) ?_
  refine va_putF (D := z.1) (ci := 16) (v := .int 0) (ty := .int) (C := "BallothallModel$Sharing") (T := TX16) (N := 7) hx hb hts iX16 tyX16 tyX16_ok nmX16 hown hG.1 hP hD hS 0 rfl rfl 0 (by decide) (hts _ w_1871) (fun _ h9 => h9) rfl hin rfl (by decide +kernel) rfl rfl (Nat.le_of_ble_eq_true rfl) d_19_1_14 (fun H locs hP hD hS => ?_)
  have hP : va_P z.1 classes [(a0, .inr (16, [.int 0, .null, .null, .null, .null, .ref q0, .int 0])), (q0, .inl (z.2 0, 61, .inl (fun _ => 0)))] H := hP
  have hD : va_D A [(a0, .inr (16, [.int 0, .null, .null, .null, .null, .ref q0, .int 0])), (q0, .inl (z.2 0, 61, .inl (fun _ => 0)))] := hD
  refine lv_aload_n hx hb d_19_1_17 rfl (lv_at hl 0 rfl) ?_
  refine lv_aload_n hx hb d_19_1_18 rfl (lv_at hl 2 rfl) ?_
  refine va_putF (D := z.1) (ci := 16) (v := .ref a1) (ty := .array .long) (C := "BallothallModel$Sharing") (T := TX16) (N := 7) hx hb hts iX16 tyX16 tyX16_ok nmX16 hown hG.1 hP hD hS 0 rfl rfl 1 (by decide) (hts _ w_1872) (fun _ h9 => h9) rfl hin rfl (by decide +kernel) rfl rfl (Nat.le_of_ble_eq_true rfl) d_19_1_19 (fun H locs hP hD hS => ?_)
  have hP : va_P z.1 classes [(a0, .inr (16, [.int 0, .ref a1, .null, .null, .null, .ref q0, .int 0])), (q0, .inl (z.2 0, 61, .inl (fun _ => 0)))] H := hP
  have hD : va_D A [(a0, .inr (16, [.int 0, .ref a1, .null, .null, .null, .ref q0, .int 0])), (q0, .inl (z.2 0, 61, .inl (fun _ => 0)))] := hD
  refine lv_aload_n hx hb d_19_1_22 rfl (lv_at hl 0 rfl) ?_
  refine lv_aload_n hx hb d_19_1_23 rfl (lv_at hl 3 rfl) ?_
  refine va_putF (D := z.1) (ci := 16) (v := .ref a2) (ty := .array .int) (C := "BallothallModel$Sharing") (T := TX16) (N := 7) hx hb hts iX16 tyX16 tyX16_ok nmX16 hown hG.1 hP hD hS 0 rfl rfl 2 (by decide) (hts _ w_1873) (fun _ h9 => h9) rfl hin rfl (by decide +kernel) rfl rfl (Nat.le_of_ble_eq_true rfl) d_19_1_24 (fun H locs hP hD hS => ?_)
  have hP : va_P z.1 classes [(a0, .inr (16, [.int 0, .ref a1, .ref a2, .null, .null, .ref q0, .int 0])), (q0, .inl (z.2 0, 61, .inl (fun _ => 0)))] H := hP
  have hD : va_D A [(a0, .inr (16, [.int 0, .ref a1, .ref a2, .null, .null, .ref q0, .int 0])), (q0, .inl (z.2 0, 61, .inl (fun _ => 0)))] := hD
  refine lv_aload_n hx hb d_19_1_27 rfl (lv_at hl 0 rfl) ?_
  refine lv_aload hx hb d_19_1_28 (lv_at hl 4 rfl) ?_
  refine va_putF (D := z.1) (ci := 16) (v := .ref a3) (ty := .array .int) (C := "BallothallModel$Sharing") (T := TX16) (N := 7) hx hb hts iX16 tyX16 tyX16_ok nmX16 hown hG.1 hP hD hS 0 rfl rfl 3 (by decide) (hts _ w_1874) (fun _ h9 => h9) rfl hin rfl (by decide +kernel) rfl rfl (Nat.le_of_ble_eq_true rfl) d_19_1_30 (fun H locs hP hD hS => ?_)
  have hP : va_P z.1 classes [(a0, .inr (16, [.int 0, .ref a1, .ref a2, .ref a3, .null, .ref q0, .int 0])), (q0, .inl (z.2 0, 61, .inl (fun _ => 0)))] H := hP
  have hD : va_D A [(a0, .inr (16, [.int 0, .ref a1, .ref a2, .ref a3, .null, .ref q0, .int 0])), (q0, .inl (z.2 0, 61, .inl (fun _ => 0)))] := hD
  refine lv_aload_n hx hb d_19_1_33 rfl (lv_at hl 0 rfl) ?_
  refine lv_iload_n hx hb d_19_1_34 rfl (lv_at hl 1 rfl) ?_
  refine va_newa (atype := .int) (N' := 0) (a0 := (0, .inl (fun _ => 0))) hx hb (hts _ w_105) rfl hG.1 hP hD hS hA (fun _ => rfl) (by decide +kernel) (by decide +kernel) (Nat.le_of_ble_eq_true rfl) (Nat.le_of_ble_eq_true rfl) (Nat.le_of_ble_eq_true rfl) d_19_1_35 (fun q1 cA9 H hK9 hP hD hS => ?_)
  obtain rfl := ty_eq0 hK9
  clear hK9
  have hP : va_P z.1 classes [(a0, .inr (16, [.int 0, .ref a1, .ref a2, .ref a3, .null, .ref q0, .int 0])), (q0, .inl (z.2 0, 61, .inl (fun _ => 0))), (q1, .inl (z.2 0, 0, .inl (fun _ => 0)))] H := hP
  have hD : va_D A [(a0, .inr (16, [.int 0, .ref a1, .ref a2, .ref a3, .null, .ref q0, .int 0])), (q0, .inl (z.2 0, 61, .inl (fun _ => 0))), (q1, .inl (z.2 0, 0, .inl (fun _ => 0)))] := hD
  refine va_putF (D := z.1) (ci := 16) (v := .ref q1) (ty := .array .int) (C := "BallothallModel$Sharing") (T := TX16) (N := 7) hx hb hts iX16 tyX16 tyX16_ok nmX16 hown hG.1 hP hD hS 0 rfl rfl 4 (by decide) (hts _ w_1875) (fun _ h9 => h9) rfl hin rfl (by decide +kernel) rfl rfl (Nat.le_of_ble_eq_true rfl) d_19_1_37 (fun H locs hP hD hS => ?_)
  have hP : va_P z.1 classes [(a0, .inr (16, [.int 0, .ref a1, .ref a2, .ref a3, .ref q1, .ref q0, .int 0])), (q0, .inl (z.2 0, 61, .inl (fun _ => 0))), (q1, .inl (z.2 0, 0, .inl (fun _ => 0)))] H := hP
  have hD : va_D A [(a0, .inr (16, [.int 0, .ref a1, .ref a2, .ref a3, .ref q1, .ref q0, .int 0])), (q0, .inl (z.2 0, 61, .inl (fun _ => 0))), (q1, .inl (z.2 0, 0, .inl (fun _ => 0)))] := hD
  refine W.widen (k := 2) (n := 61) (Nat.le_of_ble_eq_true rfl) (Nat.le_of_ble_eq_true rfl) ?_
  exact W.vret hx hb hr (fun t ht hW => qk hP hD hS [0] rfl ((fun k => ([q1, q0] : List Nat).getD k 0), (fun _ _ => none)) rfl rfl rfl ht) hS.2.2 d_19_1_40
set_option maxRecDepth 100000 in
set_option maxHeartbeats 4000000 in
theorem c185_Sharing_share (l : Launch) (z : Zz) (a0 a1 a2 a3 a4 a5 : Nat) (x0 : Int32) (x1 : Int32) : CT l z ⟨"BallothallModel$Sharing", "share", "(II)V"⟩ prog_19_method_4_code 9 none [.ref a0, .int x0, .int x1] [(a0, .inr (16, [.int 0, .ref a1, .ref a2, .ref a3, .ref a4, .ref a5, .int 0]))] 0 0 0 0 (fun u => none) (fun u => [(a0, .inr (16, [.int 0, .ref a1, .ref a2, .ref a3, .ref a4, .ref a5, .int 0]))]) := by
  refine CT.of (own := "BallothallModel$Sharing") (by decide +kernel) (Nat.le_of_ble_eq_true rfl) rfl (fun p e s m below meth c A ls hx hb hml hr hts hown hlocks hin hA hG hZ hP hD hS hl => ?_)
  have hl : lv_has ls 9 [(0, .ref a0), (1, .int x0), (2, .int x1)] := hl
  refine lv_aload_n hx hb d_19_4_0 rfl (lv_at hl 0 rfl) ?_
  refine va_get (D := z.1) (ci := 16) (v := .int 0) (C := "BallothallModel$Sharing") (T := TX16) (N := 7) hx hb hts iX16 hown hG.1 hP 0 rfl rfl 0 (by decide) (hts _ w_1871) (fun _ h9 => h9) rfl d_19_4_1 ?_
  refine lv_if_ne (tgt := 8) hx hb d_19_4_4 (by decide) (fun c9 => absurd (by decide +kernel) c9) (fun _ => ?_)
  refine W.widen (k := 0) (n := 0) (Nat.le_of_ble_eq_true rfl) (Nat.le_of_ble_eq_true rfl) ?_
  exact W.vret hx hb hr (fun t ht hW => qk hP hD hS [0] rfl ((fun k => k), (fun _ _ => none)) rfl rfl rfl ht) hS.2.2 d_19_4_7
set_option maxRecDepth 100000 in
set_option maxHeartbeats 4000000 in
theorem c186_BModel_distributed (l : Launch) (z : Zz) (a0 a1 a2 : Nat) (x0 : Int32) (x1 : Int32) (x2 : Int32) : CT l z ⟨"BallothallModel", "distributed", "([I[I[IIII)LBallothallModel$Seats;"⟩ prog_14_method_15_code 25 (some (.object "BallothallModel$Seats")) [.ref a0, .ref a1, .ref a2, .int x0, .int x1, .int x2] [(a0, .inl (z.2 0, 0, .inl (fun _ => 0)))] 2 52 12 144 (fun u => some (.ref (u.1 0))) (fun u => [(a0, .inl (z.2 0, 0, .inl (fun _ => 0))), ((u.1 0), .inr (15, [.ref a0, .ref a1, .ref (u.1 1), .ref (u.1 2), .int 0, .int 0, .int 0]))]) := by
  refine CT.of (own := "BallothallModel") (by decide +kernel) (Nat.le_of_ble_eq_true rfl) rfl (fun p e s m below meth c A ls hx hb hml hr hts hown hlocks hin hA hG hZ hP hD hS hl => ?_)
  have hl : lv_has ls 25 [(0, .ref a0), (1, .ref a1), (2, .ref a2), (3, .int x0), (4, .int x1), (5, .int x2)] := hl
  refine lv_aload_n hx hb d_14_15_0 rfl (lv_at hl 0 rfl) ?_
  refine va_alen (v := 0) hx hb hG.1 hP 0 0 rfl rfl rfl d_14_15_1 ?_
  refine lv_istore (lv' := [(6, .int 0), (0, .ref a0), (1, .ref a1), (2, .ref a2), (3, .int x0), (4, .int x1), (5, .int x2)]) hx hb d_14_15_2 hl (by decide) rfl (fun ls hl => ?_)
  refine va_new (ci := 15) (fs := [.null, .null, .null, .null, .int 0, .int 0, .int 0]) (C := "BallothallModel$Seats") (T := TX15) (N := 7) hx hb hts iX15 tyX15 tyX15_ok hown (hts _ w_1832) (hts _ w_1833) (hts _ w_24) hG.1 hP hD hS hA rfl fsX15 (Nat.le_of_ble_eq_true rfl) (Nat.le_of_ble_eq_true rfl) d_14_15_4 (fun q0 H hP hD hS => ?_)
  have hP : va_P z.1 classes [(a0, .inl (z.2 0, 0, .inl (fun _ => 0))), (q0, .inr (15, [.null, .null, .null, .null, .int 0, .int 0, .int 0]))] H := hP
  have hD : va_D A [(a0, .inl (z.2 0, 0, .inl (fun _ => 0))), (q0, .inr (15, [.null, .null, .null, .null, .int 0, .int 0, .int 0]))] := hD
  refine lv_dup hx hb d_14_15_7 rfl ?_
  refine lv_aload_n hx hb d_14_15_8 rfl (lv_at hl 1 rfl) ?_
  refine lv_aload_n hx hb d_14_15_9 rfl (lv_at hl 2 rfl) ?_
  refine kI (As := [.ref a0, .ref a1]) (rest := [.ref q0]) (wr := [(a0, .inl (z.2 0, 0, .inl (fun _ => 0)))]) (c183_Seats_init l z q0 a0 a1) hx hb hml hown hts w_1836 w_1834 w_1835 rfl w_24 md_0cda89 ⟨Nat.le_of_ble_eq_true rfl, Nat.le_of_ble_eq_true rfl⟩ hG hZ hP hD hS hA [1] [0] rfl rfl rfl rfl rfl hl.1 rfl (Nat.le_of_ble_eq_true rfl) d_14_15_10 ⟨Nat.le_of_ble_eq_true rfl, Nat.le_of_ble_eq_true rfl⟩ (fun u0 H locs hP hD hS => ?_)
  have hP : va_P z.1 classes [(a0, .inl (z.2 0, 0, .inl (fun _ => 0))), (q0, .inr (15, [.ref a0, .ref a1, .ref (u0.1 0), .ref (u0.1 1), .int 0, .int 0, .int 0]))] H := hP
  have hD : va_D A [(a0, .inl (z.2 0, 0, .inl (fun _ => 0))), (q0, .inr (15, [.ref a0, .ref a1, .ref (u0.1 0), .ref (u0.1 1), .int 0, .int 0, .int 0]))] := hD
  refine W.eq (g2 := F0 m 13 ls [.ref q0]) rfl ?_
  refine lv_astore (lv' := [(7, .ref q0), (6, .int 0), (0, .ref a0), (1, .ref a1), (2, .ref a2), (3, .int x0), (4, .int x1), (5, .int x2)]) hx hb d_14_15_13 hl (by decide) rfl (fun ls hl => ?_)
  refine lv_lconst (v := 0) hx hb d_14_15_15 (by decide +kernel) ?_
  refine lv_lstore (lv' := [(8, .long 0), (7, .ref q0), (6, .int 0), (0, .ref a0), (1, .ref a1), (2, .ref a2), (3, .int x0), (4, .int x1), (5, .int x2)]) hx hb d_14_15_16 hl (by decide) rfl (fun ls hl => ?_)
  refine lv_aload_n hx hb d_14_15_18 rfl (lv_at hl 3 rfl) ?_
  refine lv_astore (lv' := [(10, .ref a0), (8, .long 0), (7, .ref q0), (6, .int 0), (0, .ref a0), (1, .ref a1), (2, .ref a2), (3, .int x0), (4, .int x1), (5, .int x2)]) hx hb d_14_15_19 hl (by decide) rfl (fun ls hl => ?_)
  refine lv_aload hx hb d_14_15_21 (lv_at hl 0 rfl) ?_
  refine va_alen (v := 0) hx hb hG.1 hP 0 0 rfl rfl rfl d_14_15_23 ?_
  refine lv_istore (lv' := [(11, .int 0), (10, .ref a0), (8, .long 0), (7, .ref q0), (6, .int 0), (0, .ref a0), (1, .ref a1), (2, .ref a2), (3, .int x0), (4, .int x1), (5, .int x2)]) hx hb d_14_15_24 hl (by decide) rfl (fun ls hl => ?_)
  refine lv_iconst (v := 0) hx hb d_14_15_26 (by decide +kernel) ?_
  refine lv_istore (lv' := [(12, .int 0), (11, .int 0), (10, .ref a0), (8, .long 0), (7, .ref q0), (6, .int 0), (0, .ref a0), (1, .ref a1), (2, .ref a2), (3, .int x0), (4, .int x1), (5, .int x2)]) hx hb d_14_15_27 hl (by decide) rfl (fun ls hl => ?_)
  refine lv_iload hx hb d_14_15_29 (lv_at hl 0 rfl) ?_
  refine lv_iload hx hb d_14_15_31 (lv_at hl 1 rfl) ?_
  refine lv_icmp_ge (tgt := 57) hx hb d_14_15_33 (by decide) (fun _ => ?_) (fun c9 => absurd (by decide +kernel) c9)
  refine lv_iload hx hb d_14_15_57 (lv_at hl 5 rfl) ?_
  refine va_newa (atype := .int) (N' := 0) (a0 := (0, .inl (fun _ => 0))) hx hb (hts _ w_105) rfl hG.1 hP hD hS hA (fun _ => rfl) (by decide +kernel) (by decide +kernel) (Nat.le_of_ble_eq_true rfl) (Nat.le_of_ble_eq_true rfl) (Nat.le_of_ble_eq_true rfl) d_14_15_59 (fun q1 cA9 H hK9 hP hD hS => ?_)
  obtain rfl := ty_eq0 hK9
  clear hK9
  have hP : va_P z.1 classes [(a0, .inl (z.2 0, 0, .inl (fun _ => 0))), (q0, .inr (15, [.ref a0, .ref a1, .ref (u0.1 0), .ref (u0.1 1), .int 0, .int 0, .int 0])), (q1, .inl (z.2 0, 0, .inl (fun _ => 0)))] H := hP
  have hD : va_D A [(a0, .inl (z.2 0, 0, .inl (fun _ => 0))), (q0, .inr (15, [.ref a0, .ref a1, .ref (u0.1 0), .ref (u0.1 1), .int 0, .int 0, .int 0])), (q1, .inl (z.2 0, 0, .inl (fun _ => 0)))] := hD
  refine lv_astore (lv' := [(10, .ref q1), (12, .int 0), (11, .int 0), (8, .long 0), (7, .ref q0), (6, .int 0), (0, .ref a0), (1, .ref a1), (2, .ref a2), (3, .int x0), (4, .int x1), (5, .int x2)]) hx hb d_14_15_61 hl (by decide) rfl (fun ls hl => ?_)
  refine lv_iload hx hb d_14_15_63 (lv_at hl 5 rfl) ?_
  refine va_newa (atype := .long) (N' := 0) (a0 := (0, .inr (.inl (fun _ => 0)))) hx hb (hts _ w_152) rfl hG.1 hP hD hS hA (fun _ => rfl) (by decide +kernel) (by decide +kernel) (Nat.le_of_ble_eq_true rfl) (Nat.le_of_ble_eq_true rfl) (Nat.le_of_ble_eq_true rfl) d_14_15_65 (fun q2 cA9 H hK9 hP hD hS => ?_)
  obtain rfl := ty_eq1 hK9
  clear hK9
  have hP : va_P z.1 classes [(a0, .inl (z.2 0, 0, .inl (fun _ => 0))), (q0, .inr (15, [.ref a0, .ref a1, .ref (u0.1 0), .ref (u0.1 1), .int 0, .int 0, .int 0])), (q1, .inl (z.2 0, 0, .inl (fun _ => 0))), (q2, .inl (z.2 1, 0, .inr (.inl (fun _ => 0))))] H := hP
  have hD : va_D A [(a0, .inl (z.2 0, 0, .inl (fun _ => 0))), (q0, .inr (15, [.ref a0, .ref a1, .ref (u0.1 0), .ref (u0.1 1), .int 0, .int 0, .int 0])), (q1, .inl (z.2 0, 0, .inl (fun _ => 0))), (q2, .inl (z.2 1, 0, .inr (.inl (fun _ => 0))))] := hD
  refine lv_astore (lv' := [(11, .ref q2), (10, .ref q1), (12, .int 0), (8, .long 0), (7, .ref q0), (6, .int 0), (0, .ref a0), (1, .ref a1), (2, .ref a2), (3, .int x0), (4, .int x1), (5, .int x2)]) hx hb d_14_15_67 hl (by decide) rfl (fun ls hl => ?_)
  refine lv_iload hx hb d_14_15_69 (lv_at hl 5 rfl) ?_
  refine va_newa (atype := .int) (N' := 0) (a0 := (0, .inl (fun _ => 0))) hx hb (hts _ w_105) rfl hG.1 hP hD hS hA (fun _ => rfl) (by decide +kernel) (by decide +kernel) (Nat.le_of_ble_eq_true rfl) (Nat.le_of_ble_eq_true rfl) (Nat.le_of_ble_eq_true rfl) d_14_15_71 (fun q3 cA9 H hK9 hP hD hS => ?_)
  obtain rfl := ty_eq0 hK9
  clear hK9
  have hP : va_P z.1 classes [(a0, .inl (z.2 0, 0, .inl (fun _ => 0))), (q0, .inr (15, [.ref a0, .ref a1, .ref (u0.1 0), .ref (u0.1 1), .int 0, .int 0, .int 0])), (q1, .inl (z.2 0, 0, .inl (fun _ => 0))), (q2, .inl (z.2 1, 0, .inr (.inl (fun _ => 0)))), (q3, .inl (z.2 0, 0, .inl (fun _ => 0)))] H := hP
  have hD : va_D A [(a0, .inl (z.2 0, 0, .inl (fun _ => 0))), (q0, .inr (15, [.ref a0, .ref a1, .ref (u0.1 0), .ref (u0.1 1), .int 0, .int 0, .int 0])), (q1, .inl (z.2 0, 0, .inl (fun _ => 0))), (q2, .inl (z.2 1, 0, .inr (.inl (fun _ => 0)))), (q3, .inl (z.2 0, 0, .inl (fun _ => 0)))] := hD
  refine lv_astore (lv' := [(12, .ref q3), (11, .ref q2), (10, .ref q1), (8, .long 0), (7, .ref q0), (6, .int 0), (0, .ref a0), (1, .ref a1), (2, .ref a2), (3, .int x0), (4, .int x1), (5, .int x2)]) hx hb d_14_15_73 hl (by decide) rfl (fun ls hl => ?_)
  refine lv_iconst (v := 0) hx hb d_14_15_75 (by decide +kernel) ?_
  refine lv_istore (lv' := [(13, .int 0), (12, .ref q3), (11, .ref q2), (10, .ref q1), (8, .long 0), (7, .ref q0), (6, .int 0), (0, .ref a0), (1, .ref a1), (2, .ref a2), (3, .int x0), (4, .int x1), (5, .int x2)]) hx hb d_14_15_76 hl (by decide) rfl (fun ls hl => ?_)
  refine lv_iload hx hb d_14_15_78 (lv_at hl 0 rfl) ?_
  refine lv_iload hx hb d_14_15_80 (lv_at hl 6 rfl) ?_
  refine lv_icmp_ge (tgt := 154) hx hb d_14_15_82 (by decide) (fun _ => ?_) (fun c9 => absurd (by decide +kernel) c9)
  refine lv_iconst (v := 0) hx hb d_14_15_154 (by decide +kernel) ?_
  refine lv_istore (lv' := [(13, .int 0), (12, .ref q3), (11, .ref q2), (10, .ref q1), (8, .long 0), (7, .ref q0), (6, .int 0), (0, .ref a0), (1, .ref a1), (2, .ref a2), (3, .int x0), (4, .int x1), (5, .int x2)]) hx hb d_14_15_155 hl (by decide) rfl (fun ls hl => ?_)
  refine lv_iload hx hb d_14_15_157 (lv_at hl 6 rfl) ?_
  refine va_newa (atype := .long) (N' := 0) (a0 := (0, .inr (.inl (fun _ => 0)))) hx hb (hts _ w_152) rfl hG.1 hP hD hS hA (fun _ => rfl) (by decide +kernel) (by decide +kernel) (Nat.le_of_ble_eq_true rfl) (Nat.le_of_ble_eq_true rfl) (Nat.le_of_ble_eq_true rfl) d_14_15_159 (fun q4 cA9 H hK9 hP hD hS => ?_)
  obtain rfl := ty_eq1 hK9
  clear hK9
  have hP : va_P z.1 classes [(a0, .inl (z.2 0, 0, .inl (fun _ => 0))), (q0, .inr (15, [.ref a0, .ref a1, .ref (u0.1 0), .ref (u0.1 1), .int 0, .int 0, .int 0])), (q1, .inl (z.2 0, 0, .inl (fun _ => 0))), (q2, .inl (z.2 1, 0, .inr (.inl (fun _ => 0)))), (q3, .inl (z.2 0, 0, .inl (fun _ => 0))), (q4, .inl (z.2 1, 0, .inr (.inl (fun _ => 0))))] H := hP
  have hD : va_D A [(a0, .inl (z.2 0, 0, .inl (fun _ => 0))), (q0, .inr (15, [.ref a0, .ref a1, .ref (u0.1 0), .ref (u0.1 1), .int 0, .int 0, .int 0])), (q1, .inl (z.2 0, 0, .inl (fun _ => 0))), (q2, .inl (z.2 1, 0, .inr (.inl (fun _ => 0)))), (q3, .inl (z.2 0, 0, .inl (fun _ => 0))), (q4, .inl (z.2 1, 0, .inr (.inl (fun _ => 0))))] := hD
  refine lv_astore (lv' := [(14, .ref q4), (13, .int 0), (12, .ref q3), (11, .ref q2), (10, .ref q1), (8, .long 0), (7, .ref q0), (6, .int 0), (0, .ref a0), (1, .ref a1), (2, .ref a2), (3, .int x0), (4, .int x1), (5, .int x2)]) hx hb d_14_15_161 hl (by decide) rfl (fun ls hl => ?_)
  refine lv_iload hx hb d_14_15_163 (lv_at hl 7 rfl) ?_
  refine va_newa (atype := .int) (N' := 0) (a0 := (0, .inl (fun _ => 0))) hx hb (hts _ w_105) rfl hG.1 hP hD hS hA (fun _ => rfl) (by decide +kernel) (by decide +kernel) (Nat.le_of_ble_eq_true rfl) (Nat.le_of_ble_eq_true rfl) (Nat.le_of_ble_eq_true rfl) d_14_15_165 (fun q5 cA9 H hK9 hP hD hS => ?_)
  obtain rfl := ty_eq0 hK9
  clear hK9
  have hP : va_P z.1 classes [(a0, .inl (z.2 0, 0, .inl (fun _ => 0))), (q0, .inr (15, [.ref a0, .ref a1, .ref (u0.1 0), .ref (u0.1 1), .int 0, .int 0, .int 0])), (q1, .inl (z.2 0, 0, .inl (fun _ => 0))), (q2, .inl (z.2 1, 0, .inr (.inl (fun _ => 0)))), (q3, .inl (z.2 0, 0, .inl (fun _ => 0))), (q4, .inl (z.2 1, 0, .inr (.inl (fun _ => 0)))), (q5, .inl (z.2 0, 0, .inl (fun _ => 0)))] H := hP
  have hD : va_D A [(a0, .inl (z.2 0, 0, .inl (fun _ => 0))), (q0, .inr (15, [.ref a0, .ref a1, .ref (u0.1 0), .ref (u0.1 1), .int 0, .int 0, .int 0])), (q1, .inl (z.2 0, 0, .inl (fun _ => 0))), (q2, .inl (z.2 1, 0, .inr (.inl (fun _ => 0)))), (q3, .inl (z.2 0, 0, .inl (fun _ => 0))), (q4, .inl (z.2 1, 0, .inr (.inl (fun _ => 0)))), (q5, .inl (z.2 0, 0, .inl (fun _ => 0)))] := hD
  refine lv_astore (lv' := [(15, .ref q5), (14, .ref q4), (13, .int 0), (12, .ref q3), (11, .ref q2), (10, .ref q1), (8, .long 0), (7, .ref q0), (6, .int 0), (0, .ref a0), (1, .ref a1), (2, .ref a2), (3, .int x0), (4, .int x1), (5, .int x2)]) hx hb d_14_15_167 hl (by decide) rfl (fun ls hl => ?_)
  refine lv_iload hx hb d_14_15_169 (lv_at hl 8 rfl) ?_
  refine va_newa (atype := .int) (N' := 0) (a0 := (0, .inl (fun _ => 0))) hx hb (hts _ w_105) rfl hG.1 hP hD hS hA (fun _ => rfl) (by decide +kernel) (by decide +kernel) (Nat.le_of_ble_eq_true rfl) (Nat.le_of_ble_eq_true rfl) (Nat.le_of_ble_eq_true rfl) d_14_15_171 (fun q6 cA9 H hK9 hP hD hS => ?_)
  obtain rfl := ty_eq0 hK9
  clear hK9
  have hP : va_P z.1 classes [(a0, .inl (z.2 0, 0, .inl (fun _ => 0))), (q0, .inr (15, [.ref a0, .ref a1, .ref (u0.1 0), .ref (u0.1 1), .int 0, .int 0, .int 0])), (q1, .inl (z.2 0, 0, .inl (fun _ => 0))), (q2, .inl (z.2 1, 0, .inr (.inl (fun _ => 0)))), (q3, .inl (z.2 0, 0, .inl (fun _ => 0))), (q4, .inl (z.2 1, 0, .inr (.inl (fun _ => 0)))), (q5, .inl (z.2 0, 0, .inl (fun _ => 0))), (q6, .inl (z.2 0, 0, .inl (fun _ => 0)))] H := hP
  have hD : va_D A [(a0, .inl (z.2 0, 0, .inl (fun _ => 0))), (q0, .inr (15, [.ref a0, .ref a1, .ref (u0.1 0), .ref (u0.1 1), .int 0, .int 0, .int 0])), (q1, .inl (z.2 0, 0, .inl (fun _ => 0))), (q2, .inl (z.2 1, 0, .inr (.inl (fun _ => 0)))), (q3, .inl (z.2 0, 0, .inl (fun _ => 0))), (q4, .inl (z.2 1, 0, .inr (.inl (fun _ => 0)))), (q5, .inl (z.2 0, 0, .inl (fun _ => 0))), (q6, .inl (z.2 0, 0, .inl (fun _ => 0)))] := hD
  refine lv_astore (lv' := [(16, .ref q6), (15, .ref q5), (14, .ref q4), (13, .int 0), (12, .ref q3), (11, .ref q2), (10, .ref q1), (8, .long 0), (7, .ref q0), (6, .int 0), (0, .ref a0), (1, .ref a1), (2, .ref a2), (3, .int x0), (4, .int x1), (5, .int x2)]) hx hb d_14_15_173 hl (by decide) rfl (fun ls hl => ?_)
  refine lv_iconst (v := 0) hx hb d_14_15_175 (by decide +kernel) ?_
  refine lv_istore (lv' := [(17, .int 0), (16, .ref q6), (15, .ref q5), (14, .ref q4), (13, .int 0), (12, .ref q3), (11, .ref q2), (10, .ref q1), (8, .long 0), (7, .ref q0), (6, .int 0), (0, .ref a0), (1, .ref a1), (2, .ref a2), (3, .int x0), (4, .int x1), (5, .int x2)]) hx hb d_14_15_176 hl (by decide) rfl (fun ls hl => ?_)
  refine lv_iload hx hb d_14_15_178 (lv_at hl 0 rfl) ?_
  refine lv_iload hx hb d_14_15_180 (lv_at hl 10 rfl) ?_
  refine lv_icmp_ge (tgt := 283) hx hb d_14_15_182 (by decide) (fun _ => ?_) (fun c9 => absurd (by decide +kernel) c9)
  refine lv_aload hx hb d_14_15_283 (lv_at hl 9 rfl) ?_
  refine lv_iload hx hb d_14_15_285 (lv_at hl 4 rfl) ?_
  refine va_putN (D := z.1) (ci := 15) (v := .int 0) (ty := .int) (C := "BallothallModel$Seats") (T := TX15) (N := 7) hx hb hts iX15 tyX15 tyX15_ok nmX15 hown hG.1 hP hD hS 1 rfl rfl 5 (by decide) (va_Nw.use rfl (hG.2.1 _ n_1847 rfl)) (fun _ h9 => h9) rfl (by decide +kernel) rfl rfl (Nat.le_of_ble_eq_true rfl) d_14_15_287 (fun H locs hP hD hS => ?_)
  have hP : va_P z.1 classes [(a0, .inl (z.2 0, 0, .inl (fun _ => 0))), (q0, .inr (15, [.ref a0, .ref a1, .ref (u0.1 0), .ref (u0.1 1), .int 0, .int 0, .int 0])), (q1, .inl (z.2 0, 0, .inl (fun _ => 0))), (q2, .inl (z.2 1, 0, .inr (.inl (fun _ => 0)))), (q3, .inl (z.2 0, 0, .inl (fun _ => 0))), (q4, .inl (z.2 1, 0, .inr (.inl (fun _ => 0)))), (q5, .inl (z.2 0, 0, .inl (fun _ => 0))), (q6, .inl (z.2 0, 0, .inl (fun _ => 0)))] H := hP
  have hD : va_D A [(a0, .inl (z.2 0, 0, .inl (fun _ => 0))), (q0, .inr (15, [.ref a0, .ref a1, .ref (u0.1 0), .ref (u0.1 1), .int 0, .int 0, .int 0])), (q1, .inl (z.2 0, 0, .inl (fun _ => 0))), (q2, .inl (z.2 1, 0, .inr (.inl (fun _ => 0)))), (q3, .inl (z.2 0, 0, .inl (fun _ => 0))), (q4, .inl (z.2 1, 0, .inr (.inl (fun _ => 0)))), (q5, .inl (z.2 0, 0, .inl (fun _ => 0))), (q6, .inl (z.2 0, 0, .inl (fun _ => 0)))] := hD
  refine va_new (ci := 16) (fs := [.int 0, .null, .null, .null, .null, .null, .int 0]) (C := "BallothallModel$Sharing") (T := TX16) (N := 7) hx hb hts iX16 tyX16 tyX16_ok hown (hts _ w_1865) (hts _ w_1866) (hts _ w_25) hG.1 hP hD hS hA rfl fsX16 (Nat.le_of_ble_eq_true rfl) (Nat.le_of_ble_eq_true rfl) d_14_15_290 (fun q7 H hP hD hS => ?_)
  have hP : va_P z.1 classes [(a0, .inl (z.2 0, 0, .inl (fun _ => 0))), (q0, .inr (15, [.ref a0, .ref a1, .ref (u0.1 0), .ref (u0.1 1), .int 0, .int 0, .int 0])), (q1, .inl (z.2 0, 0, .inl (fun _ => 0))), (q2, .inl (z.2 1, 0, .inr (.inl (fun _ => 0)))), (q3, .inl (z.2 0, 0, .inl (fun _ => 0))), (q4, .inl (z.2 1, 0, .inr (.inl (fun _ => 0)))), (q5, .inl (z.2 0, 0, .inl (fun _ => 0))), (q6, .inl (z.2 0, 0, .inl (fun _ => 0))), (q7, .inr (16, [.int 0, .null, .null, .null, .null, .null, .int 0]))] H := hP
  have hD : va_D A [(a0, .inl (z.2 0, 0, .inl (fun _ => 0))), (q0, .inr (15, [.ref a0, .ref a1, .ref (u0.1 0), .ref (u0.1 1), .int 0, .int 0, .int 0])), (q1, .inl (z.2 0, 0, .inl (fun _ => 0))), (q2, .inl (z.2 1, 0, .inr (.inl (fun _ => 0)))), (q3, .inl (z.2 0, 0, .inl (fun _ => 0))), (q4, .inl (z.2 1, 0, .inr (.inl (fun _ => 0)))), (q5, .inl (z.2 0, 0, .inl (fun _ => 0))), (q6, .inl (z.2 0, 0, .inl (fun _ => 0))), (q7, .inr (16, [.int 0, .null, .null, .null, .null, .null, .int 0]))] := hD
  refine lv_dup hx hb d_14_15_293 rfl ?_
  refine lv_iload hx hb d_14_15_294 (lv_at hl 4 rfl) ?_
  refine lv_aload hx hb d_14_15_296 (lv_at hl 3 rfl) ?_
  refine lv_aload hx hb d_14_15_298 (lv_at hl 2 rfl) ?_
  refine lv_aload hx hb d_14_15_300 (lv_at hl 1 rfl) ?_
  refine kI (As := [.int 0, .ref q4, .ref q5, .ref q6]) (rest := [.ref q7]) (wr := [(a0, .inl (z.2 0, 0, .inl (fun _ => 0))), (q0, .inr (15, [.ref a0, .ref a1, .ref (u0.1 0), .ref (u0.1 1), .int 0, .int 0, .int 0])), (q1, .inl (z.2 0, 0, .inl (fun _ => 0))), (q2, .inl (z.2 1, 0, .inr (.inl (fun _ => 0)))), (q3, .inl (z.2 0, 0, .inl (fun _ => 0))), (q4, .inl (z.2 1, 0, .inr (.inl (fun _ => 0)))), (q5, .inl (z.2 0, 0, .inl (fun _ => 0))), (q6, .inl (z.2 0, 0, .inl (fun _ => 0)))]) (c184_Sharing_init l z q7 q4 q5 q6) hx hb hml hown hts w_1869 w_1867 w_1868 rfl w_25 md_545a0b ⟨Nat.le_of_ble_eq_true rfl, Nat.le_of_ble_eq_true rfl⟩ hG hZ hP hD hS hA [8] [0, 1, 2, 3, 4, 5, 6, 7] rfl rfl rfl rfl rfl hl.1 rfl (Nat.le_of_ble_eq_true rfl) d_14_15_302 ⟨Nat.le_of_ble_eq_true rfl, Nat.le_of_ble_eq_true rfl⟩ (fun u1 H locs hP hD hS => ?_)
  have hP : va_P z.1 classes [(a0, .inl (z.2 0, 0, .inl (fun _ => 0))), (q0, .inr (15, [.ref a0, .ref a1, .ref (u0.1 0), .ref (u0.1 1), .int 0, .int 0, .int 0])), (q1, .inl (z.2 0, 0, .inl (fun _ => 0))), (q2, .inl (z.2 1, 0, .inr (.inl (fun _ => 0)))), (q3, .inl (z.2 0, 0, .inl (fun _ => 0))), (q4, .inl (z.2 1, 0, .inr (.inl (fun _ => 0)))), (q5, .inl (z.2 0, 0, .inl (fun _ => 0))), (q6, .inl (z.2 0, 0, .inl (fun _ => 0))), (q7, .inr (16, [.int 0, .ref q4, .ref q5, .ref q6, .ref (u1.1 0), .ref (u1.1 1), .int 0]))] H := hP
  have hD : va_D A [(a0, .inl (z.2 0, 0, .inl (fun _ => 0))), (q0, .inr (15, [.ref a0, .ref a1, .ref (u0.1 0), .ref (u0.1 1), .int 0, .int 0, .int 0])), (q1, .inl (z.2 0, 0, .inl (fun _ => 0))), (q2, .inl (z.2 1, 0, .inr (.inl (fun _ => 0)))), (q3, .inl (z.2 0, 0, .inl (fun _ => 0))), (q4, .inl (z.2 1, 0, .inr (.inl (fun _ => 0)))), (q5, .inl (z.2 0, 0, .inl (fun _ => 0))), (q6, .inl (z.2 0, 0, .inl (fun _ => 0))), (q7, .inr (16, [.int 0, .ref q4, .ref q5, .ref q6, .ref (u1.1 0), .ref (u1.1 1), .int 0]))] := hD
  refine W.eq (g2 := F0 m 305 ls [.ref q7]) rfl ?_
  refine lv_astore (lv' := [(17, .ref q7), (16, .ref q6), (15, .ref q5), (14, .ref q4), (13, .int 0), (12, .ref q3), (11, .ref q2), (10, .ref q1), (8, .long 0), (7, .ref q0), (6, .int 0), (0, .ref a0), (1, .ref a1), (2, .ref a2), (3, .int x0), (4, .int x1), (5, .int x2)]) hx hb d_14_15_305 hl (by decide) rfl (fun ls hl => ?_)
  refine lv_aload hx hb d_14_15_307 (lv_at hl 0 rfl) ?_
  refine lv_iload_n hx hb d_14_15_309 rfl (lv_at hl 14 rfl) ?_
  refine lv_iload hx hb d_14_15_310 (lv_at hl 15 rfl) ?_
  refine kV (As := [.int x0, .int x1]) (rest := []) (wr := [(a0, .inl (z.2 0, 0, .inl (fun _ => 0))), (q0, .inr (15, [.ref a0, .ref a1, .ref (u0.1 0), .ref (u0.1 1), .int 0, .int 0, .int 0])), (q1, .inl (z.2 0, 0, .inl (fun _ => 0))), (q2, .inl (z.2 1, 0, .inr (.inl (fun _ => 0)))), (q3, .inl (z.2 0, 0, .inl (fun _ => 0))), (q4, .inl (z.2 1, 0, .inr (.inl (fun _ => 0)))), (q5, .inl (z.2 0, 0, .inl (fun _ => 0))), (q6, .inl (z.2 0, 0, .inl (fun _ => 0)))]) (c185_Sharing_share l z q7 q4 q5 q6 (u1.1 0) (u1.1 1) x0 x1) hx hb hml hown hts w_1899 w_1896 w_1897 w_1898 w_25 md_ff2976 ⟨Nat.le_of_ble_eq_true rfl, Nat.le_of_ble_eq_true rfl⟩ hG hZ hP hD hS hA 8 rfl rfl rfl [8] [0, 1, 2, 3, 4, 5, 6, 7] rfl rfl rfl rfl rfl hl.1 rfl (Nat.le_of_ble_eq_true rfl) d_14_15_312 ⟨Nat.le_of_ble_eq_true rfl, Nat.le_of_ble_eq_true rfl⟩ (fun u2 H locs hP hD hS => ?_)
  have hP : va_P z.1 classes [(a0, .inl (z.2 0, 0, .inl (fun _ => 0))), (q0, .inr (15, [.ref a0, .ref a1, .ref (u0.1 0), .ref (u0.1 1), .int 0, .int 0, .int 0])), (q1, .inl (z.2 0, 0, .inl (fun _ => 0))), (q2, .inl (z.2 1, 0, .inr (.inl (fun _ => 0)))), (q3, .inl (z.2 0, 0, .inl (fun _ => 0))), (q4, .inl (z.2 1, 0, .inr (.inl (fun _ => 0)))), (q5, .inl (z.2 0, 0, .inl (fun _ => 0))), (q6, .inl (z.2 0, 0, .inl (fun _ => 0))), (q7, .inr (16, [.int 0, .ref q4, .ref q5, .ref q6, .ref (u1.1 0), .ref (u1.1 1), .int 0]))] H := hP
  have hD : va_D A [(a0, .inl (z.2 0, 0, .inl (fun _ => 0))), (q0, .inr (15, [.ref a0, .ref a1, .ref (u0.1 0), .ref (u0.1 1), .int 0, .int 0, .int 0])), (q1, .inl (z.2 0, 0, .inl (fun _ => 0))), (q2, .inl (z.2 1, 0, .inr (.inl (fun _ => 0)))), (q3, .inl (z.2 0, 0, .inl (fun _ => 0))), (q4, .inl (z.2 1, 0, .inr (.inl (fun _ => 0)))), (q5, .inl (z.2 0, 0, .inl (fun _ => 0))), (q6, .inl (z.2 0, 0, .inl (fun _ => 0))), (q7, .inr (16, [.int 0, .ref q4, .ref q5, .ref q6, .ref (u1.1 0), .ref (u1.1 1), .int 0]))] := hD
  refine W.eq (g2 := F0 m 315 ls []) rfl ?_
  refine lv_aload hx hb d_14_15_315 (lv_at hl 9 rfl) ?_
  refine lv_aload hx hb d_14_15_317 (lv_at hl 0 rfl) ?_
  refine va_getN (D := z.1) (ci := 16) (v := .int 0) (C := "BallothallModel$Sharing") (T := TX16) (N := 7) hx hb hts iX16 hown hG.1 hP 8 rfl rfl 6 (by decide) (va_Nw.use rfl (hG.2.1 _ n_1880 rfl)) (fun _ h9 => h9) rfl d_14_15_319 ?_
  refine va_putN (D := z.1) (ci := 15) (v := .int 0) (ty := .int) (C := "BallothallModel$Seats") (T := TX15) (N := 7) hx hb hts iX15 tyX15 tyX15_ok nmX15 hown hG.1 hP hD hS 1 rfl rfl 4 (by decide) (va_Nw.use rfl (hG.2.1 _ n_1846 rfl)) (fun _ h9 => h9) rfl (by decide +kernel) rfl rfl (Nat.le_of_ble_eq_true rfl) d_14_15_322 (fun H locs hP hD hS => ?_)
  have hP : va_P z.1 classes [(a0, .inl (z.2 0, 0, .inl (fun _ => 0))), (q0, .inr (15, [.ref a0, .ref a1, .ref (u0.1 0), .ref (u0.1 1), .int 0, .int 0, .int 0])), (q1, .inl (z.2 0, 0, .inl (fun _ => 0))), (q2, .inl (z.2 1, 0, .inr (.inl (fun _ => 0)))), (q3, .inl (z.2 0, 0, .inl (fun _ => 0))), (q4, .inl (z.2 1, 0, .inr (.inl (fun _ => 0)))), (q5, .inl (z.2 0, 0, .inl (fun _ => 0))), (q6, .inl (z.2 0, 0, .inl (fun _ => 0))), (q7, .inr (16, [.int 0, .ref q4, .ref q5, .ref q6, .ref (u1.1 0), .ref (u1.1 1), .int 0]))] H := hP
  have hD : va_D A [(a0, .inl (z.2 0, 0, .inl (fun _ => 0))), (q0, .inr (15, [.ref a0, .ref a1, .ref (u0.1 0), .ref (u0.1 1), .int 0, .int 0, .int 0])), (q1, .inl (z.2 0, 0, .inl (fun _ => 0))), (q2, .inl (z.2 1, 0, .inr (.inl (fun _ => 0)))), (q3, .inl (z.2 0, 0, .inl (fun _ => 0))), (q4, .inl (z.2 1, 0, .inr (.inl (fun _ => 0)))), (q5, .inl (z.2 0, 0, .inl (fun _ => 0))), (q6, .inl (z.2 0, 0, .inl (fun _ => 0))), (q7, .inr (16, [.int 0, .ref q4, .ref q5, .ref q6, .ref (u1.1 0), .ref (u1.1 1), .int 0]))] := hD
  refine lv_iconst (v := 0) hx hb d_14_15_325 (by decide +kernel) ?_
  refine lv_istore (lv' := [(18, .int 0), (17, .ref q7), (16, .ref q6), (15, .ref q5), (14, .ref q4), (13, .int 0), (12, .ref q3), (11, .ref q2), (10, .ref q1), (8, .long 0), (7, .ref q0), (6, .int 0), (0, .ref a0), (1, .ref a1), (2, .ref a2), (3, .int x0), (4, .int x1), (5, .int x2)]) hx hb d_14_15_326 hl (by decide) rfl (fun ls hl => ?_)
  refine lv_iload hx hb d_14_15_328 (lv_at hl 0 rfl) ?_
  refine lv_aload hx hb d_14_15_330 (lv_at hl 1 rfl) ?_
  refine va_getN (D := z.1) (ci := 16) (v := .int 0) (C := "BallothallModel$Sharing") (T := TX16) (N := 7) hx hb hts iX16 hown hG.1 hP 8 rfl rfl 6 (by decide) (va_Nw.use rfl (hG.2.1 _ n_1880 rfl)) (fun _ h9 => h9) rfl d_14_15_332 ?_
  refine lv_icmp_ge (tgt := 363) hx hb d_14_15_335 (by decide) (fun _ => ?_) (fun c9 => absurd (by decide +kernel) c9)
  refine lv_iconst (v := 0) hx hb d_14_15_363 (by decide +kernel) ?_
  refine lv_istore (lv' := [(18, .int 0), (17, .ref q7), (16, .ref q6), (15, .ref q5), (14, .ref q4), (13, .int 0), (12, .ref q3), (11, .ref q2), (10, .ref q1), (8, .long 0), (7, .ref q0), (6, .int 0), (0, .ref a0), (1, .ref a1), (2, .ref a2), (3, .int x0), (4, .int x1), (5, .int x2)]) hx hb d_14_15_364 hl (by decide) rfl (fun ls hl => ?_)
  refine lv_iload hx hb d_14_15_366 (lv_at hl 0 rfl) ?_
  refine lv_iload hx hb d_14_15_368 (lv_at hl 5 rfl) ?_
  refine lv_icmp_ge (tgt := 531) hx hb d_14_15_370 (by decide) (fun _ => ?_) (fun c9 => absurd (by decide +kernel) c9)
  refine lv_aload hx hb d_14_15_531 (lv_at hl 10 rfl) ?_
  refine W.widen (k := 12) (n := 144) (Nat.le_of_ble_eq_true rfl) (Nat.le_of_ble_eq_true rfl) ?_
  exact W.aret hx hb hr (Or.inl ⟨_, rfl⟩) (Or.inr ⟨_, rfl⟩) (fun t ht hW => qk hP hD hS [0, 1] rfl ((fun k => ([q0, (u0.1 0), (u0.1 1)] : List Nat).getD k 0), (fun _ _ => none)) rfl rfl rfl ht) hS.2.2 d_14_15_533
set_option maxRecDepth 100000 in
set_option maxHeartbeats 4000000 in
theorem c187_BModel_distributed (l : Launch) (z : Zz) (a0 a1 a2 a3 a4 a5 a6 a7 a8 a9 a10 a11 a12 a13 : Nat) (x0 : Int32) (x1 : Int32) (x2 : Int32) : CT l z ⟨"BallothallModel", "distributed", "(III)LBallothallModel$Seats;"⟩ prog_14_method_41_code 7 (some (.object "BallothallModel$Seats")) [.ref a0, .int x0, .int x1, .int x2] [(a0, .inr (18, [.ref a1, .ref a2, .int 1, .ref a3, .int 0, .ref a4, .int 0, .null, .int 0, .null, .long 0, .int 0, .null])), (a1, .inr (17, [.int 0, .ref a5, .ref a6, .int 0, .ref a7, .ref a8, .ref a9, .null, .null, .int 0, .ref a10, .ref a11, .ref a12, .int 0, .ref a13, .int 1]))] 3 104 14 144 (fun u => some (.ref (u.1 0))) (fun u => [(a0, .inr (18, [.ref a1, .ref a2, .int 1, .ref a3, .int 0, .ref a4, .int 0, .null, .int 0, .null, .long 0, .int 0, .null])), (a1, .inr (17, [.int 0, .ref a5, .ref a6, .int 0, .ref a7, .ref a8, .ref a9, .null, .null, .int 0, .ref a10, .ref a11, .ref a12, .int 0, .ref a13, .int 1])), ((u.1 0), .inr (15, [.ref (u.1 1), .ref (u.1 2), .ref (u.1 3), .ref (u.1 4), .int 0, .int 0, .int 0]))]) := by
  refine CT.of (own := "BallothallModel") (by decide +kernel) (Nat.le_of_ble_eq_true rfl) rfl (fun p e s m below meth c A ls hx hb hml hr hts hown hlocks hin hA hG hZ hP hD hS hl => ?_)
  have hl : lv_has ls 7 [(0, .ref a0), (1, .int x0), (2, .int x1), (3, .int x2)] := hl
  refine lv_aload_n hx hb d_14_41_0 rfl (lv_at hl 0 rfl) ?_
  refine va_get (D := z.1) (ci := 18) (v := .ref a1) (C := "BallothallModel") (T := TX18) (N := 13) hx hb hts iX18 hown hG.1 hP 0 rfl rfl 0 (by decide) (hts _ w_1645) (fun _ h9 => h9) rfl d_14_41_1 ?_
  refine va_getN (D := z.1) (ci := 17) (v := .int 0) (C := "BallothallModel$State") (T := TX17) (N := 16) hx hb hts iX17 hown hG.1 hP 1 rfl rfl 3 (by decide) (va_Nw.use rfl (hG.2.1 _ n_1586 rfl)) (fun _ h9 => h9) rfl d_14_41_4 ?_
  refine va_newa (atype := .int) (N' := 0) (a0 := (0, .inl (fun _ => 0))) hx hb (hts _ w_105) rfl hG.1 hP hD hS hA (fun _ => rfl) (by decide +kernel) (by decide +kernel) (Nat.le_of_ble_eq_true rfl) (Nat.le_of_ble_eq_true rfl) (Nat.le_of_ble_eq_true rfl) d_14_41_7 (fun q0 cA9 H hK9 hP hD hS => ?_)
  obtain rfl := ty_eq0 hK9
  clear hK9
  have hP : va_P z.1 classes [(a0, .inr (18, [.ref a1, .ref a2, .int 1, .ref a3, .int 0, .ref a4, .int 0, .null, .int 0, .null, .long 0, .int 0, .null])), (a1, .inr (17, [.int 0, .ref a5, .ref a6, .int 0, .ref a7, .ref a8, .ref a9, .null, .null, .int 0, .ref a10, .ref a11, .ref a12, .int 0, .ref a13, .int 1])), (q0, .inl (z.2 0, 0, .inl (fun _ => 0)))] H := hP
  have hD : va_D A [(a0, .inr (18, [.ref a1, .ref a2, .int 1, .ref a3, .int 0, .ref a4, .int 0, .null, .int 0, .null, .long 0, .int 0, .null])), (a1, .inr (17, [.int 0, .ref a5, .ref a6, .int 0, .ref a7, .ref a8, .ref a9, .null, .null, .int 0, .ref a10, .ref a11, .ref a12, .int 0, .ref a13, .int 1])), (q0, .inl (z.2 0, 0, .inl (fun _ => 0)))] := hD
  refine lv_astore (lv' := [(4, .ref q0), (0, .ref a0), (1, .int x0), (2, .int x1), (3, .int x2)]) hx hb d_14_41_9 hl (by decide) rfl (fun ls hl => ?_)
  refine lv_aload_n hx hb d_14_41_11 rfl (lv_at hl 1 rfl) ?_
  refine va_get (D := z.1) (ci := 18) (v := .ref a1) (C := "BallothallModel") (T := TX18) (N := 13) hx hb hts iX18 hown hG.1 hP 0 rfl rfl 0 (by decide) (hts _ w_1645) (fun _ h9 => h9) rfl d_14_41_12 ?_
  refine va_getN (D := z.1) (ci := 17) (v := .int 0) (C := "BallothallModel$State") (T := TX17) (N := 16) hx hb hts iX17 hown hG.1 hP 1 rfl rfl 3 (by decide) (va_Nw.use rfl (hG.2.1 _ n_1586 rfl)) (fun _ h9 => h9) rfl d_14_41_15 ?_
  refine va_newa (atype := .int) (N' := 0) (a0 := (0, .inl (fun _ => 0))) hx hb (hts _ w_105) rfl hG.1 hP hD hS hA (fun _ => rfl) (by decide +kernel) (by decide +kernel) (Nat.le_of_ble_eq_true rfl) (Nat.le_of_ble_eq_true rfl) (Nat.le_of_ble_eq_true rfl) d_14_41_18 (fun q1 cA9 H hK9 hP hD hS => ?_)
  obtain rfl := ty_eq0 hK9
  clear hK9
  have hP : va_P z.1 classes [(a0, .inr (18, [.ref a1, .ref a2, .int 1, .ref a3, .int 0, .ref a4, .int 0, .null, .int 0, .null, .long 0, .int 0, .null])), (a1, .inr (17, [.int 0, .ref a5, .ref a6, .int 0, .ref a7, .ref a8, .ref a9, .null, .null, .int 0, .ref a10, .ref a11, .ref a12, .int 0, .ref a13, .int 1])), (q0, .inl (z.2 0, 0, .inl (fun _ => 0))), (q1, .inl (z.2 0, 0, .inl (fun _ => 0)))] H := hP
  have hD : va_D A [(a0, .inr (18, [.ref a1, .ref a2, .int 1, .ref a3, .int 0, .ref a4, .int 0, .null, .int 0, .null, .long 0, .int 0, .null])), (a1, .inr (17, [.int 0, .ref a5, .ref a6, .int 0, .ref a7, .ref a8, .ref a9, .null, .null, .int 0, .ref a10, .ref a11, .ref a12, .int 0, .ref a13, .int 1])), (q0, .inl (z.2 0, 0, .inl (fun _ => 0))), (q1, .inl (z.2 0, 0, .inl (fun _ => 0)))] := hD
  refine lv_astore (lv' := [(5, .ref q1), (4, .ref q0), (0, .ref a0), (1, .int x0), (2, .int x1), (3, .int x2)]) hx hb d_14_41_20 hl (by decide) rfl (fun ls hl => ?_)
  refine lv_iconst (v := 0) hx hb d_14_41_22 (by decide +kernel) ?_
  refine lv_istore (lv' := [(6, .int 0), (5, .ref q1), (4, .ref q0), (0, .ref a0), (1, .int x0), (2, .int x1), (3, .int x2)]) hx hb d_14_41_23 hl (by decide) rfl (fun ls hl => ?_)
  refine lv_iload hx hb d_14_41_25 (lv_at hl 0 rfl) ?_
  refine lv_aload_n hx hb d_14_41_27 rfl (lv_at hl 3 rfl) ?_
  refine va_get (D := z.1) (ci := 18) (v := .ref a1) (C := "BallothallModel") (T := TX18) (N := 13) hx hb hts iX18 hown hG.1 hP 0 rfl rfl 0 (by decide) (hts _ w_1645) (fun _ h9 => h9) rfl d_14_41_28 ?_
  refine va_getN (D := z.1) (ci := 17) (v := .int 0) (C := "BallothallModel$State") (T := TX17) (N := 16) hx hb hts iX17 hown hG.1 hP 1 rfl rfl 3 (by decide) (va_Nw.use rfl (hG.2.1 _ n_1586 rfl)) (fun _ h9 => h9) rfl d_14_41_31 ?_
  refine lv_icmp_ge (tgt := 73) hx hb d_14_41_34 (by decide) (fun _ => ?_) (fun c9 => absurd (by decide +kernel) c9)
  refine lv_aload hx hb d_14_41_73 (lv_at hl 2 rfl) ?_
  refine lv_aload hx hb d_14_41_75 (lv_at hl 1 rfl) ?_
  refine lv_aload_n hx hb d_14_41_77 rfl (lv_at hl 3 rfl) ?_
  refine va_get (D := z.1) (ci := 18) (v := .ref a1) (C := "BallothallModel") (T := TX18) (N := 13) hx hb hts iX18 hown hG.1 hP 0 rfl rfl 0 (by decide) (hts _ w_1645) (fun _ h9 => h9) rfl d_14_41_78 ?_
  refine va_getN (D := z.1) (ci := 17) (v := .ref a9) (C := "BallothallModel$State") (T := TX17) (N := 16) hx hb hts iX17 hown hG.1 hP 1 rfl rfl 6 (by decide) (va_Nw.use rfl (hG.2.1 _ n_1592 rfl)) (fun _ h9 => h9) rfl d_14_41_81 ?_
  refine lv_iload_n hx hb d_14_41_84 rfl (lv_at hl 4 rfl) ?_
  refine lv_iload_n hx hb d_14_41_85 rfl (lv_at hl 5 rfl) ?_
  refine lv_iload_n hx hb d_14_41_86 rfl (lv_at hl 6 rfl) ?_
  refine kS (As := [.ref q0, .ref q1, .ref a9, .int x0, .int x1, .int x2]) (rest := []) (wr := [(a0, .inr (18, [.ref a1, .ref a2, .int 1, .ref a3, .int 0, .ref a4, .int 0, .null, .int 0, .null, .long 0, .int 0, .null])), (a1, .inr (17, [.int 0, .ref a5, .ref a6, .int 0, .ref a7, .ref a8, .ref a9, .null, .null, .int 0, .ref a10, .ref a11, .ref a12, .int 0, .ref a13, .int 1])), (q1, .inl (z.2 0, 0, .inl (fun _ => 0)))]) (c186_BModel_distributed l z q0 q1 a9 x0 x1 x2) hx hb hml hown hts w_1831 w_1829 w_1830 w_12 md_f197f8 ⟨Nat.le_of_ble_eq_true rfl, Nat.le_of_ble_eq_true rfl⟩ hG hZ hP hD hS hA [2] [0, 1, 3] rfl rfl rfl rfl rfl hl.1 rfl (Nat.le_of_ble_eq_true rfl) d_14_41_87 ⟨Nat.le_of_ble_eq_true rfl, Nat.le_of_ble_eq_true rfl⟩ (fun u0 H locs hP hD hS => ?_)
  have hP : va_P z.1 classes [(a0, .inr (18, [.ref a1, .ref a2, .int 1, .ref a3, .int 0, .ref a4, .int 0, .null, .int 0, .null, .long 0, .int 0, .null])), (a1, .inr (17, [.int 0, .ref a5, .ref a6, .int 0, .ref a7, .ref a8, .ref a9, .null, .null, .int 0, .ref a10, .ref a11, .ref a12, .int 0, .ref a13, .int 1])), (q1, .inl (z.2 0, 0, .inl (fun _ => 0))), (q0, .inl (z.2 0, 0, .inl (fun _ => 0))), ((u0.1 0), .inr (15, [.ref q0, .ref q1, .ref (u0.1 1), .ref (u0.1 2), .int 0, .int 0, .int 0]))] H := hP
  have hD : va_D A [(a0, .inr (18, [.ref a1, .ref a2, .int 1, .ref a3, .int 0, .ref a4, .int 0, .null, .int 0, .null, .long 0, .int 0, .null])), (a1, .inr (17, [.int 0, .ref a5, .ref a6, .int 0, .ref a7, .ref a8, .ref a9, .null, .null, .int 0, .ref a10, .ref a11, .ref a12, .int 0, .ref a13, .int 1])), (q1, .inl (z.2 0, 0, .inl (fun _ => 0))), (q0, .inl (z.2 0, 0, .inl (fun _ => 0))), ((u0.1 0), .inr (15, [.ref q0, .ref q1, .ref (u0.1 1), .ref (u0.1 2), .int 0, .int 0, .int 0]))] := hD
  refine W.eq (g2 := F0 m 90 ls [.ref (u0.1 0)]) rfl ?_
  refine W.widen (k := 14) (n := 144) (Nat.le_of_ble_eq_true rfl) (Nat.le_of_ble_eq_true rfl) ?_
  exact W.aret hx hb hr (Or.inl ⟨_, rfl⟩) (Or.inr ⟨_, rfl⟩) (fun t ht hW => qk hP hD hS [0, 1, 4] rfl ((fun k => ([(u0.1 0), q0, q1, (u0.1 1), (u0.1 2)] : List Nat).getD k 0), (fun _ _ => none)) rfl rfl rfl ht) hS.2.2 d_14_41_90
set_option maxRecDepth 100000 in
set_option maxHeartbeats 4000000 in
theorem c188_BModel_seats (l : Launch) (z : Zz) (a0 a1 a2 a3 a4 a5 a6 a7 a8 a9 a10 a11 a12 a13 : Nat) (x0 : Int32) (x1 : Int32) (x2 : Int32) (h0 : ¬ x0 < 0) (h1 : ¬ 5 < x0) (h2 : ¬ x1 < 1) (h3 : ¬ 60 < x1) (h4 : ¬ x2 < 0) (h5 : ¬ 20 < x2) : CT l z ⟨"BallothallModel", "seats", "(III)I"⟩ prog_14_method_42_code 4 (some .int) [.ref a0, .int x0, .int x1, .int x2] [(a0, .inr (18, [.ref a1, .ref a2, .int 0, .ref a3, .int 0, .ref a4, .int 0, .null, .int 0, .null, .long 0, .int 0, .null])), (a1, .inr (17, [.int 0, .ref a5, .ref a6, .int 0, .ref a7, .ref a8, .ref a9, .null, .null, .int 0, .ref a10, .ref a11, .ref a12, .int 0, .ref a13, .int 1])), (a5, .inl (z.2 0, 8, .inl (fun _ => 0))), (a7, .inl (z.2 0, 8, .inl (fun _ => 0))), (a8, .inl (z.2 0, 8, .inl (fun _ => 0))), (a9, .inl (z.2 0, 8, .inl (fun _ => 0))), (a10, .inl (z.2 0, 16, .inl (fun _ => 0))), (a11, .inl (z.2 0, 16, .inl (fun _ => 0))), (a12, .inl (z.2 0, 16, .inl (fun _ => 0))), (a13, .inl (z.2 0, 12, .inl (fun _ => 0))), (a2, .inl (z.2 6, 20, .inr (.inr (.inr (.inr (fun _ => none))))))] 4 138 24 252 (fun u => some (.int 0)) (fun u => [(a0, .inr (18, [.ref a1, .ref a2, .int 1, .ref a3, .int 0, .ref a4, .int 0, .null, .int 0, .null, .long 0, .int 0, .null])), (a1, .inr (17, [.int 0, .ref a5, .ref a6, .int 0, .ref a7, .ref a8, .ref a9, .ref (u.1 0), .null, .int 0, .ref a10, .ref a11, .ref a12, .int 0, .ref a13, .int 1])), (a5, .inl (z.2 0, 8, .inl (fun _ => 0))), (a7, .inl (z.2 0, 8, .inl (fun _ => 0))), (a8, .inl (z.2 0, 8, .inl (fun _ => 0))), (a9, .inl (z.2 0, 8, .inl (fun _ => 0))), (a10, .inl (z.2 0, 16, .inl (fun _ => 0))), (a11, .inl (z.2 0, 16, .inl (fun _ => 0))), (a12, .inl (z.2 0, 16, .inl (fun _ => 0))), (a13, .inl (z.2 0, 12, .inl (fun _ => 0))), (a2, .inl (z.2 6, 20, .inr (.inr (.inr (.inr (va_up (fun _ => none) 0 (some (u.1 1))))))))]) := by
  refine CT.of (own := "BallothallModel") (by decide +kernel) (Nat.le_of_ble_eq_true rfl) rfl (fun p e s m below meth c A ls hx hb hml hr hts hown hlocks hin hA hG hZ hP hD hS hl => ?_)
  have hl : lv_has ls 4 [(0, .ref a0), (1, .int x0), (2, .int x1), (3, .int x2)] := hl
  refine lv_aload_n hx hb d_14_42_0 rfl (lv_at hl 0 rfl) ?_
  refine lv_iload_n hx hb d_14_42_1 rfl (lv_at hl 1 rfl) ?_
  refine lv_iconst (v := 0) hx hb d_14_42_2 (by decide +kernel) ?_
  refine lv_iconst (v := 5) hx hb d_14_42_3 (by decide +kernel) ?_
  refine kS (As := [.int x0, .int 0, .int 5]) (rest := [.ref a0]) (wr := [(a0, .inr (18, [.ref a1, .ref a2, .int 0, .ref a3, .int 0, .ref a4, .int 0, .null, .int 0, .null, .long 0, .int 0, .null])), (a1, .inr (17, [.int 0, .ref a5, .ref a6, .int 0, .ref a7, .ref a8, .ref a9, .null, .null, .int 0, .ref a10, .ref a11, .ref a12, .int 0, .ref a13, .int 1])), (a5, .inl (z.2 0, 8, .inl (fun _ => 0))), (a7, .inl (z.2 0, 8, .inl (fun _ => 0))), (a8, .inl (z.2 0, 8, .inl (fun _ => 0))), (a9, .inl (z.2 0, 8, .inl (fun _ => 0))), (a10, .inl (z.2 0, 16, .inl (fun _ => 0))), (a11, .inl (z.2 0, 16, .inl (fun _ => 0))), (a12, .inl (z.2 0, 16, .inl (fun _ => 0))), (a13, .inl (z.2 0, 12, .inl (fun _ => 0))), (a2, .inl (z.2 6, 20, .inr (.inr (.inr (.inr (fun _ => none))))))]) (c154_BModel_isIn l z x0 h0 h1) hx hb hml hown hts w_1718 w_1716 w_1717 w_12 md_bca45c ⟨Nat.le_of_ble_eq_true rfl, Nat.le_of_ble_eq_true rfl⟩ hG hZ hP hD hS hA [] [0, 1, 2, 3, 4, 5, 6, 7, 8, 9, 10] rfl rfl rfl rfl rfl hl.1 rfl (Nat.le_of_ble_eq_true rfl) d_14_42_4 ⟨Nat.le_of_ble_eq_true rfl, Nat.le_of_ble_eq_true rfl⟩ (fun u0 H locs hP hD hS => ?_)
  have hP : va_P z.1 classes [(a0, .inr (18, [.ref a1, .ref a2, .int 0, .ref a3, .int 0, .ref a4, .int 0, .null, .int 0, .null, .long 0, .int 0, .null])), (a1, .inr (17, [.int 0, .ref a5, .ref a6, .int 0, .ref a7, .ref a8, .ref a9, .null, .null, .int 0, .ref a10, .ref a11, .ref a12, .int 0, .ref a13, .int 1])), (a5, .inl (z.2 0, 8, .inl (fun _ => 0))), (a7, .inl (z.2 0, 8, .inl (fun _ => 0))), (a8, .inl (z.2 0, 8, .inl (fun _ => 0))), (a9, .inl (z.2 0, 8, .inl (fun _ => 0))), (a10, .inl (z.2 0, 16, .inl (fun _ => 0))), (a11, .inl (z.2 0, 16, .inl (fun _ => 0))), (a12, .inl (z.2 0, 16, .inl (fun _ => 0))), (a13, .inl (z.2 0, 12, .inl (fun _ => 0))), (a2, .inl (z.2 6, 20, .inr (.inr (.inr (.inr (fun _ => none))))))] H := hP
  have hD : va_D A [(a0, .inr (18, [.ref a1, .ref a2, .int 0, .ref a3, .int 0, .ref a4, .int 0, .null, .int 0, .null, .long 0, .int 0, .null])), (a1, .inr (17, [.int 0, .ref a5, .ref a6, .int 0, .ref a7, .ref a8, .ref a9, .null, .null, .int 0, .ref a10, .ref a11, .ref a12, .int 0, .ref a13, .int 1])), (a5, .inl (z.2 0, 8, .inl (fun _ => 0))), (a7, .inl (z.2 0, 8, .inl (fun _ => 0))), (a8, .inl (z.2 0, 8, .inl (fun _ => 0))), (a9, .inl (z.2 0, 8, .inl (fun _ => 0))), (a10, .inl (z.2 0, 16, .inl (fun _ => 0))), (a11, .inl (z.2 0, 16, .inl (fun _ => 0))), (a12, .inl (z.2 0, 16, .inl (fun _ => 0))), (a13, .inl (z.2 0, 12, .inl (fun _ => 0))), (a2, .inl (z.2 6, 20, .inr (.inr (.inr (.inr (fun _ => none))))))] := hD
  refine W.eq (g2 := F0 m 7 ls [.int 1, .ref a0]) rfl ?_
  refine lv_if_eq (tgt := 34) hx hb d_14_42_7 (by decide) (fun c9 => absurd c9 (by decide +kernel)) (fun _ => ?_)
  refine lv_iload_n hx hb d_14_42_10 rfl (lv_at hl 2 rfl) ?_
  refine lv_iconst (v := 1) hx hb d_14_42_11 (by decide +kernel) ?_
  refine lv_bipush (v := 60) hx hb d_14_42_12 (by decide +kernel) ?_
  refine kS (As := [.int x1, .int 1, .int 60]) (rest := [.ref a0]) (wr := [(a0, .inr (18, [.ref a1, .ref a2, .int 0, .ref a3, .int 0, .ref a4, .int 0, .null, .int 0, .null, .long 0, .int 0, .null])), (a1, .inr (17, [.int 0, .ref a5, .ref a6, .int 0, .ref a7, .ref a8, .ref a9, .null, .null, .int 0, .ref a10, .ref a11, .ref a12, .int 0, .ref a13, .int 1])), (a5, .inl (z.2 0, 8, .inl (fun _ => 0))), (a7, .inl (z.2 0, 8, .inl (fun _ => 0))), (a8, .inl (z.2 0, 8, .inl (fun _ => 0))), (a9, .inl (z.2 0, 8, .inl (fun _ => 0))), (a10, .inl (z.2 0, 16, .inl (fun _ => 0))), (a11, .inl (z.2 0, 16, .inl (fun _ => 0))), (a12, .inl (z.2 0, 16, .inl (fun _ => 0))), (a13, .inl (z.2 0, 12, .inl (fun _ => 0))), (a2, .inl (z.2 6, 20, .inr (.inr (.inr (.inr (fun _ => none))))))]) (c166_BModel_isIn l z x1 h2 h3) hx hb hml hown hts w_1718 w_1716 w_1717 w_12 md_bca45c ⟨Nat.le_of_ble_eq_true rfl, Nat.le_of_ble_eq_true rfl⟩ hG hZ hP hD hS hA [] [0, 1, 2, 3, 4, 5, 6, 7, 8, 9, 10] rfl rfl rfl rfl rfl hl.1 rfl (Nat.le_of_ble_eq_true rfl) d_14_42_14 ⟨Nat.le_of_ble_eq_true rfl, Nat.le_of_ble_eq_true rfl⟩ (fun u1 H locs hP hD hS => ?_)
  have hP : va_P z.1 classes [(a0, .inr (18, [.ref a1, .ref a2, .int 0, .ref a3, .int 0, .ref a4, .int 0, .null, .int 0, .null, .long 0, .int 0, .null])), (a1, .inr (17, [.int 0, .ref a5, .ref a6, .int 0, .ref a7, .ref a8, .ref a9, .null, .null, .int 0, .ref a10, .ref a11, .ref a12, .int 0, .ref a13, .int 1])), (a5, .inl (z.2 0, 8, .inl (fun _ => 0))), (a7, .inl (z.2 0, 8, .inl (fun _ => 0))), (a8, .inl (z.2 0, 8, .inl (fun _ => 0))), (a9, .inl (z.2 0, 8, .inl (fun _ => 0))), (a10, .inl (z.2 0, 16, .inl (fun _ => 0))), (a11, .inl (z.2 0, 16, .inl (fun _ => 0))), (a12, .inl (z.2 0, 16, .inl (fun _ => 0))), (a13, .inl (z.2 0, 12, .inl (fun _ => 0))), (a2, .inl (z.2 6, 20, .inr (.inr (.inr (.inr (fun _ => none))))))] H := hP
  have hD : va_D A [(a0, .inr (18, [.ref a1, .ref a2, .int 0, .ref a3, .int 0, .ref a4, .int 0, .null, .int 0, .null, .long 0, .int 0, .null])), (a1, .inr (17, [.int 0, .ref a5, .ref a6, .int 0, .ref a7, .ref a8, .ref a9, .null, .null, .int 0, .ref a10, .ref a11, .ref a12, .int 0, .ref a13, .int 1])), (a5, .inl (z.2 0, 8, .inl (fun _ => 0))), (a7, .inl (z.2 0, 8, .inl (fun _ => 0))), (a8, .inl (z.2 0, 8, .inl (fun _ => 0))), (a9, .inl (z.2 0, 8, .inl (fun _ => 0))), (a10, .inl (z.2 0, 16, .inl (fun _ => 0))), (a11, .inl (z.2 0, 16, .inl (fun _ => 0))), (a12, .inl (z.2 0, 16, .inl (fun _ => 0))), (a13, .inl (z.2 0, 12, .inl (fun _ => 0))), (a2, .inl (z.2 6, 20, .inr (.inr (.inr (.inr (fun _ => none))))))] := hD
  refine W.eq (g2 := F0 m 17 ls [.int 1, .ref a0]) rfl ?_
  refine lv_if_eq (tgt := 34) hx hb d_14_42_17 (by decide) (fun c9 => absurd c9 (by decide +kernel)) (fun _ => ?_)
  refine lv_iload_n hx hb d_14_42_20 rfl (lv_at hl 3 rfl) ?_
  refine lv_iconst (v := 0) hx hb d_14_42_21 (by decide +kernel) ?_
  refine lv_bipush (v := 20) hx hb d_14_42_22 (by decide +kernel) ?_
  refine kS (As := [.int x2, .int 0, .int 20]) (rest := [.ref a0]) (wr := [(a0, .inr (18, [.ref a1, .ref a2, .int 0, .ref a3, .int 0, .ref a4, .int 0, .null, .int 0, .null, .long 0, .int 0, .null])), (a1, .inr (17, [.int 0, .ref a5, .ref a6, .int 0, .ref a7, .ref a8, .ref a9, .null, .null, .int 0, .ref a10, .ref a11, .ref a12, .int 0, .ref a13, .int 1])), (a5, .inl (z.2 0, 8, .inl (fun _ => 0))), (a7, .inl (z.2 0, 8, .inl (fun _ => 0))), (a8, .inl (z.2 0, 8, .inl (fun _ => 0))), (a9, .inl (z.2 0, 8, .inl (fun _ => 0))), (a10, .inl (z.2 0, 16, .inl (fun _ => 0))), (a11, .inl (z.2 0, 16, .inl (fun _ => 0))), (a12, .inl (z.2 0, 16, .inl (fun _ => 0))), (a13, .inl (z.2 0, 12, .inl (fun _ => 0))), (a2, .inl (z.2 6, 20, .inr (.inr (.inr (.inr (fun _ => none))))))]) (c182_BModel_isIn l z x2 h4 h5) hx hb hml hown hts w_1718 w_1716 w_1717 w_12 md_bca45c ⟨Nat.le_of_ble_eq_true rfl, Nat.le_of_ble_eq_true rfl⟩ hG hZ hP hD hS hA [] [0, 1, 2, 3, 4, 5, 6, 7, 8, 9, 10] rfl rfl rfl rfl rfl hl.1 rfl (Nat.le_of_ble_eq_true rfl) d_14_42_24 ⟨Nat.le_of_ble_eq_true rfl, Nat.le_of_ble_eq_true rfl⟩ (fun u2 H locs hP hD hS => ?_)
  have hP : va_P z.1 classes [(a0, .inr (18, [.ref a1, .ref a2, .int 0, .ref a3, .int 0, .ref a4, .int 0, .null, .int 0, .null, .long 0, .int 0, .null])), (a1, .inr (17, [.int 0, .ref a5, .ref a6, .int 0, .ref a7, .ref a8, .ref a9, .null, .null, .int 0, .ref a10, .ref a11, .ref a12, .int 0, .ref a13, .int 1])), (a5, .inl (z.2 0, 8, .inl (fun _ => 0))), (a7, .inl (z.2 0, 8, .inl (fun _ => 0))), (a8, .inl (z.2 0, 8, .inl (fun _ => 0))), (a9, .inl (z.2 0, 8, .inl (fun _ => 0))), (a10, .inl (z.2 0, 16, .inl (fun _ => 0))), (a11, .inl (z.2 0, 16, .inl (fun _ => 0))), (a12, .inl (z.2 0, 16, .inl (fun _ => 0))), (a13, .inl (z.2 0, 12, .inl (fun _ => 0))), (a2, .inl (z.2 6, 20, .inr (.inr (.inr (.inr (fun _ => none))))))] H := hP
  have hD : va_D A [(a0, .inr (18, [.ref a1, .ref a2, .int 0, .ref a3, .int 0, .ref a4, .int 0, .null, .int 0, .null, .long 0, .int 0, .null])), (a1, .inr (17, [.int 0, .ref a5, .ref a6, .int 0, .ref a7, .ref a8, .ref a9, .null, .null, .int 0, .ref a10, .ref a11, .ref a12, .int 0, .ref a13, .int 1])), (a5, .inl (z.2 0, 8, .inl (fun _ => 0))), (a7, .inl (z.2 0, 8, .inl (fun _ => 0))), (a8, .inl (z.2 0, 8, .inl (fun _ => 0))), (a9, .inl (z.2 0, 8, .inl (fun _ => 0))), (a10, .inl (z.2 0, 16, .inl (fun _ => 0))), (a11, .inl (z.2 0, 16, .inl (fun _ => 0))), (a12, .inl (z.2 0, 16, .inl (fun _ => 0))), (a13, .inl (z.2 0, 12, .inl (fun _ => 0))), (a2, .inl (z.2 6, 20, .inr (.inr (.inr (.inr (fun _ => none))))))] := hD
  refine W.eq (g2 := F0 m 27 ls [.int 1, .ref a0]) rfl ?_
  refine lv_if_eq (tgt := 34) hx hb d_14_42_27 (by decide) (fun c9 => absurd c9 (by decide +kernel)) (fun _ => ?_)
  refine lv_iconst (v := 1) hx hb d_14_42_30 (by decide +kernel) ?_
  refine lv_goto (tgt := 35) hx hb d_14_42_31 (by decide) ?_
  refine lv_iconst (v := 1) hx hb d_14_42_35 (by decide +kernel) ?_
  refine kV (As := [.int 1, .int 1]) (rest := []) (wr := [(a1, .inr (17, [.int 0, .ref a5, .ref a6, .int 0, .ref a7, .ref a8, .ref a9, .null, .null, .int 0, .ref a10, .ref a11, .ref a12, .int 0, .ref a13, .int 1])), (a5, .inl (z.2 0, 8, .inl (fun _ => 0))), (a7, .inl (z.2 0, 8, .inl (fun _ => 0))), (a8, .inl (z.2 0, 8, .inl (fun _ => 0))), (a9, .inl (z.2 0, 8, .inl (fun _ => 0))), (a10, .inl (z.2 0, 16, .inl (fun _ => 0))), (a11, .inl (z.2 0, 16, .inl (fun _ => 0))), (a12, .inl (z.2 0, 16, .inl (fun _ => 0))), (a13, .inl (z.2 0, 12, .inl (fun _ => 0))), (a2, .inl (z.2 6, 20, .inr (.inr (.inr (.inr (fun _ => none))))))]) (c16_BModel_ends l z a0 a1 a2 a3 a4) hx hb hml hown hts w_1696 w_1693 w_1695 w_s_f8f2b7 w_12 md_77b0f8 ⟨Nat.le_of_ble_eq_true rfl, Nat.le_of_ble_eq_true rfl⟩ hG hZ hP hD hS hA 0 rfl rfl rfl [0] [1, 2, 3, 4, 5, 6, 7, 8, 9, 10] rfl rfl rfl rfl rfl hl.1 rfl (Nat.le_of_ble_eq_true rfl) d_14_42_36 ⟨Nat.le_of_ble_eq_true rfl, Nat.le_of_ble_eq_true rfl⟩ (fun u3 H locs hP hD hS => ?_)
  have hP : va_P z.1 classes [(a1, .inr (17, [.int 0, .ref a5, .ref a6, .int 0, .ref a7, .ref a8, .ref a9, .null, .null, .int 0, .ref a10, .ref a11, .ref a12, .int 0, .ref a13, .int 1])), (a5, .inl (z.2 0, 8, .inl (fun _ => 0))), (a7, .inl (z.2 0, 8, .inl (fun _ => 0))), (a8, .inl (z.2 0, 8, .inl (fun _ => 0))), (a9, .inl (z.2 0, 8, .inl (fun _ => 0))), (a10, .inl (z.2 0, 16, .inl (fun _ => 0))), (a11, .inl (z.2 0, 16, .inl (fun _ => 0))), (a12, .inl (z.2 0, 16, .inl (fun _ => 0))), (a13, .inl (z.2 0, 12, .inl (fun _ => 0))), (a2, .inl (z.2 6, 20, .inr (.inr (.inr (.inr (fun _ => none)))))), (a0, .inr (18, [.ref a1, .ref a2, .int 0, .ref a3, .int 0, .ref a4, .int 0, .null, .int 0, .null, .long 0, .int 0, .null]))] H := hP
  have hD : va_D A [(a1, .inr (17, [.int 0, .ref a5, .ref a6, .int 0, .ref a7, .ref a8, .ref a9, .null, .null, .int 0, .ref a10, .ref a11, .ref a12, .int 0, .ref a13, .int 1])), (a5, .inl (z.2 0, 8, .inl (fun _ => 0))), (a7, .inl (z.2 0, 8, .inl (fun _ => 0))), (a8, .inl (z.2 0, 8, .inl (fun _ => 0))), (a9, .inl (z.2 0, 8, .inl (fun _ => 0))), (a10, .inl (z.2 0, 16, .inl (fun _ => 0))), (a11, .inl (z.2 0, 16, .inl (fun _ => 0))), (a12, .inl (z.2 0, 16, .inl (fun _ => 0))), (a13, .inl (z.2 0, 12, .inl (fun _ => 0))), (a2, .inl (z.2 6, 20, .inr (.inr (.inr (.inr (fun _ => none)))))), (a0, .inr (18, [.ref a1, .ref a2, .int 0, .ref a3, .int 0, .ref a4, .int 0, .null, .int 0, .null, .long 0, .int 0, .null]))] := hD
  refine W.eq (g2 := F0 m 39 ls [.int 0]) rfl ?_
  refine lv_if_eq (tgt := 44) hx hb d_14_42_39 (by decide) (fun _ => ?_) (fun c9 => absurd (by decide +kernel) c9)
  refine lv_aload_n hx hb d_14_42_44 rfl (lv_at hl 0 rfl) ?_
  refine kV (As := []) (rest := []) (wr := []) (c23_BModel_keeps l z a0 a1 a2 a3 a4 a5 a6 a7 a8 a9 a10 a11 a12 a13) hx hb hml hown hts w_1700 w_1697 w_1699 w_s_6545fc w_12 md_85dc6a ⟨Nat.le_of_ble_eq_true rfl, Nat.le_of_ble_eq_true rfl⟩ hG hZ hP hD hS hA 10 rfl rfl rfl [10, 0, 1, 2, 3, 4, 5, 6, 7, 8, 9] [] rfl rfl rfl rfl rfl hl.1 rfl (Nat.le_of_ble_eq_true rfl) d_14_42_45 ⟨Nat.le_of_ble_eq_true rfl, Nat.le_of_ble_eq_true rfl⟩ (fun u4 H locs hP hD hS => ?_)
  have hP : va_P z.1 classes [(a0, .inr (18, [.ref a1, .ref a2, .int 1, .ref a3, .int 0, .ref a4, .int 0, .null, .int 0, .null, .long 0, .int 0, .null])), (a1, .inr (17, [.int 0, .ref a5, .ref a6, .int 0, .ref a7, .ref a8, .ref a9, .null, .null, .int 0, .ref a10, .ref a11, .ref a12, .int 0, .ref a13, .int 1])), (a5, .inl (z.2 0, 8, .inl (fun _ => 0))), (a7, .inl (z.2 0, 8, .inl (fun _ => 0))), (a8, .inl (z.2 0, 8, .inl (fun _ => 0))), (a9, .inl (z.2 0, 8, .inl (fun _ => 0))), (a10, .inl (z.2 0, 16, .inl (fun _ => 0))), (a11, .inl (z.2 0, 16, .inl (fun _ => 0))), (a12, .inl (z.2 0, 16, .inl (fun _ => 0))), (a13, .inl (z.2 0, 12, .inl (fun _ => 0))), (a2, .inl (z.2 6, 20, .inr (.inr (.inr (.inr (va_up (fun _ => none) 0 (some (u4.1 0))))))))] H := hP
  have hD : va_D A [(a0, .inr (18, [.ref a1, .ref a2, .int 1, .ref a3, .int 0, .ref a4, .int 0, .null, .int 0, .null, .long 0, .int 0, .null])), (a1, .inr (17, [.int 0, .ref a5, .ref a6, .int 0, .ref a7, .ref a8, .ref a9, .null, .null, .int 0, .ref a10, .ref a11, .ref a12, .int 0, .ref a13, .int 1])), (a5, .inl (z.2 0, 8, .inl (fun _ => 0))), (a7, .inl (z.2 0, 8, .inl (fun _ => 0))), (a8, .inl (z.2 0, 8, .inl (fun _ => 0))), (a9, .inl (z.2 0, 8, .inl (fun _ => 0))), (a10, .inl (z.2 0, 16, .inl (fun _ => 0))), (a11, .inl (z.2 0, 16, .inl (fun _ => 0))), (a12, .inl (z.2 0, 16, .inl (fun _ => 0))), (a13, .inl (z.2 0, 12, .inl (fun _ => 0))), (a2, .inl (z.2 6, 20, .inr (.inr (.inr (.inr (va_up (fun _ => none) 0 (some (u4.1 0))))))))] := hD
  refine W.eq (g2 := F0 m 48 ls []) rfl ?_
  refine lv_aload_n hx hb d_14_42_48 rfl (lv_at hl 0 rfl) ?_
  refine va_get (D := z.1) (ci := 18) (v := .ref a1) (C := "BallothallModel") (T := TX18) (N := 13) hx hb hts iX18 hown hG.1 hP 0 rfl rfl 0 (by decide) (hts _ w_1645) (fun _ h9 => h9) rfl d_14_42_49 ?_
  refine lv_aload_n hx hb d_14_42_52 rfl (lv_at hl 0 rfl) ?_
  refine lv_iload_n hx hb d_14_42_53 rfl (lv_at hl 1 rfl) ?_
  refine lv_iload_n hx hb d_14_42_54 rfl (lv_at hl 2 rfl) ?_
  refine lv_iload_n hx hb d_14_42_55 rfl (lv_at hl 3 rfl) ?_
  refine kV (As := [.int x0, .int x1, .int x2]) (rest := [.ref a1]) (wr := [(a5, .inl (z.2 0, 8, .inl (fun _ => 0))), (a7, .inl (z.2 0, 8, .inl (fun _ => 0))), (a8, .inl (z.2 0, 8, .inl (fun _ => 0))), (a9, .inl (z.2 0, 8, .inl (fun _ => 0))), (a10, .inl (z.2 0, 16, .inl (fun _ => 0))), (a11, .inl (z.2 0, 16, .inl (fun _ => 0))), (a12, .inl (z.2 0, 16, .inl (fun _ => 0))), (a13, .inl (z.2 0, 12, .inl (fun _ => 0))), (a2, .inl (z.2 6, 20, .inr (.inr (.inr (.inr (va_up (fun _ => none) 0 (some (u4.1 0))))))))]) (c187_BModel_distributed l z a0 a1 a2 a3 a4 a5 a6 a7 a8 a9 a10 a11 a12 a13 x0 x1 x2) hx hb hml hown hts w_1828 w_1825 w_1827 w_s_ffb6bc w_12 md_fe6893 ⟨Nat.le_of_ble_eq_true rfl, Nat.le_of_ble_eq_true rfl⟩ hG hZ hP hD hS hA 0 rfl rfl rfl [0, 1] [2, 3, 4, 5, 6, 7, 8, 9, 10] rfl rfl rfl rfl rfl hl.1 rfl (Nat.le_of_ble_eq_true rfl) d_14_42_56 ⟨Nat.le_of_ble_eq_true rfl, Nat.le_of_ble_eq_true rfl⟩ (fun u5 H locs hP hD hS => ?_)
  have hP : va_P z.1 classes [(a5, .inl (z.2 0, 8, .inl (fun _ => 0))), (a7, .inl (z.2 0, 8, .inl (fun _ => 0))), (a8, .inl (z.2 0, 8, .inl (fun _ => 0))), (a9, .inl (z.2 0, 8, .inl (fun _ => 0))), (a10, .inl (z.2 0, 16, .inl (fun _ => 0))), (a11, .inl (z.2 0, 16, .inl (fun _ => 0))), (a12, .inl (z.2 0, 16, .inl (fun _ => 0))), (a13, .inl (z.2 0, 12, .inl (fun _ => 0))), (a2, .inl (z.2 6, 20, .inr (.inr (.inr (.inr (va_up (fun _ => none) 0 (some (u4.1 0)))))))), (a0, .inr (18, [.ref a1, .ref a2, .int 1, .ref a3, .int 0, .ref a4, .int 0, .null, .int 0, .null, .long 0, .int 0, .null])), (a1, .inr (17, [.int 0, .ref a5, .ref a6, .int 0, .ref a7, .ref a8, .ref a9, .null, .null, .int 0, .ref a10, .ref a11, .ref a12, .int 0, .ref a13, .int 1])), ((u5.1 0), .inr (15, [.ref (u5.1 1), .ref (u5.1 2), .ref (u5.1 3), .ref (u5.1 4), .int 0, .int 0, .int 0]))] H := hP
  have hD : va_D A [(a5, .inl (z.2 0, 8, .inl (fun _ => 0))), (a7, .inl (z.2 0, 8, .inl (fun _ => 0))), (a8, .inl (z.2 0, 8, .inl (fun _ => 0))), (a9, .inl (z.2 0, 8, .inl (fun _ => 0))), (a10, .inl (z.2 0, 16, .inl (fun _ => 0))), (a11, .inl (z.2 0, 16, .inl (fun _ => 0))), (a12, .inl (z.2 0, 16, .inl (fun _ => 0))), (a13, .inl (z.2 0, 12, .inl (fun _ => 0))), (a2, .inl (z.2 6, 20, .inr (.inr (.inr (.inr (va_up (fun _ => none) 0 (some (u4.1 0)))))))), (a0, .inr (18, [.ref a1, .ref a2, .int 1, .ref a3, .int 0, .ref a4, .int 0, .null, .int 0, .null, .long 0, .int 0, .null])), (a1, .inr (17, [.int 0, .ref a5, .ref a6, .int 0, .ref a7, .ref a8, .ref a9, .null, .null, .int 0, .ref a10, .ref a11, .ref a12, .int 0, .ref a13, .int 1])), ((u5.1 0), .inr (15, [.ref (u5.1 1), .ref (u5.1 2), .ref (u5.1 3), .ref (u5.1 4), .int 0, .int 0, .int 0]))] := hD
  refine W.eq (g2 := F0 m 59 ls [.ref (u5.1 0), .ref a1]) rfl ?_
  refine va_putN (D := z.1) (ci := 17) (v := .ref (u5.1 0)) (ty := .object "BallothallModel$Seats") (C := "BallothallModel$State") (T := TX17) (N := 16) hx hb hts iX17 tyX17 tyX17_ok nmX17 hown hG.1 hP hD hS 10 rfl rfl 7 (by decide) (va_Nw.use rfl (hG.2.1 _ n_1594 rfl)) (fun _ h9 => h9) rfl (by decide +kernel) rfl rfl (Nat.le_of_ble_eq_true rfl) d_14_42_59 (fun H locs hP hD hS => ?_)
  have hP : va_P z.1 classes [(a5, .inl (z.2 0, 8, .inl (fun _ => 0))), (a7, .inl (z.2 0, 8, .inl (fun _ => 0))), (a8, .inl (z.2 0, 8, .inl (fun _ => 0))), (a9, .inl (z.2 0, 8, .inl (fun _ => 0))), (a10, .inl (z.2 0, 16, .inl (fun _ => 0))), (a11, .inl (z.2 0, 16, .inl (fun _ => 0))), (a12, .inl (z.2 0, 16, .inl (fun _ => 0))), (a13, .inl (z.2 0, 12, .inl (fun _ => 0))), (a2, .inl (z.2 6, 20, .inr (.inr (.inr (.inr (va_up (fun _ => none) 0 (some (u4.1 0)))))))), (a0, .inr (18, [.ref a1, .ref a2, .int 1, .ref a3, .int 0, .ref a4, .int 0, .null, .int 0, .null, .long 0, .int 0, .null])), (a1, .inr (17, [.int 0, .ref a5, .ref a6, .int 0, .ref a7, .ref a8, .ref a9, .ref (u5.1 0), .null, .int 0, .ref a10, .ref a11, .ref a12, .int 0, .ref a13, .int 1])), ((u5.1 0), .inr (15, [.ref (u5.1 1), .ref (u5.1 2), .ref (u5.1 3), .ref (u5.1 4), .int 0, .int 0, .int 0]))] H := hP
  have hD : va_D A [(a5, .inl (z.2 0, 8, .inl (fun _ => 0))), (a7, .inl (z.2 0, 8, .inl (fun _ => 0))), (a8, .inl (z.2 0, 8, .inl (fun _ => 0))), (a9, .inl (z.2 0, 8, .inl (fun _ => 0))), (a10, .inl (z.2 0, 16, .inl (fun _ => 0))), (a11, .inl (z.2 0, 16, .inl (fun _ => 0))), (a12, .inl (z.2 0, 16, .inl (fun _ => 0))), (a13, .inl (z.2 0, 12, .inl (fun _ => 0))), (a2, .inl (z.2 6, 20, .inr (.inr (.inr (.inr (va_up (fun _ => none) 0 (some (u4.1 0)))))))), (a0, .inr (18, [.ref a1, .ref a2, .int 1, .ref a3, .int 0, .ref a4, .int 0, .null, .int 0, .null, .long 0, .int 0, .null])), (a1, .inr (17, [.int 0, .ref a5, .ref a6, .int 0, .ref a7, .ref a8, .ref a9, .ref (u5.1 0), .null, .int 0, .ref a10, .ref a11, .ref a12, .int 0, .ref a13, .int 1])), ((u5.1 0), .inr (15, [.ref (u5.1 1), .ref (u5.1 2), .ref (u5.1 3), .ref (u5.1 4), .int 0, .int 0, .int 0]))] := hD
  refine lv_aload_n hx hb d_14_42_62 rfl (lv_at hl 0 rfl) ?_
  refine va_get (D := z.1) (ci := 18) (v := .ref a1) (C := "BallothallModel") (T := TX18) (N := 13) hx hb hts iX18 hown hG.1 hP 9 rfl rfl 0 (by decide) (hts _ w_1645) (fun _ h9 => h9) rfl d_14_42_63 ?_
  refine va_getN (D := z.1) (ci := 17) (v := .ref (u5.1 0)) (C := "BallothallModel$State") (T := TX17) (N := 16) hx hb hts iX17 hown hG.1 hP 10 rfl rfl 7 (by decide) (va_Nw.use rfl (hG.2.1 _ n_1594 rfl)) (fun _ h9 => h9) rfl d_14_42_66 ?_
  refine va_getN (D := z.1) (ci := 15) (v := .int 0) (C := "BallothallModel$Seats") (T := TX15) (N := 7) hx hb hts iX15 hown hG.1 hP 11 rfl rfl 5 (by decide) (va_Nw.use rfl (hG.2.1 _ n_1847 rfl)) (fun _ h9 => h9) rfl d_14_42_69 ?_
  refine W.widen (k := 24) (n := 252) (Nat.le_of_ble_eq_true rfl) (Nat.le_of_ble_eq_true rfl) ?_
  exact W.iret hx hb hr (fun t ht hW => qk hP hD hS [9, 10, 0, 1, 2, 3, 4, 5, 6, 7, 8] rfl ((fun k => ([(u5.1 0), (u4.1 0)] : List Nat).getD k 0), (fun _ _ => none)) rfl rfl rfl ht) hS.2.2 d_14_42_72
set_option maxRecDepth 100000 in
set_option maxHeartbeats 4000000 in
theorem c189_B_seatsOf (l : Launch) (z : Zz) (hl0 : l.stackTraces = false) (a0 a1 a2 a3 a4 a5 a6 a7 a8 a9 a10 a11 a12 a13 a14 a15 a16 a17 a18 a19 : Nat) (x0 : Int32) (h0 : x0 < 0) : XT l z ⟨"Ballothall", "seatsOf", "(I)I"⟩ prog_1_method_14_code 2 (some .int) [.ref a0, .int x0] [(a0, .inr (11, [.ref a1, .ref a2, .ref a3, .ref a4, .ref a5, .ref a6, .ref a7, .ref a8, .ref a9, .ref a10, .int 0, .int 0, .ref a11, .int 0])), (a4, .inr (7, [.int 0, .ref a12, .ref a13, .ref a14, .ref a15, .ref a16, .int 0, .ref a17, .ref a18, .ref a19, .int 0]))] 7 127 1 6 "java/lang/IndexOutOfBoundsException" := by
  refine XT.of (own := "Ballothall") (by decide +kernel) (Nat.le_of_ble_eq_true rfl) rfl (fun p e s m below meth c A ls hx hb hml hr hts hown hlocks hin hA hG hZ hP hD hS hl hnt => ?_)
  have hl : lv_has ls 2 [(0, .ref a0), (1, .int x0)] := hl
  refine lv_iload_n hx hb d_1_14_0 rfl (lv_at hl 1 rfl) ?_
  refine lv_aload_n hx hb d_1_14_1 rfl (lv_at hl 0 rfl) ?_
  refine va_get (D := z.1) (ci := 11) (v := .ref a4) (C := "Ballothall") (T := TX11) (N := 14) hx hb hts iX11 hown hG.1 hP 0 rfl rfl 3 (by decide) (hts _ w_409) (fun _ h9 => h9) rfl d_1_14_2 ?_
  refine va_getN (D := z.1) (ci := 7) (v := .int 0) (C := "Ballothall$Lists") (T := TX7) (N := 11) hx hb hts iX7 hown hG.1 hP 1 rfl rfl 0 (by decide) (va_Nw.use rfl (hG.2.1 _ n_250 rfl)) (fun _ h9 => h9) rfl d_1_14_5 ?_
  exact xS (As := [.int x0, .int 0]) (rest := []) (wr := [(a0, .inr (11, [.ref a1, .ref a2, .ref a3, .ref a4, .ref a5, .ref a6, .ref a7, .ref a8, .ref a9, .ref a10, .int 0, .int 0, .ref a11, .int 0])), (a4, .inr (7, [.int 0, .ref a12, .ref a13, .ref a14, .ref a15, .ref a16, .int 0, .ref a17, .ref a18, .ref a19, .int 0]))]) (c26_B_needIndex l z hl0 x0 h0) hx hb hml hown hts w_857 w_855 w_856 w_1 md_6cb26b ⟨Nat.le_of_ble_eq_true rfl, Nat.le_of_ble_eq_true rfl⟩ hG hZ hP hD hS hA [] [0, 1] rfl rfl rfl rfl rfl hl.1 rfl (Nat.le_of_ble_eq_true rfl) d_1_14_8 ⟨Nat.le_of_ble_eq_true rfl, Nat.le_of_ble_eq_true rfl⟩ (fun q9 ce9 H locs hP hD hS h7 h8 h9 => x_out hnt hlocks hS h7 h8 h9 (Nat.le_of_ble_eq_true rfl) (Nat.le_of_ble_eq_true rfl))
set_option maxRecDepth 100000 in
set_option maxHeartbeats 4000000 in
theorem c190_BLaw_seatsOf (l : Launch) (z : Zz) (hl0 : l.stackTraces = false) (a0 a1 a2 a3 a4 a5 a6 a7 a8 a9 a10 a11 a12 a13 a14 a15 a16 a17 a18 a19 a20 : Nat) (x0 : Int32) (h0 : x0 < 0) : HT l z ⟨"BallothallLaw", "seatsOf", "(LBallothall;I[J)I"⟩ method_14_code 4 (some .int) [(0, 9, 12, 19)] [.ref a0, .int x0, .ref a1] [(a0, .inr (11, [.ref a2, .ref a3, .ref a4, .ref a5, .ref a6, .ref a7, .ref a8, .ref a9, .ref a10, .ref a11, .int 0, .int 0, .ref a12, .int 0])), (a5, .inr (7, [.int 0, .ref a13, .ref a14, .ref a15, .ref a16, .ref a17, .int 0, .ref a18, .ref a19, .ref a20, .int 0]))] 8 156 1 6 (fun u => some (.int 1)) (fun u => []) := by
  refine HT.of (own := "BallothallLaw") (by decide +kernel) (Nat.le_of_ble_eq_true rfl) rfl (fun p e s m below meth c A ls hx hb hml hr hts hown hlocks hin hA hG hZ hP hD hS hl htab => ?_)
  have hl : lv_has ls 4 [(0, .ref a0), (1, .int x0), (2, .ref a1)] := hl
  refine lv_aload_n hx hb d_L14_0 rfl (lv_at hl 2 rfl) ?_
  refine lv_iconst (v := 0) hx hb d_L14_1 (by decide +kernel) ?_
  refine lv_aload_n hx hb d_L14_2 rfl (lv_at hl 0 rfl) ?_
  refine lv_iload_n hx hb d_L14_3 rfl (lv_at hl 1 rfl) ?_
  refine xV (As := [.int x0]) (rest := [.int 0, .ref a1]) (wr := []) (c189_B_seatsOf l z hl0 a0 a2 a3 a4 a5 a6 a7 a8 a9 a10 a11 a12 a13 a14 a15 a16 a17 a18 a19 a20 x0 h0) hx hb hml hown hts w_1071 w_1068 w_1069 w_1070 w_1 md_6fdd17 ⟨Nat.le_of_ble_eq_true rfl, Nat.le_of_ble_eq_true rfl⟩ hG hZ hP hD hS hA 0 rfl rfl rfl [0, 1] [] rfl rfl rfl rfl rfl hl.1 rfl (Nat.le_of_ble_eq_true rfl) d_L14_4 ⟨Nat.le_of_ble_eq_true rfl, Nat.le_of_ble_eq_true rfl⟩ (fun q0 ce9 H locs hP hD hS h7 h8 h9 => ?_)
  have hP : va_P z.1 classes [] H := hP
  have hD : va_D A [] := hD
  refine vx_catch hown [] ⟨0, 9, 12, 19⟩ [] (htab.trans rfl) (fun _ h9 => absurd h9 List.not_mem_nil) rfl (by decide) (hts _ w_849) (va_Nw.use rfl (hG.2.1 _ n_860 rfl)) h7 h8 h9 ?_
  refine lv_astore_n (lv' := [(3, .ref q0), (0, .ref a0), (1, .int x0), (2, .ref a1)]) hx hb d_L14_12 rfl hl (by decide) rfl (fun ls hl => ?_)
  refine lv_iconst (v := 1) hx hb d_L14_13 (by decide +kernel) ?_
  refine W.widen (k := 1) (n := 6) (Nat.le_of_ble_eq_true rfl) (Nat.le_of_ble_eq_true rfl) ?_
  refine vx_ret ?_
  exact W.iret hx hb hr (fun t ht hW => qk hP hD hS [] rfl ((fun k => k), (fun _ _ => none)) rfl rfl rfl ht) hS.2.2 d_L14_14
set_option maxRecDepth 100000 in
set_option maxHeartbeats 4000000 in
theorem c191_BModel_seatsOf (l : Launch) (z : Zz) (a0 a1 a2 a3 a4 a5 a6 a7 a8 a9 a10 a11 a12 a13 : Nat) (x0 : Int32) (h0 : x0 < 0) : CT l z ⟨"BallothallModel", "seatsOf", "(I)I"⟩ prog_14_method_44_code 2 (some .int) [.ref a0, .int x0] [(a0, .inr (18, [.ref a1, .ref a2, .int 0, .ref a3, .int 0, .ref a4, .int 0, .null, .int 0, .null, .long 0, .int 0, .null])), (a1, .inr (17, [.int 0, .ref a5, .ref a6, .int 0, .ref a7, .ref a8, .ref a9, .null, .null, .int 0, .ref a10, .ref a11, .ref a12, .int 0, .ref a13, .int 1]))] 2 59 0 0 (fun u => some (.int 0)) (fun u => [(a0, .inr (18, [.ref a1, .ref a2, .int 0, .ref a3, .int 0, .ref a4, .int 1, .null, .int 0, .null, .long 0, .int 0, .null])), (a1, .inr (17, [.int 0, .ref a5, .ref a6, .int 0, .ref a7, .ref a8, .ref a9, .null, .null, .int 0, .ref a10, .ref a11, .ref a12, .int 0, .ref a13, .int 1]))]) := by
  refine CT.of (own := "BallothallModel") (by decide +kernel) (Nat.le_of_ble_eq_true rfl) rfl (fun p e s m below meth c A ls hx hb hml hr hts hown hlocks hin hA hG hZ hP hD hS hl => ?_)
  have hl : lv_has ls 2 [(0, .ref a0), (1, .int x0)] := hl
  refine lv_aload_n hx hb d_14_44_0 rfl (lv_at hl 0 rfl) ?_
  refine lv_aload_n hx hb d_14_44_1 rfl (lv_at hl 0 rfl) ?_
  refine lv_iload_n hx hb d_14_44_2 rfl (lv_at hl 1 rfl) ?_
  refine kV (As := [.int x0]) (rest := [.ref a0]) (wr := []) (c42_BModel_isList l z a0 a1 a2 a3 a4 a5 a6 a7 a8 a9 a10 a11 a12 a13 x0 h0) hx hb hml hown hts w_1715 w_1712 w_1714 w_s_92f5e0 w_12 md_94944f ⟨Nat.le_of_ble_eq_true rfl, Nat.le_of_ble_eq_true rfl⟩ hG hZ hP hD hS hA 0 rfl rfl rfl [0, 1] [] rfl rfl rfl rfl rfl hl.1 rfl (Nat.le_of_ble_eq_true rfl) d_14_44_3 ⟨Nat.le_of_ble_eq_true rfl, Nat.le_of_ble_eq_true rfl⟩ (fun u0 H locs hP hD hS => ?_)
  have hP : va_P z.1 classes [(a0, .inr (18, [.ref a1, .ref a2, .int 0, .ref a3, .int 0, .ref a4, .int 0, .null, .int 0, .null, .long 0, .int 0, .null])), (a1, .inr (17, [.int 0, .ref a5, .ref a6, .int 0, .ref a7, .ref a8, .ref a9, .null, .null, .int 0, .ref a10, .ref a11, .ref a12, .int 0, .ref a13, .int 1]))] H := hP
  have hD : va_D A [(a0, .inr (18, [.ref a1, .ref a2, .int 0, .ref a3, .int 0, .ref a4, .int 0, .null, .int 0, .null, .long 0, .int 0, .null])), (a1, .inr (17, [.int 0, .ref a5, .ref a6, .int 0, .ref a7, .ref a8, .ref a9, .null, .null, .int 0, .ref a10, .ref a11, .ref a12, .int 0, .ref a13, .int 1]))] := hD
  refine W.eq (g2 := F0 m 6 ls [.int 0, .ref a0]) rfl ?_
  refine lv_iconst (v := 1) hx hb d_14_44_6 (by decide +kernel) ?_
  refine kV (As := [.int 0, .int 1]) (rest := []) (wr := [(a1, .inr (17, [.int 0, .ref a5, .ref a6, .int 0, .ref a7, .ref a8, .ref a9, .null, .null, .int 0, .ref a10, .ref a11, .ref a12, .int 0, .ref a13, .int 1]))]) (c31_BModel_ends l z a0 a1 a2 a3 a4) hx hb hml hown hts w_1696 w_1693 w_1695 w_s_f8f2b7 w_12 md_77b0f8 ⟨Nat.le_of_ble_eq_true rfl, Nat.le_of_ble_eq_true rfl⟩ hG hZ hP hD hS hA 0 rfl rfl rfl [0] [1] rfl rfl rfl rfl rfl hl.1 rfl (Nat.le_of_ble_eq_true rfl) d_14_44_7 ⟨Nat.le_of_ble_eq_true rfl, Nat.le_of_ble_eq_true rfl⟩ (fun u1 H locs hP hD hS => ?_)
  have hP : va_P z.1 classes [(a1, .inr (17, [.int 0, .ref a5, .ref a6, .int 0, .ref a7, .ref a8, .ref a9, .null, .null, .int 0, .ref a10, .ref a11, .ref a12, .int 0, .ref a13, .int 1])), (a0, .inr (18, [.ref a1, .ref a2, .int 0, .ref a3, .int 0, .ref a4, .int 1, .null, .int 0, .null, .long 0, .int 0, .null]))] H := hP
  have hD : va_D A [(a1, .inr (17, [.int 0, .ref a5, .ref a6, .int 0, .ref a7, .ref a8, .ref a9, .null, .null, .int 0, .ref a10, .ref a11, .ref a12, .int 0, .ref a13, .int 1])), (a0, .inr (18, [.ref a1, .ref a2, .int 0, .ref a3, .int 0, .ref a4, .int 1, .null, .int 0, .null, .long 0, .int 0, .null]))] := hD
  refine W.eq (g2 := F0 m 10 ls [.int 1]) rfl ?_
  refine lv_if_eq (tgt := 17) hx hb d_14_44_10 (by decide) (fun c9 => absurd c9 (by decide +kernel)) (fun _ => ?_)
  refine lv_iconst (v := 0) hx hb d_14_44_13 (by decide +kernel) ?_
  refine lv_goto (tgt := 22) hx hb d_14_44_14 (by decide) ?_
  refine W.widen (k := 0) (n := 0) (Nat.le_of_ble_eq_true rfl) (Nat.le_of_ble_eq_true rfl) ?_
  exact W.iret hx hb hr (fun t ht hW => qk hP hD hS [1, 0] rfl ((fun k => k), (fun _ _ => none)) rfl rfl rfl ht) hS.2.2 d_14_44_22
set_option maxRecDepth 100000 in
set_option maxHeartbeats 4000000 in
theorem c192_B_seatsOf (l : Launch) (z : Zz) (hl0 : l.stackTraces = false) (a0 a1 a2 a3 a4 a5 a6 a7 a8 a9 a10 a11 a12 a13 a14 a15 a16 a17 a18 a19 : Nat) (x0 : Int32) (h0 : ¬ x0 < 0) : XT l z ⟨"Ballothall", "seatsOf", "(I)I"⟩ prog_1_method_14_code 2 (some .int) [.ref a0, .int x0] [(a0, .inr (11, [.ref a1, .ref a2, .ref a3, .ref a4, .ref a5, .ref a6, .ref a7, .ref a8, .ref a9, .ref a10, .int 0, .int 0, .ref a11, .int 0])), (a4, .inr (7, [.int 0, .ref a12, .ref a13, .ref a14, .ref a15, .ref a16, .int 0, .ref a17, .ref a18, .ref a19, .int 0]))] 7 127 1 6 "java/lang/IndexOutOfBoundsException" := by
  refine XT.of (own := "Ballothall") (by decide +kernel) (Nat.le_of_ble_eq_true rfl) rfl (fun p e s m below meth c A ls hx hb hml hr hts hown hlocks hin hA hG hZ hP hD hS hl hnt => ?_)
  have hl : lv_has ls 2 [(0, .ref a0), (1, .int x0)] := hl
  refine lv_iload_n hx hb d_1_14_0 rfl (lv_at hl 1 rfl) ?_
  refine lv_aload_n hx hb d_1_14_1 rfl (lv_at hl 0 rfl) ?_
  refine va_get (D := z.1) (ci := 11) (v := .ref a4) (C := "Ballothall") (T := TX11) (N := 14) hx hb hts iX11 hown hG.1 hP 0 rfl rfl 3 (by decide) (hts _ w_409) (fun _ h9 => h9) rfl d_1_14_2 ?_
  refine va_getN (D := z.1) (ci := 7) (v := .int 0) (C := "Ballothall$Lists") (T := TX7) (N := 11) hx hb hts iX7 hown hG.1 hP 1 rfl rfl 0 (by decide) (va_Nw.use rfl (hG.2.1 _ n_250 rfl)) (fun _ h9 => h9) rfl d_1_14_5 ?_
  exact xS (As := [.int x0, .int 0]) (rest := []) (wr := [(a0, .inr (11, [.ref a1, .ref a2, .ref a3, .ref a4, .ref a5, .ref a6, .ref a7, .ref a8, .ref a9, .ref a10, .int 0, .int 0, .ref a11, .int 0])), (a4, .inr (7, [.int 0, .ref a12, .ref a13, .ref a14, .ref a15, .ref a16, .int 0, .ref a17, .ref a18, .ref a19, .int 0]))]) (c34_B_needIndex l z hl0 x0 h0) hx hb hml hown hts w_857 w_855 w_856 w_1 md_6cb26b ⟨Nat.le_of_ble_eq_true rfl, Nat.le_of_ble_eq_true rfl⟩ hG hZ hP hD hS hA [] [0, 1] rfl rfl rfl rfl rfl hl.1 rfl (Nat.le_of_ble_eq_true rfl) d_1_14_8 ⟨Nat.le_of_ble_eq_true rfl, Nat.le_of_ble_eq_true rfl⟩ (fun q9 ce9 H locs hP hD hS h7 h8 h9 => x_out hnt hlocks hS h7 h8 h9 (Nat.le_of_ble_eq_true rfl) (Nat.le_of_ble_eq_true rfl))
set_option maxRecDepth 100000 in
set_option maxHeartbeats 4000000 in
theorem c193_BLaw_seatsOf (l : Launch) (z : Zz) (hl0 : l.stackTraces = false) (a0 a1 a2 a3 a4 a5 a6 a7 a8 a9 a10 a11 a12 a13 a14 a15 a16 a17 a18 a19 a20 : Nat) (x0 : Int32) (h0 : ¬ x0 < 0) : HT l z ⟨"BallothallLaw", "seatsOf", "(LBallothall;I[J)I"⟩ method_14_code 4 (some .int) [(0, 9, 12, 19)] [.ref a0, .int x0, .ref a1] [(a0, .inr (11, [.ref a2, .ref a3, .ref a4, .ref a5, .ref a6, .ref a7, .ref a8, .ref a9, .ref a10, .ref a11, .int 0, .int 0, .ref a12, .int 0])), (a5, .inr (7, [.int 0, .ref a13, .ref a14, .ref a15, .ref a16, .ref a17, .int 0, .ref a18, .ref a19, .ref a20, .int 0]))] 8 156 1 6 (fun u => some (.int 1)) (fun u => []) := by
  refine HT.of (own := "BallothallLaw") (by decide +kernel) (Nat.le_of_ble_eq_true rfl) rfl (fun p e s m below meth c A ls hx hb hml hr hts hown hlocks hin hA hG hZ hP hD hS hl htab => ?_)
  have hl : lv_has ls 4 [(0, .ref a0), (1, .int x0), (2, .ref a1)] := hl
  refine lv_aload_n hx hb d_L14_0 rfl (lv_at hl 2 rfl) ?_
  refine lv_iconst (v := 0) hx hb d_L14_1 (by decide +kernel) ?_
  refine lv_aload_n hx hb d_L14_2 rfl (lv_at hl 0 rfl) ?_
  refine lv_iload_n hx hb d_L14_3 rfl (lv_at hl 1 rfl) ?_
  refine xV (As := [.int x0]) (rest := [.int 0, .ref a1]) (wr := []) (c192_B_seatsOf l z hl0 a0 a2 a3 a4 a5 a6 a7 a8 a9 a10 a11 a12 a13 a14 a15 a16 a17 a18 a19 a20 x0 h0) hx hb hml hown hts w_1071 w_1068 w_1069 w_1070 w_1 md_6fdd17 ⟨Nat.le_of_ble_eq_true rfl, Nat.le_of_ble_eq_true rfl⟩ hG hZ hP hD hS hA 0 rfl rfl rfl [0, 1] [] rfl rfl rfl rfl rfl hl.1 rfl (Nat.le_of_ble_eq_true rfl) d_L14_4 ⟨Nat.le_of_ble_eq_true rfl, Nat.le_of_ble_eq_true rfl⟩ (fun q0 ce9 H locs hP hD hS h7 h8 h9 => ?_)
  have hP : va_P z.1 classes [] H := hP
  have hD : va_D A [] := hD
  refine vx_catch hown [] ⟨0, 9, 12, 19⟩ [] (htab.trans rfl) (fun _ h9 => absurd h9 List.not_mem_nil) rfl (by decide) (hts _ w_849) (va_Nw.use rfl (hG.2.1 _ n_860 rfl)) h7 h8 h9 ?_
  refine lv_astore_n (lv' := [(3, .ref q0), (0, .ref a0), (1, .int x0), (2, .ref a1)]) hx hb d_L14_12 rfl hl (by decide) rfl (fun ls hl => ?_)
  refine lv_iconst (v := 1) hx hb d_L14_13 (by decide +kernel) ?_
  refine W.widen (k := 1) (n := 6) (Nat.le_of_ble_eq_true rfl) (Nat.le_of_ble_eq_true rfl) ?_
  refine vx_ret ?_
  exact W.iret hx hb hr (fun t ht hW => qk hP hD hS [] rfl ((fun k => k), (fun _ _ => none)) rfl rfl rfl ht) hS.2.2 d_L14_14
set_option maxRecDepth 100000 in
set_option maxHeartbeats 4000000 in
theorem c194_BModel_seatsOf (l : Launch) (z : Zz) (a0 a1 a2 a3 a4 a5 a6 a7 a8 a9 a10 a11 a12 a13 : Nat) (x0 : Int32) (h0 : ¬ x0 < 0) (h1 : (-1) < x0) : CT l z ⟨"BallothallModel", "seatsOf", "(I)I"⟩ prog_14_method_44_code 2 (some .int) [.ref a0, .int x0] [(a0, .inr (18, [.ref a1, .ref a2, .int 0, .ref a3, .int 0, .ref a4, .int 0, .null, .int 0, .null, .long 0, .int 0, .null])), (a1, .inr (17, [.int 0, .ref a5, .ref a6, .int 0, .ref a7, .ref a8, .ref a9, .null, .null, .int 0, .ref a10, .ref a11, .ref a12, .int 0, .ref a13, .int 1]))] 2 59 0 0 (fun u => some (.int 0)) (fun u => [(a0, .inr (18, [.ref a1, .ref a2, .int 0, .ref a3, .int 0, .ref a4, .int 1, .null, .int 0, .null, .long 0, .int 0, .null])), (a1, .inr (17, [.int 0, .ref a5, .ref a6, .int 0, .ref a7, .ref a8, .ref a9, .null, .null, .int 0, .ref a10, .ref a11, .ref a12, .int 0, .ref a13, .int 1]))]) := by
  refine CT.of (own := "BallothallModel") (by decide +kernel) (Nat.le_of_ble_eq_true rfl) rfl (fun p e s m below meth c A ls hx hb hml hr hts hown hlocks hin hA hG hZ hP hD hS hl => ?_)
  have hl : lv_has ls 2 [(0, .ref a0), (1, .int x0)] := hl
  refine lv_aload_n hx hb d_14_44_0 rfl (lv_at hl 0 rfl) ?_
  refine lv_aload_n hx hb d_14_44_1 rfl (lv_at hl 0 rfl) ?_
  refine lv_iload_n hx hb d_14_44_2 rfl (lv_at hl 1 rfl) ?_
  refine kV (As := [.int x0]) (rest := [.ref a0]) (wr := []) (c46_BModel_isList l z a0 a1 a2 a3 a4 a5 a6 a7 a8 a9 a10 a11 a12 a13 x0 h0 h1) hx hb hml hown hts w_1715 w_1712 w_1714 w_s_92f5e0 w_12 md_94944f ⟨Nat.le_of_ble_eq_true rfl, Nat.le_of_ble_eq_true rfl⟩ hG hZ hP hD hS hA 0 rfl rfl rfl [0, 1] [] rfl rfl rfl rfl rfl hl.1 rfl (Nat.le_of_ble_eq_true rfl) d_14_44_3 ⟨Nat.le_of_ble_eq_true rfl, Nat.le_of_ble_eq_true rfl⟩ (fun u0 H locs hP hD hS => ?_)
  have hP : va_P z.1 classes [(a0, .inr (18, [.ref a1, .ref a2, .int 0, .ref a3, .int 0, .ref a4, .int 0, .null, .int 0, .null, .long 0, .int 0, .null])), (a1, .inr (17, [.int 0, .ref a5, .ref a6, .int 0, .ref a7, .ref a8, .ref a9, .null, .null, .int 0, .ref a10, .ref a11, .ref a12, .int 0, .ref a13, .int 1]))] H := hP
  have hD : va_D A [(a0, .inr (18, [.ref a1, .ref a2, .int 0, .ref a3, .int 0, .ref a4, .int 0, .null, .int 0, .null, .long 0, .int 0, .null])), (a1, .inr (17, [.int 0, .ref a5, .ref a6, .int 0, .ref a7, .ref a8, .ref a9, .null, .null, .int 0, .ref a10, .ref a11, .ref a12, .int 0, .ref a13, .int 1]))] := hD
  refine W.eq (g2 := F0 m 6 ls [.int 0, .ref a0]) rfl ?_
  refine lv_iconst (v := 1) hx hb d_14_44_6 (by decide +kernel) ?_
  refine kV (As := [.int 0, .int 1]) (rest := []) (wr := [(a1, .inr (17, [.int 0, .ref a5, .ref a6, .int 0, .ref a7, .ref a8, .ref a9, .null, .null, .int 0, .ref a10, .ref a11, .ref a12, .int 0, .ref a13, .int 1]))]) (c31_BModel_ends l z a0 a1 a2 a3 a4) hx hb hml hown hts w_1696 w_1693 w_1695 w_s_f8f2b7 w_12 md_77b0f8 ⟨Nat.le_of_ble_eq_true rfl, Nat.le_of_ble_eq_true rfl⟩ hG hZ hP hD hS hA 0 rfl rfl rfl [0] [1] rfl rfl rfl rfl rfl hl.1 rfl (Nat.le_of_ble_eq_true rfl) d_14_44_7 ⟨Nat.le_of_ble_eq_true rfl, Nat.le_of_ble_eq_true rfl⟩ (fun u1 H locs hP hD hS => ?_)
  have hP : va_P z.1 classes [(a1, .inr (17, [.int 0, .ref a5, .ref a6, .int 0, .ref a7, .ref a8, .ref a9, .null, .null, .int 0, .ref a10, .ref a11, .ref a12, .int 0, .ref a13, .int 1])), (a0, .inr (18, [.ref a1, .ref a2, .int 0, .ref a3, .int 0, .ref a4, .int 1, .null, .int 0, .null, .long 0, .int 0, .null]))] H := hP
  have hD : va_D A [(a1, .inr (17, [.int 0, .ref a5, .ref a6, .int 0, .ref a7, .ref a8, .ref a9, .null, .null, .int 0, .ref a10, .ref a11, .ref a12, .int 0, .ref a13, .int 1])), (a0, .inr (18, [.ref a1, .ref a2, .int 0, .ref a3, .int 0, .ref a4, .int 1, .null, .int 0, .null, .long 0, .int 0, .null]))] := hD
  refine W.eq (g2 := F0 m 10 ls [.int 1]) rfl ?_
  refine lv_if_eq (tgt := 17) hx hb d_14_44_10 (by decide) (fun c9 => absurd c9 (by decide +kernel)) (fun _ => ?_)
  refine lv_iconst (v := 0) hx hb d_14_44_13 (by decide +kernel) ?_
  refine lv_goto (tgt := 22) hx hb d_14_44_14 (by decide) ?_
  refine W.widen (k := 0) (n := 0) (Nat.le_of_ble_eq_true rfl) (Nat.le_of_ble_eq_true rfl) ?_
  exact W.iret hx hb hr (fun t ht hW => qk hP hD hS [1, 0] rfl ((fun k => k), (fun _ _ => none)) rfl rfl rfl ht) hS.2.2 d_14_44_22
set_option maxRecDepth 100000 in
set_option maxHeartbeats 4000000 in
theorem c195_Lists_latest (l : Launch) (z : Zz) (a0 a1 a2 a3 a4 a5 a6 a7 a8 a9 a10 a11 a12 a13 a14 a15 a16 a17 a18 a19 a20 a21 a22 a23 a24 a25 a26 a27 a28 a29 : Nat) : CT l z ⟨"Ballothall$Lists", "latest", "()LBallothall$KeptSeats;"⟩ prog_9_method_3_code 1 (some (.object "Ballothall$KeptSeats")) [.ref a0] [(a0, .inr (7, [.int 0, .ref a1, .ref a2, .ref a3, .ref a4, .ref a5, .int 0, .ref a6, .ref a7, .ref a8, .int 0])), (a8, .inl (z.2 3, 21, .inr (.inr (.inr (.inr (va_up (va_up (va_up (va_up (va_up (va_up (va_up (va_up (va_up (va_up (va_up (va_up (va_up (va_up (va_up (va_up (va_up (va_up (va_up (va_up (va_up (fun _ => none) 0 (some a9)) 1 (some a10)) 2 (some a11)) 3 (some a12)) 4 (some a13)) 5 (some a14)) 6 (some a15)) 7 (some a16)) 8 (some a17)) 9 (some a18)) 10 (some a19)) 11 (some a20)) 12 (some a21)) 13 (some a22)) 14 (some a23)) 15 (some a24)) 16 (some a25)) 17 (some a26)) 18 (some a27)) 19 (some a28)) 20 (some a29)))))))] 0 0 0 0 (fun u => some (.ref a9)) (fun u => [(a0, .inr (7, [.int 0, .ref a1, .ref a2, .ref a3, .ref a4, .ref a5, .int 0, .ref a6, .ref a7, .ref a8, .int 0])), (a8, .inl (z.2 3, 21, .inr (.inr (.inr (.inr (va_up (va_up (va_up (va_up (va_up (va_up (va_up (va_up (va_up (va_up (va_up (va_up (va_up (va_up (va_up (va_up (va_up (va_up (va_up (va_up (va_up (fun _ => none) 0 (some a9)) 1 (some a10)) 2 (some a11)) 3 (some a12)) 4 (some a13)) 5 (some a14)) 6 (some a15)) 7 (some a16)) 8 (some a17)) 9 (some a18)) 10 (some a19)) 11 (some a20)) 12 (some a21)) 13 (some a22)) 14 (some a23)) 15 (some a24)) 16 (some a25)) 17 (some a26)) 18 (some a27)) 19 (some a28)) 20 (some a29)))))))]) := by
  refine CT.of (own := "Ballothall$Lists") (by decide +kernel) (Nat.le_of_ble_eq_true rfl) rfl (fun p e s m below meth c A ls hx hb hml hr hts hown hlocks hin hA hG hZ hP hD hS hl => ?_)
  have hl : lv_has ls 1 [(0, .ref a0)] := hl
  refine lv_aload_n hx hb d_9_3_0 rfl (lv_at hl 0 rfl) ?_
  refine va_get (D := z.1) (ci := 7) (v := .ref a8) (C := "Ballothall$Lists") (T := TX7) (N := 11) hx hb hts iX7 hown hG.1 hP 0 rfl rfl 9 (by decide) (hts _ w_262) (fun _ h9 => h9) rfl d_9_3_1 ?_
  refine lv_aload_n hx hb d_9_3_4 rfl (lv_at hl 0 rfl) ?_
  refine va_get (D := z.1) (ci := 7) (v := .int 0) (C := "Ballothall$Lists") (T := TX7) (N := 11) hx hb hts iX7 hown hG.1 hP 0 rfl rfl 10 (by decide) (hts _ w_263) (fun _ h9 => h9) rfl d_9_3_5 ?_
  refine va_aldq hx hb hG.1 hP 1 3 rfl rfl (vin rfl) d_9_3_8 ?_
  refine W.eq (g2 := F0 m 9 ls [.ref a9]) rfl ?_
  refine W.widen (k := 0) (n := 0) (Nat.le_of_ble_eq_true rfl) (Nat.le_of_ble_eq_true rfl) ?_
  exact W.aret hx hb hr (Or.inl ⟨_, rfl⟩) (Or.inr ⟨_, rfl⟩) (fun t ht hW => qk hP hD hS [0, 1] rfl ((fun k => k), (fun _ _ => none)) rfl rfl rfl ht) hS.2.2 d_9_3_9
set_option maxRecDepth 100000 in
set_option maxHeartbeats 4000000 in
theorem c196_B_needPlace (l : Launch) (z : Zz) (hl0 : l.stackTraces = false) (x0 : Int32) (h0 : x0 < 0) : XT l z ⟨"Ballothall", "needPlace", "(II)V"⟩ prog_1_method_59_code 2 none [.int x0, .int 0] [] 6 98 1 6 "java/util/NoSuchElementException" := by
  refine XT.of (own := "Ballothall") (by decide +kernel) (Nat.le_of_ble_eq_true rfl) rfl (fun p e s m below meth c A ls hx hb hml hr hts hown hlocks hin hA hG hZ hP hD hS hl hnt => ?_)
  have hl : lv_has ls 2 [(0, .int x0), (1, .int 0)] := hl
  refine lv_iload_n hx hb d_1_59_0 rfl (lv_at hl 0 rfl) ?_
  refine lv_if_lt (tgt := 9) hx hb d_1_59_1 (by decide) (fun _ => ?_) (fun c9 => absurd h0 c9)
  exact x_newNW (text := "there is nothing in this place") hl0 hx hb hml hown hts hlocks hnt hG hZ hS hl.1 (by decide +kernel) w_1083 w_26 (by decide) d_ns_0 d_ns_1 d_ns_2 d_ns_5 xa_206_a xa_206_b d_1_59_9 d_1_59_12 d_1_59_13 d_1_59_16 d_1_59_19 ⟨Nat.le_of_ble_eq_true rfl, Nat.le_of_ble_eq_true rfl, Nat.le_of_ble_eq_true rfl, Nat.le_of_ble_eq_true rfl⟩ (Nat.le_of_ble_eq_true rfl) (Nat.le_of_ble_eq_true rfl) (Nat.le_of_ble_eq_true rfl)
set_option maxRecDepth 100000 in
set_option maxHeartbeats 4000000 in
theorem c197_B_seatAt (l : Launch) (z : Zz) (hl0 : l.stackTraces = false) (a0 a1 a2 a3 a4 a5 a6 a7 a8 a9 a10 a11 a12 a13 a14 a15 a16 a17 a18 a19 a20 a21 a22 a23 a24 a25 a26 a27 a28 a29 a30 a31 a32 a33 a34 a35 a36 a37 a38 a39 a40 a41 a42 a43 a44 : Nat) (x0 : Int32) (h0 : x0 < 0) : XT l z ⟨"Ballothall", "seatAt", "(I)I"⟩ prog_1_method_15_code 3 (some .int) [.ref a0, .int x0] [(a0, .inr (11, [.ref a1, .ref a2, .ref a3, .ref a4, .ref a5, .ref a6, .ref a7, .ref a8, .ref a9, .ref a10, .int 0, .int 0, .ref a11, .int 0])), (a4, .inr (7, [.int 0, .ref a12, .ref a13, .ref a14, .ref a15, .ref a16, .int 0, .ref a17, .ref a18, .ref a19, .int 0])), (a19, .inl (z.2 3, 21, .inr (.inr (.inr (.inr (va_up (va_up (va_up (va_up (va_up (va_up (va_up (va_up (va_up (va_up (va_up (va_up (va_up (va_up (va_up (va_up (va_up (va_up (va_up (va_up (va_up (fun _ => none) 0 (some a20)) 1 (some a21)) 2 (some a22)) 3 (some a23)) 4 (some a24)) 5 (some a25)) 6 (some a26)) 7 (some a27)) 8 (some a28)) 9 (some a29)) 10 (some a30)) 11 (some a31)) 12 (some a32)) 13 (some a33)) 14 (some a34)) 15 (some a35)) 16 (some a36)) 17 (some a37)) 18 (some a38)) 19 (some a39)) 20 (some a40))))))), (a20, .inr (6, [.int 0, .int 0, .int 0, .ref a41, .ref a42, .ref a43, .ref a44]))] 7 127 1 6 "java/util/NoSuchElementException" := by
  refine XT.of (own := "Ballothall") (by decide +kernel) (Nat.le_of_ble_eq_true rfl) rfl (fun p e s m below meth c A ls hx hb hml hr hts hown hlocks hin hA hG hZ hP hD hS hl hnt => ?_)
  have hl : lv_has ls 3 [(0, .ref a0), (1, .int x0)] := hl
  refine lv_aload_n hx hb d_1_15_0 rfl (lv_at hl 0 rfl) ?_
  refine va_get (D := z.1) (ci := 11) (v := .ref a4) (C := "Ballothall") (T := TX11) (N := 14) hx hb hts iX11 hown hG.1 hP 0 rfl rfl 3 (by decide) (hts _ w_409) (fun _ h9 => h9) rfl d_1_15_1 ?_
  refine kVN (As := []) (rest := []) (wr := [(a0, .inr (11, [.ref a1, .ref a2, .ref a3, .ref a4, .ref a5, .ref a6, .ref a7, .ref a8, .ref a9, .ref a10, .int 0, .int 0, .ref a11, .int 0])), (a20, .inr (6, [.int 0, .int 0, .int 0, .ref a41, .ref a42, .ref a43, .ref a44]))]) (c195_Lists_latest l z a4 a12 a13 a14 a15 a16 a17 a18 a19 a20 a21 a22 a23 a24 a25 a26 a27 a28 a29 a30 a31 a32 a33 a34 a35 a36 a37 a38 a39 a40) hx hb hml hown hts w_656 n_653 w_655 w_s_46c41a w_5 md_cb0049 ⟨Nat.le_of_ble_eq_true rfl, Nat.le_of_ble_eq_true rfl⟩ hG hZ hP hD hS hA 1 rfl rfl rfl [1, 2] [0, 3] rfl rfl rfl rfl rfl hl.1 rfl (Nat.le_of_ble_eq_true rfl) d_1_15_4 ⟨Nat.le_of_ble_eq_true rfl, Nat.le_of_ble_eq_true rfl⟩ (fun u0 H locs hP hD hS => ?_)
  have hP : va_P z.1 classes [(a0, .inr (11, [.ref a1, .ref a2, .ref a3, .ref a4, .ref a5, .ref a6, .ref a7, .ref a8, .ref a9, .ref a10, .int 0, .int 0, .ref a11, .int 0])), (a20, .inr (6, [.int 0, .int 0, .int 0, .ref a41, .ref a42, .ref a43, .ref a44])), (a4, .inr (7, [.int 0, .ref a12, .ref a13, .ref a14, .ref a15, .ref a16, .int 0, .ref a17, .ref a18, .ref a19, .int 0])), (a19, .inl (z.2 3, 21, .inr (.inr (.inr (.inr (va_up (va_up (va_up (va_up (va_up (va_up (va_up (va_up (va_up (va_up (va_up (va_up (va_up (va_up (va_up (va_up (va_up (va_up (va_up (va_up (va_up (fun _ => none) 0 (some a20)) 1 (some a21)) 2 (some a22)) 3 (some a23)) 4 (some a24)) 5 (some a25)) 6 (some a26)) 7 (some a27)) 8 (some a28)) 9 (some a29)) 10 (some a30)) 11 (some a31)) 12 (some a32)) 13 (some a33)) 14 (some a34)) 15 (some a35)) 16 (some a36)) 17 (some a37)) 18 (some a38)) 19 (some a39)) 20 (some a40)))))))] H := hP
  have hD : va_D A [(a0, .inr (11, [.ref a1, .ref a2, .ref a3, .ref a4, .ref a5, .ref a6, .ref a7, .ref a8, .ref a9, .ref a10, .int 0, .int 0, .ref a11, .int 0])), (a20, .inr (6, [.int 0, .int 0, .int 0, .ref a41, .ref a42, .ref a43, .ref a44])), (a4, .inr (7, [.int 0, .ref a12, .ref a13, .ref a14, .ref a15, .ref a16, .int 0, .ref a17, .ref a18, .ref a19, .int 0])), (a19, .inl (z.2 3, 21, .inr (.inr (.inr (.inr (va_up (va_up (va_up (va_up (va_up (va_up (va_up (va_up (va_up (va_up (va_up (va_up (va_up (va_up (va_up (va_up (va_up (va_up (va_up (va_up (va_up (fun _ => none) 0 (some a20)) 1 (some a21)) 2 (some a22)) 3 (some a23)) 4 (some a24)) 5 (some a25)) 6 (some a26)) 7 (some a27)) 8 (some a28)) 9 (some a29)) 10 (some a30)) 11 (some a31)) 12 (some a32)) 13 (some a33)) 14 (some a34)) 15 (some a35)) 16 (some a36)) 17 (some a37)) 18 (some a38)) 19 (some a39)) 20 (some a40)))))))] := hD
  refine W.eq (g2 := F0 m 7 ls [.ref a20]) rfl ?_
  refine lv_astore_n (lv' := [(2, .ref a20), (0, .ref a0), (1, .int x0)]) hx hb d_1_15_7 rfl hl (by decide) rfl (fun ls hl => ?_)
  refine lv_iload_n hx hb d_1_15_8 rfl (lv_at hl 2 rfl) ?_
  refine lv_aload_n hx hb d_1_15_9 rfl (lv_at hl 0 rfl) ?_
  refine va_getN (D := z.1) (ci := 6) (v := .int 0) (C := "Ballothall$KeptSeats") (T := TX6) (N := 7) hx hb hts iX6 hown hG.1 hP 1 rfl rfl 1 (by decide) (va_Nw.use rfl (hG.2.1 _ n_222 rfl)) (fun _ h9 => h9) rfl d_1_15_10 ?_
  refine lv_if_eq (tgt := 20) hx hb d_1_15_13 (by decide) (fun _ => ?_) (fun c9 => absurd (by decide +kernel) c9)
  refine lv_aload_n hx hb d_1_15_20 rfl (lv_at hl 0 rfl) ?_
  refine va_getN (D := z.1) (ci := 6) (v := .int 0) (C := "Ballothall$KeptSeats") (T := TX6) (N := 7) hx hb hts iX6 hown hG.1 hP 1 rfl rfl 0 (by decide) (va_Nw.use rfl (hG.2.1 _ n_220 rfl)) (fun _ h9 => h9) rfl d_1_15_21 ?_
  exact xS (As := [.int x0, .int 0]) (rest := []) (wr := [(a0, .inr (11, [.ref a1, .ref a2, .ref a3, .ref a4, .ref a5, .ref a6, .ref a7, .ref a8, .ref a9, .ref a10, .int 0, .int 0, .ref a11, .int 0])), (a20, .inr (6, [.int 0, .int 0, .int 0, .ref a41, .ref a42, .ref a43, .ref a44])), (a4, .inr (7, [.int 0, .ref a12, .ref a13, .ref a14, .ref a15, .ref a16, .int 0, .ref a17, .ref a18, .ref a19, .int 0])), (a19, .inl (z.2 3, 21, .inr (.inr (.inr (.inr (va_up (va_up (va_up (va_up (va_up (va_up (va_up (va_up (va_up (va_up (va_up (va_up (va_up (va_up (va_up (va_up (va_up (va_up (va_up (va_up (va_up (fun _ => none) 0 (some a20)) 1 (some a21)) 2 (some a22)) 3 (some a23)) 4 (some a24)) 5 (some a25)) 6 (some a26)) 7 (some a27)) 8 (some a28)) 9 (some a29)) 10 (some a30)) 11 (some a31)) 12 (some a32)) 13 (some a33)) 14 (some a34)) 15 (some a35)) 16 (some a36)) 17 (some a37)) 18 (some a38)) 19 (some a39)) 20 (some a40)))))))]) (c196_B_needPlace l z hl0 x0 h0) hx hb hml hown hts w_1082 w_1080 w_1081 w_1 md_541664 ⟨Nat.le_of_ble_eq_true rfl, Nat.le_of_ble_eq_true rfl⟩ hG hZ hP hD hS hA [] [0, 1, 2, 3] rfl rfl rfl rfl rfl hl.1 rfl (Nat.le_of_ble_eq_true rfl) d_1_15_24 ⟨Nat.le_of_ble_eq_true rfl, Nat.le_of_ble_eq_true rfl⟩ (fun q9 ce9 H locs hP hD hS h7 h8 h9 => x_out hnt hlocks hS h7 h8 h9 (Nat.le_of_ble_eq_true rfl) (Nat.le_of_ble_eq_true rfl))
set_option maxRecDepth 100000 in
set_option maxHeartbeats 4000000 in
theorem c198_BLaw_seatAt (l : Launch) (z : Zz) (hl0 : l.stackTraces = false) (a0 a1 a2 a3 a4 a5 a6 a7 a8 a9 a10 a11 a12 a13 a14 a15 a16 a17 a18 a19 a20 a21 a22 a23 a24 a25 a26 a27 a28 a29 a30 a31 a32 a33 a34 a35 a36 a37 a38 a39 a40 a41 a42 a43 a44 a45 : Nat) (x0 : Int32) (h0 : x0 < 0) : HT l z ⟨"BallothallLaw", "seatAt", "(LBallothall;I[J)I"⟩ method_15_code 4 (some .int) [(0, 9, 12, 61)] [.ref a0, .int x0, .ref a1] [(a0, .inr (11, [.ref a2, .ref a3, .ref a4, .ref a5, .ref a6, .ref a7, .ref a8, .ref a9, .ref a10, .ref a11, .int 0, .int 0, .ref a12, .int 0])), (a5, .inr (7, [.int 0, .ref a13, .ref a14, .ref a15, .ref a16, .ref a17, .int 0, .ref a18, .ref a19, .ref a20, .int 0])), (a20, .inl (z.2 3, 21, .inr (.inr (.inr (.inr (va_up (va_up (va_up (va_up (va_up (va_up (va_up (va_up (va_up (va_up (va_up (va_up (va_up (va_up (va_up (va_up (va_up (va_up (va_up (va_up (va_up (fun _ => none) 0 (some a21)) 1 (some a22)) 2 (some a23)) 3 (some a24)) 4 (some a25)) 5 (some a26)) 6 (some a27)) 7 (some a28)) 8 (some a29)) 9 (some a30)) 10 (some a31)) 11 (some a32)) 12 (some a33)) 13 (some a34)) 14 (some a35)) 15 (some a36)) 16 (some a37)) 17 (some a38)) 18 (some a39)) 19 (some a40)) 20 (some a41))))))), (a21, .inr (6, [.int 0, .int 0, .int 0, .ref a42, .ref a43, .ref a44, .ref a45]))] 8 157 1 6 (fun u => some (.int 1)) (fun u => []) := by
  refine HT.of (own := "BallothallLaw") (by decide +kernel) (Nat.le_of_ble_eq_true rfl) rfl (fun p e s m below meth c A ls hx hb hml hr hts hown hlocks hin hA hG hZ hP hD hS hl htab => ?_)
  have hl : lv_has ls 4 [(0, .ref a0), (1, .int x0), (2, .ref a1)] := hl
  refine lv_aload_n hx hb d_L15_0 rfl (lv_at hl 2 rfl) ?_
  refine lv_iconst (v := 0) hx hb d_L15_1 (by decide +kernel) ?_
  refine lv_aload_n hx hb d_L15_2 rfl (lv_at hl 0 rfl) ?_
  refine lv_iload_n hx hb d_L15_3 rfl (lv_at hl 1 rfl) ?_
  refine xV (As := [.int x0]) (rest := [.int 0, .ref a1]) (wr := []) (c197_B_seatAt l z hl0 a0 a2 a3 a4 a5 a6 a7 a8 a9 a10 a11 a12 a13 a14 a15 a16 a17 a18 a19 a20 a21 a22 a23 a24 a25 a26 a27 a28 a29 a30 a31 a32 a33 a34 a35 a36 a37 a38 a39 a40 a41 a42 a43 a44 a45 x0 h0) hx hb hml hown hts w_1079 w_1076 w_1077 w_1078 w_1 md_4f41a0 ⟨Nat.le_of_ble_eq_true rfl, Nat.le_of_ble_eq_true rfl⟩ hG hZ hP hD hS hA 0 rfl rfl rfl [0, 1, 2, 3] [] rfl rfl rfl rfl rfl hl.1 rfl (Nat.le_of_ble_eq_true rfl) d_L15_4 ⟨Nat.le_of_ble_eq_true rfl, Nat.le_of_ble_eq_true rfl⟩ (fun q0 ce9 H locs hP hD hS h7 h8 h9 => ?_)
  have hP : va_P z.1 classes [] H := hP
  have hD : va_D A [] := hD
  refine vx_catch hown [] ⟨0, 9, 12, 61⟩ [] (htab.trans rfl) (fun _ h9 => absurd h9 List.not_mem_nil) rfl (by decide) (hts _ w_1075) (va_Nw.use rfl (hG.2.1 _ n_1085 rfl)) h7 h8 h9 ?_
  refine lv_astore_n (lv' := [(3, .ref q0), (0, .ref a0), (1, .int x0), (2, .ref a1)]) hx hb d_L15_12 rfl hl (by decide) rfl (fun ls hl => ?_)
  refine lv_iconst (v := 1) hx hb d_L15_13 (by decide +kernel) ?_
  refine W.widen (k := 1) (n := 6) (Nat.le_of_ble_eq_true rfl) (Nat.le_of_ble_eq_true rfl) ?_
  refine vx_ret ?_
  exact W.iret hx hb hr (fun t ht hW => qk hP hD hS [] rfl ((fun k => k), (fun _ _ => none)) rfl rfl rfl ht) hS.2.2 d_L15_14
set_option maxRecDepth 100000 in
set_option maxHeartbeats 4000000 in
theorem c199_BModel_seatAt (l : Launch) (z : Zz) (a0 a1 a2 a3 a4 a5 a6 a7 a8 a9 a10 a11 a12 a13 : Nat) (x0 : Int32) : CT l z ⟨"BallothallModel", "seatAt", "(I)I"⟩ prog_14_method_45_code 2 (some .int) [.ref a0, .int x0] [(a0, .inr (18, [.ref a1, .ref a2, .int 0, .ref a3, .int 0, .ref a4, .int 0, .null, .int 0, .null, .long 0, .int 0, .null])), (a1, .inr (17, [.int 0, .ref a5, .ref a6, .int 0, .ref a7, .ref a8, .ref a9, .null, .null, .int 0, .ref a10, .ref a11, .ref a12, .int 0, .ref a13, .int 1]))] 1 30 0 0 (fun u => some (.int 0)) (fun u => [(a0, .inr (18, [.ref a1, .ref a2, .int 0, .ref a3, .int 0, .ref a4, .int 1, .null, .int 0, .null, .long 0, .int 0, .null])), (a1, .inr (17, [.int 0, .ref a5, .ref a6, .int 0, .ref a7, .ref a8, .ref a9, .null, .null, .int 0, .ref a10, .ref a11, .ref a12, .int 0, .ref a13, .int 1]))]) := by
  refine CT.of (own := "BallothallModel") (by decide +kernel) (Nat.le_of_ble_eq_true rfl) rfl (fun p e s m below meth c A ls hx hb hml hr hts hown hlocks hin hA hG hZ hP hD hS hl => ?_)
  have hl : lv_has ls 2 [(0, .ref a0), (1, .int x0)] := hl
  refine lv_aload_n hx hb d_14_45_0 rfl (lv_at hl 0 rfl) ?_
  refine lv_aload_n hx hb d_14_45_1 rfl (lv_at hl 0 rfl) ?_
  refine va_get (D := z.1) (ci := 18) (v := .ref a1) (C := "BallothallModel") (T := TX18) (N := 13) hx hb hts iX18 hown hG.1 hP 0 rfl rfl 0 (by decide) (hts _ w_1645) (fun _ h9 => h9) rfl d_14_45_2 ?_
  refine va_getN (D := z.1) (ci := 17) (v := .null) (C := "BallothallModel$State") (T := TX17) (N := 16) hx hb hts iX17 hown hG.1 hP 1 rfl rfl 7 (by decide) (va_Nw.use rfl (hG.2.1 _ n_1594 rfl)) (fun _ h9 => h9) rfl d_14_45_5 ?_
  refine lv_ifnullN (tgt := 48) hx hb d_14_45_8 (by decide) ?_
  refine lv_iconst (v := 0) hx hb d_14_45_48 (by decide +kernel) ?_
  refine lv_iconst (v := 1) hx hb d_14_45_49 (by decide +kernel) ?_
  refine kV (As := [.int 0, .int 1]) (rest := []) (wr := [(a1, .inr (17, [.int 0, .ref a5, .ref a6, .int 0, .ref a7, .ref a8, .ref a9, .null, .null, .int 0, .ref a10, .ref a11, .ref a12, .int 0, .ref a13, .int 1]))]) (c31_BModel_ends l z a0 a1 a2 a3 a4) hx hb hml hown hts w_1696 w_1693 w_1695 w_s_f8f2b7 w_12 md_77b0f8 ⟨Nat.le_of_ble_eq_true rfl, Nat.le_of_ble_eq_true rfl⟩ hG hZ hP hD hS hA 0 rfl rfl rfl [0] [1] rfl rfl rfl rfl rfl hl.1 rfl (Nat.le_of_ble_eq_true rfl) d_14_45_50 ⟨Nat.le_of_ble_eq_true rfl, Nat.le_of_ble_eq_true rfl⟩ (fun u0 H locs hP hD hS => ?_)
  have hP : va_P z.1 classes [(a1, .inr (17, [.int 0, .ref a5, .ref a6, .int 0, .ref a7, .ref a8, .ref a9, .null, .null, .int 0, .ref a10, .ref a11, .ref a12, .int 0, .ref a13, .int 1])), (a0, .inr (18, [.ref a1, .ref a2, .int 0, .ref a3, .int 0, .ref a4, .int 1, .null, .int 0, .null, .long 0, .int 0, .null]))] H := hP
  have hD : va_D A [(a1, .inr (17, [.int 0, .ref a5, .ref a6, .int 0, .ref a7, .ref a8, .ref a9, .null, .null, .int 0, .ref a10, .ref a11, .ref a12, .int 0, .ref a13, .int 1])), (a0, .inr (18, [.ref a1, .ref a2, .int 0, .ref a3, .int 0, .ref a4, .int 1, .null, .int 0, .null, .long 0, .int 0, .null]))] := hD
  refine W.eq (g2 := F0 m 53 ls [.int 1]) rfl ?_
  refine lv_if_eq (tgt := 60) hx hb d_14_45_53 (by decide) (fun c9 => absurd c9 (by decide +kernel)) (fun _ => ?_)
  refine lv_iconst (v := 0) hx hb d_14_45_56 (by decide +kernel) ?_
  refine lv_goto (tgt := 72) hx hb d_14_45_57 (by decide) ?_
  refine W.widen (k := 0) (n := 0) (Nat.le_of_ble_eq_true rfl) (Nat.le_of_ble_eq_true rfl) ?_
  exact W.iret hx hb hr (fun t ht hW => qk hP hD hS [1, 0] rfl ((fun k => k), (fun _ _ => none)) rfl rfl rfl ht) hS.2.2 d_14_45_72
set_option maxRecDepth 100000 in
set_option maxHeartbeats 4000000 in
theorem c200_B_needPlace (l : Launch) (z : Zz) (hl0 : l.stackTraces = false) (x0 : Int32) (h0 : ¬ x0 < 0) : XT l z ⟨"Ballothall", "needPlace", "(II)V"⟩ prog_1_method_59_code 2 none [.int x0, .int 0] [] 6 98 1 6 "java/util/NoSuchElementException" := by
  refine XT.of (own := "Ballothall") (by decide +kernel) (Nat.le_of_ble_eq_true rfl) rfl (fun p e s m below meth c A ls hx hb hml hr hts hown hlocks hin hA hG hZ hP hD hS hl hnt => ?_)
  have hl : lv_has ls 2 [(0, .int x0), (1, .int 0)] := hl
  refine lv_iload_n hx hb d_1_59_0 rfl (lv_at hl 0 rfl) ?_
  refine lv_if_lt (tgt := 9) hx hb d_1_59_1 (by decide) (fun c9 => absurd c9 h0) (fun _ => ?_)
  refine lv_iload_n hx hb d_1_59_4 rfl (lv_at hl 0 rfl) ?_
  refine lv_iload_n hx hb d_1_59_5 rfl (lv_at hl 1 rfl) ?_
  refine lv_icmp_lt (tgt := 20) hx hb d_1_59_6 (by decide) (fun c9 => absurd c9 h0) (fun _ => ?_)
  exact x_newNW (text := "there is nothing in this place") hl0 hx hb hml hown hts hlocks hnt hG hZ hS hl.1 (by decide +kernel) w_1083 w_26 (by decide) d_ns_0 d_ns_1 d_ns_2 d_ns_5 xa_206_a xa_206_b d_1_59_9 d_1_59_12 d_1_59_13 d_1_59_16 d_1_59_19 ⟨Nat.le_of_ble_eq_true rfl, Nat.le_of_ble_eq_true rfl, Nat.le_of_ble_eq_true rfl, Nat.le_of_ble_eq_true rfl⟩ (Nat.le_of_ble_eq_true rfl) (Nat.le_of_ble_eq_true rfl) (Nat.le_of_ble_eq_true rfl)
set_option maxRecDepth 100000 in
set_option maxHeartbeats 4000000 in
theorem c201_B_seatAt (l : Launch) (z : Zz) (hl0 : l.stackTraces = false) (a0 a1 a2 a3 a4 a5 a6 a7 a8 a9 a10 a11 a12 a13 a14 a15 a16 a17 a18 a19 a20 a21 a22 a23 a24 a25 a26 a27 a28 a29 a30 a31 a32 a33 a34 a35 a36 a37 a38 a39 a40 a41 a42 a43 a44 : Nat) (x0 : Int32) (h0 : ¬ x0 < 0) : XT l z ⟨"Ballothall", "seatAt", "(I)I"⟩ prog_1_method_15_code 3 (some .int) [.ref a0, .int x0] [(a0, .inr (11, [.ref a1, .ref a2, .ref a3, .ref a4, .ref a5, .ref a6, .ref a7, .ref a8, .ref a9, .ref a10, .int 0, .int 0, .ref a11, .int 0])), (a4, .inr (7, [.int 0, .ref a12, .ref a13, .ref a14, .ref a15, .ref a16, .int 0, .ref a17, .ref a18, .ref a19, .int 0])), (a19, .inl (z.2 3, 21, .inr (.inr (.inr (.inr (va_up (va_up (va_up (va_up (va_up (va_up (va_up (va_up (va_up (va_up (va_up (va_up (va_up (va_up (va_up (va_up (va_up (va_up (va_up (va_up (va_up (fun _ => none) 0 (some a20)) 1 (some a21)) 2 (some a22)) 3 (some a23)) 4 (some a24)) 5 (some a25)) 6 (some a26)) 7 (some a27)) 8 (some a28)) 9 (some a29)) 10 (some a30)) 11 (some a31)) 12 (some a32)) 13 (some a33)) 14 (some a34)) 15 (some a35)) 16 (some a36)) 17 (some a37)) 18 (some a38)) 19 (some a39)) 20 (some a40))))))), (a20, .inr (6, [.int 0, .int 0, .int 0, .ref a41, .ref a42, .ref a43, .ref a44]))] 7 127 1 6 "java/util/NoSuchElementException" := by
  refine XT.of (own := "Ballothall") (by decide +kernel) (Nat.le_of_ble_eq_true rfl) rfl (fun p e s m below meth c A ls hx hb hml hr hts hown hlocks hin hA hG hZ hP hD hS hl hnt => ?_)
  have hl : lv_has ls 3 [(0, .ref a0), (1, .int x0)] := hl
  refine lv_aload_n hx hb d_1_15_0 rfl (lv_at hl 0 rfl) ?_
  refine va_get (D := z.1) (ci := 11) (v := .ref a4) (C := "Ballothall") (T := TX11) (N := 14) hx hb hts iX11 hown hG.1 hP 0 rfl rfl 3 (by decide) (hts _ w_409) (fun _ h9 => h9) rfl d_1_15_1 ?_
  refine kVN (As := []) (rest := []) (wr := [(a0, .inr (11, [.ref a1, .ref a2, .ref a3, .ref a4, .ref a5, .ref a6, .ref a7, .ref a8, .ref a9, .ref a10, .int 0, .int 0, .ref a11, .int 0])), (a20, .inr (6, [.int 0, .int 0, .int 0, .ref a41, .ref a42, .ref a43, .ref a44]))]) (c195_Lists_latest l z a4 a12 a13 a14 a15 a16 a17 a18 a19 a20 a21 a22 a23 a24 a25 a26 a27 a28 a29 a30 a31 a32 a33 a34 a35 a36 a37 a38 a39 a40) hx hb hml hown hts w_656 n_653 w_655 w_s_46c41a w_5 md_cb0049 ⟨Nat.le_of_ble_eq_true rfl, Nat.le_of_ble_eq_true rfl⟩ hG hZ hP hD hS hA 1 rfl rfl rfl [1, 2] [0, 3] rfl rfl rfl rfl rfl hl.1 rfl (Nat.le_of_ble_eq_true rfl) d_1_15_4 ⟨Nat.le_of_ble_eq_true rfl, Nat.le_of_ble_eq_true rfl⟩ (fun u0 H locs hP hD hS => ?_)
  have hP : va_P z.1 classes [(a0, .inr (11, [.ref a1, .ref a2, .ref a3, .ref a4, .ref a5, .ref a6, .ref a7, .ref a8, .ref a9, .ref a10, .int 0, .int 0, .ref a11, .int 0])), (a20, .inr (6, [.int 0, .int 0, .int 0, .ref a41, .ref a42, .ref a43, .ref a44])), (a4, .inr (7, [.int 0, .ref a12, .ref a13, .ref a14, .ref a15, .ref a16, .int 0, .ref a17, .ref a18, .ref a19, .int 0])), (a19, .inl (z.2 3, 21, .inr (.inr (.inr (.inr (va_up (va_up (va_up (va_up (va_up (va_up (va_up (va_up (va_up (va_up (va_up (va_up (va_up (va_up (va_up (va_up (va_up (va_up (va_up (va_up (va_up (fun _ => none) 0 (some a20)) 1 (some a21)) 2 (some a22)) 3 (some a23)) 4 (some a24)) 5 (some a25)) 6 (some a26)) 7 (some a27)) 8 (some a28)) 9 (some a29)) 10 (some a30)) 11 (some a31)) 12 (some a32)) 13 (some a33)) 14 (some a34)) 15 (some a35)) 16 (some a36)) 17 (some a37)) 18 (some a38)) 19 (some a39)) 20 (some a40)))))))] H := hP
  have hD : va_D A [(a0, .inr (11, [.ref a1, .ref a2, .ref a3, .ref a4, .ref a5, .ref a6, .ref a7, .ref a8, .ref a9, .ref a10, .int 0, .int 0, .ref a11, .int 0])), (a20, .inr (6, [.int 0, .int 0, .int 0, .ref a41, .ref a42, .ref a43, .ref a44])), (a4, .inr (7, [.int 0, .ref a12, .ref a13, .ref a14, .ref a15, .ref a16, .int 0, .ref a17, .ref a18, .ref a19, .int 0])), (a19, .inl (z.2 3, 21, .inr (.inr (.inr (.inr (va_up (va_up (va_up (va_up (va_up (va_up (va_up (va_up (va_up (va_up (va_up (va_up (va_up (va_up (va_up (va_up (va_up (va_up (va_up (va_up (va_up (fun _ => none) 0 (some a20)) 1 (some a21)) 2 (some a22)) 3 (some a23)) 4 (some a24)) 5 (some a25)) 6 (some a26)) 7 (some a27)) 8 (some a28)) 9 (some a29)) 10 (some a30)) 11 (some a31)) 12 (some a32)) 13 (some a33)) 14 (some a34)) 15 (some a35)) 16 (some a36)) 17 (some a37)) 18 (some a38)) 19 (some a39)) 20 (some a40)))))))] := hD
  refine W.eq (g2 := F0 m 7 ls [.ref a20]) rfl ?_
  refine lv_astore_n (lv' := [(2, .ref a20), (0, .ref a0), (1, .int x0)]) hx hb d_1_15_7 rfl hl (by decide) rfl (fun ls hl => ?_)
  refine lv_iload_n hx hb d_1_15_8 rfl (lv_at hl 2 rfl) ?_
  refine lv_aload_n hx hb d_1_15_9 rfl (lv_at hl 0 rfl) ?_
  refine va_getN (D := z.1) (ci := 6) (v := .int 0) (C := "Ballothall$KeptSeats") (T := TX6) (N := 7) hx hb hts iX6 hown hG.1 hP 1 rfl rfl 1 (by decide) (va_Nw.use rfl (hG.2.1 _ n_222 rfl)) (fun _ h9 => h9) rfl d_1_15_10 ?_
  refine lv_if_eq (tgt := 20) hx hb d_1_15_13 (by decide) (fun _ => ?_) (fun c9 => absurd (by decide +kernel) c9)
  refine lv_aload_n hx hb d_1_15_20 rfl (lv_at hl 0 rfl) ?_
  refine va_getN (D := z.1) (ci := 6) (v := .int 0) (C := "Ballothall$KeptSeats") (T := TX6) (N := 7) hx hb hts iX6 hown hG.1 hP 1 rfl rfl 0 (by decide) (va_Nw.use rfl (hG.2.1 _ n_220 rfl)) (fun _ h9 => h9) rfl d_1_15_21 ?_
  exact xS (As := [.int x0, .int 0]) (rest := []) (wr := [(a0, .inr (11, [.ref a1, .ref a2, .ref a3, .ref a4, .ref a5, .ref a6, .ref a7, .ref a8, .ref a9, .ref a10, .int 0, .int 0, .ref a11, .int 0])), (a20, .inr (6, [.int 0, .int 0, .int 0, .ref a41, .ref a42, .ref a43, .ref a44])), (a4, .inr (7, [.int 0, .ref a12, .ref a13, .ref a14, .ref a15, .ref a16, .int 0, .ref a17, .ref a18, .ref a19, .int 0])), (a19, .inl (z.2 3, 21, .inr (.inr (.inr (.inr (va_up (va_up (va_up (va_up (va_up (va_up (va_up (va_up (va_up (va_up (va_up (va_up (va_up (va_up (va_up (va_up (va_up (va_up (va_up (va_up (va_up (fun _ => none) 0 (some a20)) 1 (some a21)) 2 (some a22)) 3 (some a23)) 4 (some a24)) 5 (some a25)) 6 (some a26)) 7 (some a27)) 8 (some a28)) 9 (some a29)) 10 (some a30)) 11 (some a31)) 12 (some a32)) 13 (some a33)) 14 (some a34)) 15 (some a35)) 16 (some a36)) 17 (some a37)) 18 (some a38)) 19 (some a39)) 20 (some a40)))))))]) (c200_B_needPlace l z hl0 x0 h0) hx hb hml hown hts w_1082 w_1080 w_1081 w_1 md_541664 ⟨Nat.le_of_ble_eq_true rfl, Nat.le_of_ble_eq_true rfl⟩ hG hZ hP hD hS hA [] [0, 1, 2, 3] rfl rfl rfl rfl rfl hl.1 rfl (Nat.le_of_ble_eq_true rfl) d_1_15_24 ⟨Nat.le_of_ble_eq_true rfl, Nat.le_of_ble_eq_true rfl⟩ (fun q9 ce9 H locs hP hD hS h7 h8 h9 => x_out hnt hlocks hS h7 h8 h9 (Nat.le_of_ble_eq_true rfl) (Nat.le_of_ble_eq_true rfl))
set_option maxRecDepth 100000 in
set_option maxHeartbeats 4000000 in
theorem c202_BLaw_seatAt (l : Launch) (z : Zz) (hl0 : l.stackTraces = false) (a0 a1 a2 a3 a4 a5 a6 a7 a8 a9 a10 a11 a12 a13 a14 a15 a16 a17 a18 a19 a20 a21 a22 a23 a24 a25 a26 a27 a28 a29 a30 a31 a32 a33 a34 a35 a36 a37 a38 a39 a40 a41 a42 a43 a44 a45 : Nat) (x0 : Int32) (h0 : ¬ x0 < 0) : HT l z ⟨"BallothallLaw", "seatAt", "(LBallothall;I[J)I"⟩ method_15_code 4 (some .int) [(0, 9, 12, 61)] [.ref a0, .int x0, .ref a1] [(a0, .inr (11, [.ref a2, .ref a3, .ref a4, .ref a5, .ref a6, .ref a7, .ref a8, .ref a9, .ref a10, .ref a11, .int 0, .int 0, .ref a12, .int 0])), (a5, .inr (7, [.int 0, .ref a13, .ref a14, .ref a15, .ref a16, .ref a17, .int 0, .ref a18, .ref a19, .ref a20, .int 0])), (a20, .inl (z.2 3, 21, .inr (.inr (.inr (.inr (va_up (va_up (va_up (va_up (va_up (va_up (va_up (va_up (va_up (va_up (va_up (va_up (va_up (va_up (va_up (va_up (va_up (va_up (va_up (va_up (va_up (fun _ => none) 0 (some a21)) 1 (some a22)) 2 (some a23)) 3 (some a24)) 4 (some a25)) 5 (some a26)) 6 (some a27)) 7 (some a28)) 8 (some a29)) 9 (some a30)) 10 (some a31)) 11 (some a32)) 12 (some a33)) 13 (some a34)) 14 (some a35)) 15 (some a36)) 16 (some a37)) 17 (some a38)) 18 (some a39)) 19 (some a40)) 20 (some a41))))))), (a21, .inr (6, [.int 0, .int 0, .int 0, .ref a42, .ref a43, .ref a44, .ref a45]))] 8 157 1 6 (fun u => some (.int 1)) (fun u => []) := by
  refine HT.of (own := "BallothallLaw") (by decide +kernel) (Nat.le_of_ble_eq_true rfl) rfl (fun p e s m below meth c A ls hx hb hml hr hts hown hlocks hin hA hG hZ hP hD hS hl htab => ?_)
  have hl : lv_has ls 4 [(0, .ref a0), (1, .int x0), (2, .ref a1)] := hl
  refine lv_aload_n hx hb d_L15_0 rfl (lv_at hl 2 rfl) ?_
  refine lv_iconst (v := 0) hx hb d_L15_1 (by decide +kernel) ?_
  refine lv_aload_n hx hb d_L15_2 rfl (lv_at hl 0 rfl) ?_
  refine lv_iload_n hx hb d_L15_3 rfl (lv_at hl 1 rfl) ?_
  refine xV (As := [.int x0]) (rest := [.int 0, .ref a1]) (wr := []) (c201_B_seatAt l z hl0 a0 a2 a3 a4 a5 a6 a7 a8 a9 a10 a11 a12 a13 a14 a15 a16 a17 a18 a19 a20 a21 a22 a23 a24 a25 a26 a27 a28 a29 a30 a31 a32 a33 a34 a35 a36 a37 a38 a39 a40 a41 a42 a43 a44 a45 x0 h0) hx hb hml hown hts w_1079 w_1076 w_1077 w_1078 w_1 md_4f41a0 ⟨Nat.le_of_ble_eq_true rfl, Nat.le_of_ble_eq_true rfl⟩ hG hZ hP hD hS hA 0 rfl rfl rfl [0, 1, 2, 3] [] rfl rfl rfl rfl rfl hl.1 rfl (Nat.le_of_ble_eq_true rfl) d_L15_4 ⟨Nat.le_of_ble_eq_true rfl, Nat.le_of_ble_eq_true rfl⟩ (fun q0 ce9 H locs hP hD hS h7 h8 h9 => ?_)
  have hP : va_P z.1 classes [] H := hP
  have hD : va_D A [] := hD
  refine vx_catch hown [] ⟨0, 9, 12, 61⟩ [] (htab.trans rfl) (fun _ h9 => absurd h9 List.not_mem_nil) rfl (by decide) (hts _ w_1075) (va_Nw.use rfl (hG.2.1 _ n_1085 rfl)) h7 h8 h9 ?_
  refine lv_astore_n (lv' := [(3, .ref q0), (0, .ref a0), (1, .int x0), (2, .ref a1)]) hx hb d_L15_12 rfl hl (by decide) rfl (fun ls hl => ?_)
  refine lv_iconst (v := 1) hx hb d_L15_13 (by decide +kernel) ?_
  refine W.widen (k := 1) (n := 6) (Nat.le_of_ble_eq_true rfl) (Nat.le_of_ble_eq_true rfl) ?_
  refine vx_ret ?_
  exact W.iret hx hb hr (fun t ht hW => qk hP hD hS [] rfl ((fun k => k), (fun _ _ => none)) rfl rfl rfl ht) hS.2.2 d_L15_14
set_option maxRecDepth 100000 in
set_option maxHeartbeats 4000000 in
theorem c203_B_lossAt (l : Launch) (z : Zz) (hl0 : l.stackTraces = false) (a0 : Nat) (x0 : Int32) (h0 : x0 < 1) : XT l z ⟨"Ballothall", "lossAt", "(I)I"⟩ prog_1_method_16_code 2 (some .int) [.ref a0, .int x0] [] 7 128 1 6 "java/lang/IllegalArgumentException" := by
  refine XT.of (own := "Ballothall") (by decide +kernel) (Nat.le_of_ble_eq_true rfl) rfl (fun p e s m below meth c A ls hx hb hml hr hts hown hlocks hin hA hG hZ hP hD hS hl hnt => ?_)
  have hl : lv_has ls 2 [(0, .ref a0), (1, .int x0)] := hl
  refine lv_iload_n hx hb d_1_16_0 rfl (lv_at hl 1 rfl) ?_
  refine lv_iconst (v := 1) hx hb d_1_16_1 (by decide +kernel) ?_
  refine lv_bipush (v := 60) hx hb d_1_16_2 (by decide +kernel) ?_
  exact xS (As := [.int x0, .int 1, .int 60]) (rest := []) (wr := []) (c151_B_needRange l z hl0 x0 h0) hx hb hml hown hts w_876 w_874 w_875 w_1 md_519134 ⟨Nat.le_of_ble_eq_true rfl, Nat.le_of_ble_eq_true rfl⟩ hG hZ hP hD hS hA [] [] rfl rfl rfl rfl rfl hl.1 rfl (Nat.le_of_ble_eq_true rfl) d_1_16_4 ⟨Nat.le_of_ble_eq_true rfl, Nat.le_of_ble_eq_true rfl⟩ (fun q9 ce9 H locs hP hD hS h7 h8 h9 => x_out hnt hlocks hS h7 h8 h9 (Nat.le_of_ble_eq_true rfl) (Nat.le_of_ble_eq_true rfl))
set_option maxRecDepth 100000 in
set_option maxHeartbeats 4000000 in
theorem c204_BLaw_lossAt (l : Launch) (z : Zz) (hl0 : l.stackTraces = false) (a0 a1 a2 a3 a4 a5 a6 a7 a8 a9 a10 a11 a12 : Nat) (x0 : Int32) (h0 : x0 < 1) : HT l z ⟨"BallothallLaw", "lossAt", "(LBallothall;I[J)I"⟩ method_16_code 4 (some .int) [(0, 9, 12, 21)] [.ref a0, .int x0, .ref a1] [(a0, .inr (11, [.ref a2, .ref a3, .ref a4, .ref a5, .ref a6, .ref a7, .ref a8, .ref a9, .ref a10, .ref a11, .int 0, .int 0, .ref a12, .int 0]))] 8 157 1 6 (fun u => some (.int 1)) (fun u => [(a0, .inr (11, [.ref a2, .ref a3, .ref a4, .ref a5, .ref a6, .ref a7, .ref a8, .ref a9, .ref a10, .ref a11, .int 0, .int 0, .ref a12, .int 0]))]) := by
  refine HT.of (own := "BallothallLaw") (by decide +kernel) (Nat.le_of_ble_eq_true rfl) rfl (fun p e s m below meth c A ls hx hb hml hr hts hown hlocks hin hA hG hZ hP hD hS hl htab => ?_)
  have hl : lv_has ls 4 [(0, .ref a0), (1, .int x0), (2, .ref a1)] := hl
  refine lv_aload_n hx hb d_L16_0 rfl (lv_at hl 2 rfl) ?_
  refine lv_iconst (v := 0) hx hb d_L16_1 (by decide +kernel) ?_
  refine lv_aload_n hx hb d_L16_2 rfl (lv_at hl 0 rfl) ?_
  refine lv_iload_n hx hb d_L16_3 rfl (lv_at hl 1 rfl) ?_
  refine xV (As := [.int x0]) (rest := [.int 0, .ref a1]) (wr := [(a0, .inr (11, [.ref a2, .ref a3, .ref a4, .ref a5, .ref a6, .ref a7, .ref a8, .ref a9, .ref a10, .ref a11, .int 0, .int 0, .ref a12, .int 0]))]) (c203_B_lossAt l z hl0 a0 x0 h0) hx hb hml hown hts w_1105 w_1102 w_1103 w_1104 w_1 md_aede32 ⟨Nat.le_of_ble_eq_true rfl, Nat.le_of_ble_eq_true rfl⟩ hG hZ hP hD hS hA 0 rfl rfl rfl [] [0] rfl rfl rfl rfl rfl hl.1 rfl (Nat.le_of_ble_eq_true rfl) d_L16_4 ⟨Nat.le_of_ble_eq_true rfl, Nat.le_of_ble_eq_true rfl⟩ (fun q0 ce9 H locs hP hD hS h7 h8 h9 => ?_)
  have hP : va_P z.1 classes [(a0, .inr (11, [.ref a2, .ref a3, .ref a4, .ref a5, .ref a6, .ref a7, .ref a8, .ref a9, .ref a10, .ref a11, .int 0, .int 0, .ref a12, .int 0]))] H := hP
  have hD : va_D A [(a0, .inr (11, [.ref a2, .ref a3, .ref a4, .ref a5, .ref a6, .ref a7, .ref a8, .ref a9, .ref a10, .ref a11, .int 0, .int 0, .ref a12, .int 0]))] := hD
  refine vx_catch hown [] ⟨0, 9, 12, 21⟩ [] (htab.trans rfl) (fun _ h9 => absurd h9 List.not_mem_nil) rfl (by decide) (hts _ w_850) (va_Nw.use rfl (hG.2.1 _ n_879 rfl)) h7 h8 h9 ?_
  refine lv_astore_n (lv' := [(3, .ref q0), (0, .ref a0), (1, .int x0), (2, .ref a1)]) hx hb d_L16_12 rfl hl (by decide) rfl (fun ls hl => ?_)
  refine lv_iconst (v := 1) hx hb d_L16_13 (by decide +kernel) ?_
  refine W.widen (k := 1) (n := 6) (Nat.le_of_ble_eq_true rfl) (Nat.le_of_ble_eq_true rfl) ?_
  refine vx_ret ?_
  exact W.iret hx hb hr (fun t ht hW => qk hP hD hS [0] rfl ((fun k => k), (fun _ _ => none)) rfl rfl rfl ht) hS.2.2 d_L16_14
set_option maxRecDepth 100000 in
set_option maxHeartbeats 4000000 in
theorem c205_BModel_lossAt (l : Launch) (z : Zz) (a0 a1 a2 a3 a4 : Nat) (x0 : Int32) (h0 : x0 < 1) : CT l z ⟨"BallothallModel", "lossAt", "(I)I"⟩ prog_14_method_46_code 6 (some .int) [.ref a0, .int x0] [(a0, .inr (18, [.ref a1, .ref a2, .int 0, .ref a3, .int 0, .ref a4, .int 0, .null, .int 0, .null, .long 0, .int 0, .null]))] 1 30 0 0 (fun u => some (.int 0)) (fun u => [(a0, .inr (18, [.ref a1, .ref a2, .int 0, .ref a3, .int 0, .ref a4, .int 1, .null, .int 0, .null, .long 0, .int 0, .null]))]) := by
  refine CT.of (own := "BallothallModel") (by decide +kernel) (Nat.le_of_ble_eq_true rfl) rfl (fun p e s m below meth c A ls hx hb hml hr hts hown hlocks hin hA hG hZ hP hD hS hl => ?_)
  have hl : lv_has ls 6 [(0, .ref a0), (1, .int x0)] := hl
  refine lv_aload_n hx hb d_14_46_0 rfl (lv_at hl 0 rfl) ?_
  refine lv_iload_n hx hb d_14_46_1 rfl (lv_at hl 1 rfl) ?_
  refine lv_iconst (v := 1) hx hb d_14_46_2 (by decide +kernel) ?_
  refine lv_bipush (v := 60) hx hb d_14_46_3 (by decide +kernel) ?_
  refine kS (As := [.int x0, .int 1, .int 60]) (rest := [.ref a0]) (wr := [(a0, .inr (18, [.ref a1, .ref a2, .int 0, .ref a3, .int 0, .ref a4, .int 0, .null, .int 0, .null, .long 0, .int 0, .null]))]) (c155_BModel_isIn l z x0 h0) hx hb hml hown hts w_1718 w_1716 w_1717 w_12 md_bca45c ⟨Nat.le_of_ble_eq_true rfl, Nat.le_of_ble_eq_true rfl⟩ hG hZ hP hD hS hA [] [0] rfl rfl rfl rfl rfl hl.1 rfl (Nat.le_of_ble_eq_true rfl) d_14_46_5 ⟨Nat.le_of_ble_eq_true rfl, Nat.le_of_ble_eq_true rfl⟩ (fun u0 H locs hP hD hS => ?_)
  have hP : va_P z.1 classes [(a0, .inr (18, [.ref a1, .ref a2, .int 0, .ref a3, .int 0, .ref a4, .int 0, .null, .int 0, .null, .long 0, .int 0, .null]))] H := hP
  have hD : va_D A [(a0, .inr (18, [.ref a1, .ref a2, .int 0, .ref a3, .int 0, .ref a4, .int 0, .null, .int 0, .null, .long 0, .int 0, .null]))] := hD
  refine W.eq (g2 := F0 m 8 ls [.int 0, .ref a0]) rfl ?_
  refine lv_iconst (v := 1) hx hb d_14_46_8 (by decide +kernel) ?_
  refine kV (As := [.int 0, .int 1]) (rest := []) (wr := []) (c31_BModel_ends l z a0 a1 a2 a3 a4) hx hb hml hown hts w_1696 w_1693 w_1695 w_s_f8f2b7 w_12 md_77b0f8 ⟨Nat.le_of_ble_eq_true rfl, Nat.le_of_ble_eq_true rfl⟩ hG hZ hP hD hS hA 0 rfl rfl rfl [0] [] rfl rfl rfl rfl rfl hl.1 rfl (Nat.le_of_ble_eq_true rfl) d_14_46_9 ⟨Nat.le_of_ble_eq_true rfl, Nat.le_of_ble_eq_true rfl⟩ (fun u1 H locs hP hD hS => ?_)
  have hP : va_P z.1 classes [(a0, .inr (18, [.ref a1, .ref a2, .int 0, .ref a3, .int 0, .ref a4, .int 1, .null, .int 0, .null, .long 0, .int 0, .null]))] H := hP
  have hD : va_D A [(a0, .inr (18, [.ref a1, .ref a2, .int 0, .ref a3, .int 0, .ref a4, .int 1, .null, .int 0, .null, .long 0, .int 0, .null]))] := hD
  refine W.eq (g2 := F0 m 12 ls [.int 1]) rfl ?_
  refine lv_if_eq (tgt := 17) hx hb d_14_46_12 (by decide) (fun c9 => absurd c9 (by decide +kernel)) (fun _ => ?_)
  refine lv_iconst (v := 0) hx hb d_14_46_15 (by decide +kernel) ?_
  refine W.widen (k := 0) (n := 0) (Nat.le_of_ble_eq_true rfl) (Nat.le_of_ble_eq_true rfl) ?_
  exact W.iret hx hb hr (fun t ht hW => qk hP hD hS [0] rfl ((fun k => k), (fun _ _ => none)) rfl rfl rfl ht) hS.2.2 d_14_46_16
set_option maxRecDepth 100000 in
set_option maxHeartbeats 4000000 in
theorem c206_B_lossAt (l : Launch) (z : Zz) (hl0 : l.stackTraces = false) (a0 : Nat) (x0 : Int32) (h0 : ¬ x0 < 1) (h1 : 60 < x0) : XT l z ⟨"Ballothall", "lossAt", "(I)I"⟩ prog_1_method_16_code 2 (some .int) [.ref a0, .int x0] [] 7 128 1 6 "java/lang/IllegalArgumentException" := by
  refine XT.of (own := "Ballothall") (by decide +kernel) (Nat.le_of_ble_eq_true rfl) rfl (fun p e s m below meth c A ls hx hb hml hr hts hown hlocks hin hA hG hZ hP hD hS hl hnt => ?_)
  have hl : lv_has ls 2 [(0, .ref a0), (1, .int x0)] := hl
  refine lv_iload_n hx hb d_1_16_0 rfl (lv_at hl 1 rfl) ?_
  refine lv_iconst (v := 1) hx hb d_1_16_1 (by decide +kernel) ?_
  refine lv_bipush (v := 60) hx hb d_1_16_2 (by decide +kernel) ?_
  exact xS (As := [.int x0, .int 1, .int 60]) (rest := []) (wr := []) (c157_B_needRange l z hl0 x0 h0 h1) hx hb hml hown hts w_876 w_874 w_875 w_1 md_519134 ⟨Nat.le_of_ble_eq_true rfl, Nat.le_of_ble_eq_true rfl⟩ hG hZ hP hD hS hA [] [] rfl rfl rfl rfl rfl hl.1 rfl (Nat.le_of_ble_eq_true rfl) d_1_16_4 ⟨Nat.le_of_ble_eq_true rfl, Nat.le_of_ble_eq_true rfl⟩ (fun q9 ce9 H locs hP hD hS h7 h8 h9 => x_out hnt hlocks hS h7 h8 h9 (Nat.le_of_ble_eq_true rfl) (Nat.le_of_ble_eq_true rfl))
set_option maxRecDepth 100000 in
set_option maxHeartbeats 4000000 in
theorem c207_BLaw_lossAt (l : Launch) (z : Zz) (hl0 : l.stackTraces = false) (a0 a1 a2 a3 a4 a5 a6 a7 a8 a9 a10 a11 a12 : Nat) (x0 : Int32) (h0 : ¬ x0 < 1) (h1 : 60 < x0) : HT l z ⟨"BallothallLaw", "lossAt", "(LBallothall;I[J)I"⟩ method_16_code 4 (some .int) [(0, 9, 12, 21)] [.ref a0, .int x0, .ref a1] [(a0, .inr (11, [.ref a2, .ref a3, .ref a4, .ref a5, .ref a6, .ref a7, .ref a8, .ref a9, .ref a10, .ref a11, .int 0, .int 0, .ref a12, .int 0]))] 8 157 1 6 (fun u => some (.int 1)) (fun u => [(a0, .inr (11, [.ref a2, .ref a3, .ref a4, .ref a5, .ref a6, .ref a7, .ref a8, .ref a9, .ref a10, .ref a11, .int 0, .int 0, .ref a12, .int 0]))]) := by
  refine HT.of (own := "BallothallLaw") (by decide +kernel) (Nat.le_of_ble_eq_true rfl) rfl (fun p e s m below meth c A ls hx hb hml hr hts hown hlocks hin hA hG hZ hP hD hS hl htab => ?_)
  have hl : lv_has ls 4 [(0, .ref a0), (1, .int x0), (2, .ref a1)] := hl
  refine lv_aload_n hx hb d_L16_0 rfl (lv_at hl 2 rfl) ?_
  refine lv_iconst (v := 0) hx hb d_L16_1 (by decide +kernel) ?_
  refine lv_aload_n hx hb d_L16_2 rfl (lv_at hl 0 rfl) ?_
  refine lv_iload_n hx hb d_L16_3 rfl (lv_at hl 1 rfl) ?_
  refine xV (As := [.int x0]) (rest := [.int 0, .ref a1]) (wr := [(a0, .inr (11, [.ref a2, .ref a3, .ref a4, .ref a5, .ref a6, .ref a7, .ref a8, .ref a9, .ref a10, .ref a11, .int 0, .int 0, .ref a12, .int 0]))]) (c206_B_lossAt l z hl0 a0 x0 h0 h1) hx hb hml hown hts w_1105 w_1102 w_1103 w_1104 w_1 md_aede32 ⟨Nat.le_of_ble_eq_true rfl, Nat.le_of_ble_eq_true rfl⟩ hG hZ hP hD hS hA 0 rfl rfl rfl [] [0] rfl rfl rfl rfl rfl hl.1 rfl (Nat.le_of_ble_eq_true rfl) d_L16_4 ⟨Nat.le_of_ble_eq_true rfl, Nat.le_of_ble_eq_true rfl⟩ (fun q0 ce9 H locs hP hD hS h7 h8 h9 => ?_)
  have hP : va_P z.1 classes [(a0, .inr (11, [.ref a2, .ref a3, .ref a4, .ref a5, .ref a6, .ref a7, .ref a8, .ref a9, .ref a10, .ref a11, .int 0, .int 0, .ref a12, .int 0]))] H := hP
  have hD : va_D A [(a0, .inr (11, [.ref a2, .ref a3, .ref a4, .ref a5, .ref a6, .ref a7, .ref a8, .ref a9, .ref a10, .ref a11, .int 0, .int 0, .ref a12, .int 0]))] := hD
  refine vx_catch hown [] ⟨0, 9, 12, 21⟩ [] (htab.trans rfl) (fun _ h9 => absurd h9 List.not_mem_nil) rfl (by decide) (hts _ w_850) (va_Nw.use rfl (hG.2.1 _ n_879 rfl)) h7 h8 h9 ?_
  refine lv_astore_n (lv' := [(3, .ref q0), (0, .ref a0), (1, .int x0), (2, .ref a1)]) hx hb d_L16_12 rfl hl (by decide) rfl (fun ls hl => ?_)
  refine lv_iconst (v := 1) hx hb d_L16_13 (by decide +kernel) ?_
  refine W.widen (k := 1) (n := 6) (Nat.le_of_ble_eq_true rfl) (Nat.le_of_ble_eq_true rfl) ?_
  refine vx_ret ?_
  exact W.iret hx hb hr (fun t ht hW => qk hP hD hS [0] rfl ((fun k => k), (fun _ _ => none)) rfl rfl rfl ht) hS.2.2 d_L16_14
set_option maxRecDepth 100000 in
set_option maxHeartbeats 4000000 in
theorem c208_BModel_lossAt (l : Launch) (z : Zz) (a0 a1 a2 a3 a4 : Nat) (x0 : Int32) (h0 : ¬ x0 < 1) (h1 : 60 < x0) : CT l z ⟨"BallothallModel", "lossAt", "(I)I"⟩ prog_14_method_46_code 6 (some .int) [.ref a0, .int x0] [(a0, .inr (18, [.ref a1, .ref a2, .int 0, .ref a3, .int 0, .ref a4, .int 0, .null, .int 0, .null, .long 0, .int 0, .null]))] 1 30 0 0 (fun u => some (.int 0)) (fun u => [(a0, .inr (18, [.ref a1, .ref a2, .int 0, .ref a3, .int 0, .ref a4, .int 1, .null, .int 0, .null, .long 0, .int 0, .null]))]) := by
  refine CT.of (own := "BallothallModel") (by decide +kernel) (Nat.le_of_ble_eq_true rfl) rfl (fun p e s m below meth c A ls hx hb hml hr hts hown hlocks hin hA hG hZ hP hD hS hl => ?_)
  have hl : lv_has ls 6 [(0, .ref a0), (1, .int x0)] := hl
  refine lv_aload_n hx hb d_14_46_0 rfl (lv_at hl 0 rfl) ?_
  refine lv_iload_n hx hb d_14_46_1 rfl (lv_at hl 1 rfl) ?_
  refine lv_iconst (v := 1) hx hb d_14_46_2 (by decide +kernel) ?_
  refine lv_bipush (v := 60) hx hb d_14_46_3 (by decide +kernel) ?_
  refine kS (As := [.int x0, .int 1, .int 60]) (rest := [.ref a0]) (wr := [(a0, .inr (18, [.ref a1, .ref a2, .int 0, .ref a3, .int 0, .ref a4, .int 0, .null, .int 0, .null, .long 0, .int 0, .null]))]) (c160_BModel_isIn l z x0 h0 h1) hx hb hml hown hts w_1718 w_1716 w_1717 w_12 md_bca45c ⟨Nat.le_of_ble_eq_true rfl, Nat.le_of_ble_eq_true rfl⟩ hG hZ hP hD hS hA [] [0] rfl rfl rfl rfl rfl hl.1 rfl (Nat.le_of_ble_eq_true rfl) d_14_46_5 ⟨Nat.le_of_ble_eq_true rfl, Nat.le_of_ble_eq_true rfl⟩ (fun u0 H locs hP hD hS => ?_)
  have hP : va_P z.1 classes [(a0, .inr (18, [.ref a1, .ref a2, .int 0, .ref a3, .int 0, .ref a4, .int 0, .null, .int 0, .null, .long 0, .int 0, .null]))] H := hP
  have hD : va_D A [(a0, .inr (18, [.ref a1, .ref a2, .int 0, .ref a3, .int 0, .ref a4, .int 0, .null, .int 0, .null, .long 0, .int 0, .null]))] := hD
  refine W.eq (g2 := F0 m 8 ls [.int 0, .ref a0]) rfl ?_
  refine lv_iconst (v := 1) hx hb d_14_46_8 (by decide +kernel) ?_
  refine kV (As := [.int 0, .int 1]) (rest := []) (wr := []) (c31_BModel_ends l z a0 a1 a2 a3 a4) hx hb hml hown hts w_1696 w_1693 w_1695 w_s_f8f2b7 w_12 md_77b0f8 ⟨Nat.le_of_ble_eq_true rfl, Nat.le_of_ble_eq_true rfl⟩ hG hZ hP hD hS hA 0 rfl rfl rfl [0] [] rfl rfl rfl rfl rfl hl.1 rfl (Nat.le_of_ble_eq_true rfl) d_14_46_9 ⟨Nat.le_of_ble_eq_true rfl, Nat.le_of_ble_eq_true rfl⟩ (fun u1 H locs hP hD hS => ?_)
  have hP : va_P z.1 classes [(a0, .inr (18, [.ref a1, .ref a2, .int 0, .ref a3, .int 0, .ref a4, .int 1, .null, .int 0, .null, .long 0, .int 0, .null]))] H := hP
  have hD : va_D A [(a0, .inr (18, [.ref a1, .ref a2, .int 0, .ref a3, .int 0, .ref a4, .int 1, .null, .int 0, .null, .long 0, .int 0, .null]))] := hD
  refine W.eq (g2 := F0 m 12 ls [.int 1]) rfl ?_
  refine lv_if_eq (tgt := 17) hx hb d_14_46_12 (by decide) (fun c9 => absurd c9 (by decide +kernel)) (fun _ => ?_)
  refine lv_iconst (v := 0) hx hb d_14_46_15 (by decide +kernel) ?_
  refine W.widen (k := 0) (n := 0) (Nat.le_of_ble_eq_true rfl) (Nat.le_of_ble_eq_true rfl) ?_
  exact W.iret hx hb hr (fun t ht hW => qk hP hD hS [0] rfl ((fun k => k), (fun _ _ => none)) rfl rfl rfl ht) hS.2.2 d_14_46_16
set_option maxRecDepth 100000 in
set_option maxHeartbeats 4000000 in
theorem c209_Division_distribute (l : Launch) (z : Zz) (a0 a1 a2 a3 a4 a5 a6 : Nat) : CT l z ⟨"Ballothall$Division", "distribute", "(II)V"⟩ prog_6_method_5_code 6 none [.ref a0, .int 5, .int 1] [(a0, .inr (4, [.int 0, .int 0, .ref a1, .ref a2, .ref a3, .ref a4, .ref a5, .ref a6]))] 0 0 0 0 (fun u => none) (fun u => [(a0, .inr (4, [.int 0, .int 0, .ref a1, .ref a2, .ref a3, .ref a4, .ref a5, .ref a6]))]) := by
  refine CT.of (own := "Ballothall$Division") (by decide +kernel) (Nat.le_of_ble_eq_true rfl) rfl (fun p e s m below meth c A ls hx hb hml hr hts hown hlocks hin hA hG hZ hP hD hS hl => ?_)
  have hl : lv_has ls 6 [(0, .ref a0), (1, .int 5), (2, .int 1)] := hl
  refine lv_aload_n hx hb d_6_5_0 rfl (lv_at hl 0 rfl) ?_
  refine va_get (D := z.1) (ci := 4) (v := .int 0) (C := "Ballothall$Division") (T := TX4) (N := 8) hx hb hts iX4 hown hG.1 hP 0 rfl rfl 0 (by decide) (hts _ w_182) (fun _ h9 => h9) rfl d_6_5_1 ?_
  refine lv_if_ne (tgt := 8) hx hb d_6_5_4 (by decide) (fun c9 => absurd (by decide +kernel) c9) (fun _ => ?_)
  refine W.widen (k := 0) (n := 0) (Nat.le_of_ble_eq_true rfl) (Nat.le_of_ble_eq_true rfl) ?_
  exact W.vret hx hb hr (fun t ht hW => qk hP hD hS [0] rfl ((fun k => k), (fun _ _ => none)) rfl rfl rfl ht) hS.2.2 d_6_5_7
set_option maxRecDepth 100000 in
set_option maxHeartbeats 4000000 in
theorem c210_Lists_spread (l : Launch) (z : Zz) (a0 a1 a2 a3 a4 a5 a6 a7 a8 a9 a10 a11 a12 a13 a14 : Nat) : CT l z ⟨"Ballothall$Lists", "spread", "(III)I"⟩ prog_9_method_5_code 7 (some .int) [.ref a0, .int 5, .int 1, .int 0] [(a0, .inr (7, [.int 0, .ref a1, .ref a2, .ref a3, .ref a4, .ref a5, .int 0, .ref a6, .ref a7, .ref a8, .int 0])), (a4, .inr (4, [.int 0, .int 0, .ref a9, .ref a10, .ref a11, .ref a12, .ref a13, .ref a14])), (a6, .inl (z.2 0, 8, .inl (fun _ => 0)))] 2 51 0 0 (fun u => some (.int 0)) (fun u => [(a0, .inr (7, [.int 0, .ref a1, .ref a2, .ref a3, .ref a4, .ref a5, .int 0, .ref a6, .ref a7, .ref a8, .int 0])), (a4, .inr (4, [.int 0, .int 0, .ref a9, .ref a10, .ref a11, .ref a12, .ref a13, .ref a14])), (a6, .inl (z.2 0, 8, .inl (fun _ => 0)))]) := by
  refine CT.of (own := "Ballothall$Lists") (by decide +kernel) (Nat.le_of_ble_eq_true rfl) rfl (fun p e s m below meth c A ls hx hb hml hr hts hown hlocks hin hA hG hZ hP hD hS hl => ?_)
  have hl : lv_has ls 7 [(0, .ref a0), (1, .int 5), (2, .int 1), (3, .int 0)] := hl
  refine lv_lconst (v := 0) hx hb d_9_5_0 (by decide +kernel) ?_
  refine lv_lstore (lv' := [(4, .long 0), (0, .ref a0), (1, .int 5), (2, .int 1), (3, .int 0)]) hx hb d_9_5_1 hl (by decide) rfl (fun ls hl => ?_)
  refine lv_iconst (v := 0) hx hb d_9_5_3 (by decide +kernel) ?_
  refine lv_istore (lv' := [(6, .int 0), (4, .long 0), (0, .ref a0), (1, .int 5), (2, .int 1), (3, .int 0)]) hx hb d_9_5_4 hl (by decide) rfl (fun ls hl => ?_)
  refine lv_iload hx hb d_9_5_6 (lv_at hl 0 rfl) ?_
  refine lv_aload_n hx hb d_9_5_8 rfl (lv_at hl 2 rfl) ?_
  refine va_get (D := z.1) (ci := 7) (v := .int 0) (C := "Ballothall$Lists") (T := TX7) (N := 11) hx hb hts iX7 hown hG.1 hP 0 rfl rfl 0 (by decide) (hts _ w_249) (fun _ h9 => h9) rfl d_9_5_9 ?_
  refine lv_icmp_ge (tgt := 34) hx hb d_9_5_12 (by decide) (fun _ => ?_) (fun c9 => absurd (by decide +kernel) c9)
  refine lv_aload_n hx hb d_9_5_34 rfl (lv_at hl 2 rfl) ?_
  refine va_get (D := z.1) (ci := 7) (v := .ref a4) (C := "Ballothall$Lists") (T := TX7) (N := 11) hx hb hts iX7 hown hG.1 hP 0 rfl rfl 4 (by decide) (hts _ w_257) (fun _ h9 => h9) rfl d_9_5_35 ?_
  refine kVN (As := []) (rest := []) (wr := [(a0, .inr (7, [.int 0, .ref a1, .ref a2, .ref a3, .ref a4, .ref a5, .int 0, .ref a6, .ref a7, .ref a8, .int 0])), (a6, .inl (z.2 0, 8, .inl (fun _ => 0)))]) (c175_Division_clear l z a4 a9 a10 a11 a12 a13 a14) hx hb hml hown hts w_1006 n_1003 w_1005 w_s_030e9c w_6 md_4dddda ⟨Nat.le_of_ble_eq_true rfl, Nat.le_of_ble_eq_true rfl⟩ hG hZ hP hD hS hA 1 rfl rfl rfl [1] [0, 2] rfl rfl rfl rfl rfl hl.1 rfl (Nat.le_of_ble_eq_true rfl) d_9_5_38 ⟨Nat.le_of_ble_eq_true rfl, Nat.le_of_ble_eq_true rfl⟩ (fun u0 H locs hP hD hS => ?_)
  have hP : va_P z.1 classes [(a0, .inr (7, [.int 0, .ref a1, .ref a2, .ref a3, .ref a4, .ref a5, .int 0, .ref a6, .ref a7, .ref a8, .int 0])), (a6, .inl (z.2 0, 8, .inl (fun _ => 0))), (a4, .inr (4, [.int 0, .int 0, .ref a9, .ref a10, .ref a11, .ref a12, .ref a13, .ref a14]))] H := hP
  have hD : va_D A [(a0, .inr (7, [.int 0, .ref a1, .ref a2, .ref a3, .ref a4, .ref a5, .int 0, .ref a6, .ref a7, .ref a8, .int 0])), (a6, .inl (z.2 0, 8, .inl (fun _ => 0))), (a4, .inr (4, [.int 0, .int 0, .ref a9, .ref a10, .ref a11, .ref a12, .ref a13, .ref a14]))] := hD
  refine W.eq (g2 := F0 m 41 ls []) rfl ?_
  refine lv_aload_n hx hb d_9_5_41 rfl (lv_at hl 2 rfl) ?_
  refine lv_iconst (v := 0) hx hb d_9_5_42 (by decide +kernel) ?_
  refine va_put (D := z.1) (ci := 7) (v := .int 0) (ty := .boolean) (C := "Ballothall$Lists") (T := TX7) (N := 11) hx hb hts iX7 tyX7 tyX7_ok nmX7 hown hG.1 hP hD hS 0 rfl rfl 6 (by decide) (hts _ w_259) (fun _ h9 => h9) rfl (by decide +kernel) rfl rfl (Nat.le_of_ble_eq_true rfl) d_9_5_43 (fun H locs hP hD hS => ?_)
  have hP : va_P z.1 classes [(a0, .inr (7, [.int 0, .ref a1, .ref a2, .ref a3, .ref a4, .ref a5, .int 0, .ref a6, .ref a7, .ref a8, .int 0])), (a6, .inl (z.2 0, 8, .inl (fun _ => 0))), (a4, .inr (4, [.int 0, .int 0, .ref a9, .ref a10, .ref a11, .ref a12, .ref a13, .ref a14]))] H := hP
  have hD : va_D A [(a0, .inr (7, [.int 0, .ref a1, .ref a2, .ref a3, .ref a4, .ref a5, .int 0, .ref a6, .ref a7, .ref a8, .int 0])), (a6, .inl (z.2 0, 8, .inl (fun _ => 0))), (a4, .inr (4, [.int 0, .int 0, .ref a9, .ref a10, .ref a11, .ref a12, .ref a13, .ref a14]))] := hD
  refine lv_iconst (v := 0) hx hb d_9_5_46 (by decide +kernel) ?_
  refine lv_istore (lv' := [(6, .int 0), (4, .long 0), (0, .ref a0), (1, .int 5), (2, .int 1), (3, .int 0)]) hx hb d_9_5_47 hl (by decide) rfl (fun ls hl => ?_)
  refine lv_iload hx hb d_9_5_49 (lv_at hl 0 rfl) ?_
  refine lv_aload_n hx hb d_9_5_51 rfl (lv_at hl 2 rfl) ?_
  refine va_get (D := z.1) (ci := 7) (v := .int 0) (C := "Ballothall$Lists") (T := TX7) (N := 11) hx hb hts iX7 hown hG.1 hP 0 rfl rfl 0 (by decide) (hts _ w_249) (fun _ h9 => h9) rfl d_9_5_52 ?_
  refine lv_icmp_ge (tgt := 84) hx hb d_9_5_55 (by decide) (fun _ => ?_) (fun c9 => absurd (by decide +kernel) c9)
  refine lv_aload_n hx hb d_9_5_84 rfl (lv_at hl 2 rfl) ?_
  refine va_get (D := z.1) (ci := 7) (v := .ref a4) (C := "Ballothall$Lists") (T := TX7) (N := 11) hx hb hts iX7 hown hG.1 hP 0 rfl rfl 4 (by decide) (hts _ w_257) (fun _ h9 => h9) rfl d_9_5_85 ?_
  refine lv_iload_n hx hb d_9_5_88 rfl (lv_at hl 3 rfl) ?_
  refine lv_iload_n hx hb d_9_5_89 rfl (lv_at hl 4 rfl) ?_
  refine kVN (As := [.int 5, .int 1]) (rest := []) (wr := [(a0, .inr (7, [.int 0, .ref a1, .ref a2, .ref a3, .ref a4, .ref a5, .int 0, .ref a6, .ref a7, .ref a8, .int 0])), (a6, .inl (z.2 0, 8, .inl (fun _ => 0)))]) (c209_Division_distribute l z a4 a9 a10 a11 a12 a13 a14) hx hb hml hown hts w_1027 n_1024 w_1026 w_s_cb71bb w_6 md_9f0e03 ⟨Nat.le_of_ble_eq_true rfl, Nat.le_of_ble_eq_true rfl⟩ hG hZ hP hD hS hA 2 rfl rfl rfl [2] [0, 1] rfl rfl rfl rfl rfl hl.1 rfl (Nat.le_of_ble_eq_true rfl) d_9_5_90 ⟨Nat.le_of_ble_eq_true rfl, Nat.le_of_ble_eq_true rfl⟩ (fun u1 H locs hP hD hS => ?_)
  have hP : va_P z.1 classes [(a0, .inr (7, [.int 0, .ref a1, .ref a2, .ref a3, .ref a4, .ref a5, .int 0, .ref a6, .ref a7, .ref a8, .int 0])), (a6, .inl (z.2 0, 8, .inl (fun _ => 0))), (a4, .inr (4, [.int 0, .int 0, .ref a9, .ref a10, .ref a11, .ref a12, .ref a13, .ref a14]))] H := hP
  have hD : va_D A [(a0, .inr (7, [.int 0, .ref a1, .ref a2, .ref a3, .ref a4, .ref a5, .int 0, .ref a6, .ref a7, .ref a8, .int 0])), (a6, .inl (z.2 0, 8, .inl (fun _ => 0))), (a4, .inr (4, [.int 0, .int 0, .ref a9, .ref a10, .ref a11, .ref a12, .ref a13, .ref a14]))] := hD
  refine W.eq (g2 := F0 m 93 ls []) rfl ?_
  refine lv_aload_n hx hb d_9_5_93 rfl (lv_at hl 2 rfl) ?_
  refine va_get (D := z.1) (ci := 7) (v := .ref a6) (C := "Ballothall$Lists") (T := TX7) (N := 11) hx hb hts iX7 hown hG.1 hP 0 rfl rfl 7 (by decide) (hts _ w_260) (fun _ h9 => h9) rfl d_9_5_94 ?_
  refine lv_iconst (v := 0) hx hb d_9_5_97 (by decide +kernel) ?_
  refine kS (As := [.ref a6, .int 0]) (rest := []) (wr := [(a0, .inr (7, [.int 0, .ref a1, .ref a2, .ref a3, .ref a4, .ref a5, .int 0, .ref a6, .ref a7, .ref a8, .int 0])), (a4, .inr (4, [.int 0, .int 0, .ref a9, .ref a10, .ref a11, .ref a12, .ref a13, .ref a14]))]) (c_fill0 l z a6 8 (by decide)) hx hb hml hown hts w_487 w_1054 w_486 w_22 md_e8f65d ⟨Nat.le_of_ble_eq_true rfl, Nat.le_of_ble_eq_true rfl⟩ hG hZ hP hD hS hA [1] [0, 2] rfl rfl rfl rfl rfl hl.1 rfl (Nat.le_of_ble_eq_true rfl) d_9_5_98 ⟨Nat.le_of_ble_eq_true rfl, Nat.le_of_ble_eq_true rfl⟩ (fun u2 H locs hP hD hS => ?_)
  have hP : va_P z.1 classes [(a0, .inr (7, [.int 0, .ref a1, .ref a2, .ref a3, .ref a4, .ref a5, .int 0, .ref a6, .ref a7, .ref a8, .int 0])), (a4, .inr (4, [.int 0, .int 0, .ref a9, .ref a10, .ref a11, .ref a12, .ref a13, .ref a14])), (a6, .inl (z.2 0, 8, .inl (fun _ => 0)))] H := hP
  have hD : va_D A [(a0, .inr (7, [.int 0, .ref a1, .ref a2, .ref a3, .ref a4, .ref a5, .int 0, .ref a6, .ref a7, .ref a8, .int 0])), (a4, .inr (4, [.int 0, .int 0, .ref a9, .ref a10, .ref a11, .ref a12, .ref a13, .ref a14])), (a6, .inl (z.2 0, 8, .inl (fun _ => 0)))] := hD
  refine W.eq (g2 := F0 m 101 ls []) rfl ?_
  refine lv_iconst (v := 0) hx hb d_9_5_101 (by decide +kernel) ?_
  refine lv_istore (lv' := [(6, .int 0), (4, .long 0), (0, .ref a0), (1, .int 5), (2, .int 1), (3, .int 0)]) hx hb d_9_5_102 hl (by decide) rfl (fun ls hl => ?_)
  refine lv_iload hx hb d_9_5_104 (lv_at hl 0 rfl) ?_
  refine lv_aload_n hx hb d_9_5_106 rfl (lv_at hl 2 rfl) ?_
  refine va_get (D := z.1) (ci := 7) (v := .ref a4) (C := "Ballothall$Lists") (T := TX7) (N := 11) hx hb hts iX7 hown hG.1 hP 0 rfl rfl 4 (by decide) (hts _ w_257) (fun _ h9 => h9) rfl d_9_5_107 ?_
  refine va_getN (D := z.1) (ci := 4) (v := .int 0) (C := "Ballothall$Division") (T := TX4) (N := 8) hx hb hts iX4 hown hG.1 hP 1 rfl rfl 0 (by decide) (va_Nw.use rfl (hG.2.1 _ n_183 rfl)) (fun _ h9 => h9) rfl d_9_5_110 ?_
  refine lv_icmp_ge (tgt := 147) hx hb d_9_5_113 (by decide) (fun _ => ?_) (fun c9 => absurd (by decide +kernel) c9)
  refine lv_aload_n hx hb d_9_5_147 rfl (lv_at hl 2 rfl) ?_
  refine va_get (D := z.1) (ci := 7) (v := .ref a4) (C := "Ballothall$Lists") (T := TX7) (N := 11) hx hb hts iX7 hown hG.1 hP 0 rfl rfl 4 (by decide) (hts _ w_257) (fun _ h9 => h9) rfl d_9_5_148 ?_
  refine va_getN (D := z.1) (ci := 4) (v := .int 0) (C := "Ballothall$Division") (T := TX4) (N := 8) hx hb hts iX4 hown hG.1 hP 1 rfl rfl 0 (by decide) (va_Nw.use rfl (hG.2.1 _ n_183 rfl)) (fun _ h9 => h9) rfl d_9_5_151 ?_
  refine W.widen (k := 0) (n := 0) (Nat.le_of_ble_eq_true rfl) (Nat.le_of_ble_eq_true rfl) ?_
  exact W.iret hx hb hr (fun t ht hW => qk hP hD hS [0, 1, 2] rfl ((fun k => k), (fun _ _ => none)) rfl rfl rfl ht) hS.2.2 d_9_5_154
set_option maxRecDepth 100000 in
set_option maxHeartbeats 4000000 in
theorem c211_Division_distribute (l : Launch) (z : Zz) (a0 a1 a2 a3 a4 a5 a6 : Nat) (x0 : Int32) : CT l z ⟨"Ballothall$Division", "distribute", "(II)V"⟩ prog_6_method_5_code 6 none [.ref a0, .int 5, .int x0] [(a0, .inr (4, [.int 0, .int 0, .ref a1, .ref a2, .ref a3, .ref a4, .ref a5, .ref a6]))] 0 0 0 0 (fun u => none) (fun u => [(a0, .inr (4, [.int 0, .int 0, .ref a1, .ref a2, .ref a3, .ref a4, .ref a5, .ref a6]))]) := by
  refine CT.of (own := "Ballothall$Division") (by decide +kernel) (Nat.le_of_ble_eq_true rfl) rfl (fun p e s m below meth c A ls hx hb hml hr hts hown hlocks hin hA hG hZ hP hD hS hl => ?_)
  have hl : lv_has ls 6 [(0, .ref a0), (1, .int 5), (2, .int x0)] := hl
  refine lv_aload_n hx hb d_6_5_0 rfl (lv_at hl 0 rfl) ?_
  refine va_get (D := z.1) (ci := 4) (v := .int 0) (C := "Ballothall$Division") (T := TX4) (N := 8) hx hb hts iX4 hown hG.1 hP 0 rfl rfl 0 (by decide) (hts _ w_182) (fun _ h9 => h9) rfl d_6_5_1 ?_
  refine lv_if_ne (tgt := 8) hx hb d_6_5_4 (by decide) (fun c9 => absurd (by decide +kernel) c9) (fun _ => ?_)
  refine W.widen (k := 0) (n := 0) (Nat.le_of_ble_eq_true rfl) (Nat.le_of_ble_eq_true rfl) ?_
  exact W.vret hx hb hr (fun t ht hW => qk hP hD hS [0] rfl ((fun k => k), (fun _ _ => none)) rfl rfl rfl ht) hS.2.2 d_6_5_7
set_option maxRecDepth 100000 in
set_option maxHeartbeats 4000000 in
theorem c212_Lists_spread (l : Launch) (z : Zz) (a0 a1 a2 a3 a4 a5 a6 a7 a8 a9 a10 a11 a12 a13 a14 : Nat) (x0 : Int32) : CT l z ⟨"Ballothall$Lists", "spread", "(III)I"⟩ prog_9_method_5_code 7 (some .int) [.ref a0, .int 5, .int x0, .int 0] [(a0, .inr (7, [.int 0, .ref a1, .ref a2, .ref a3, .ref a4, .ref a5, .int 0, .ref a6, .ref a7, .ref a8, .int 0])), (a4, .inr (4, [.int 0, .int 0, .ref a9, .ref a10, .ref a11, .ref a12, .ref a13, .ref a14])), (a6, .inl (z.2 0, 8, .inl (fun _ => 0)))] 2 51 0 0 (fun u => some (.int 0)) (fun u => [(a0, .inr (7, [.int 0, .ref a1, .ref a2, .ref a3, .ref a4, .ref a5, .int 0, .ref a6, .ref a7, .ref a8, .int 0])), (a4, .inr (4, [.int 0, .int 0, .ref a9, .ref a10, .ref a11, .ref a12, .ref a13, .ref a14])), (a6, .inl (z.2 0, 8, .inl (fun _ => 0)))]) := by
  refine CT.of (own := "Ballothall$Lists") (by decide +kernel) (Nat.le_of_ble_eq_true rfl) rfl (fun p e s m below meth c A ls hx hb hml hr hts hown hlocks hin hA hG hZ hP hD hS hl => ?_)
  have hl : lv_has ls 7 [(0, .ref a0), (1, .int 5), (2, .int x0), (3, .int 0)] := hl
  refine lv_lconst (v := 0) hx hb d_9_5_0 (by decide +kernel) ?_
  refine lv_lstore (lv' := [(4, .long 0), (0, .ref a0), (1, .int 5), (2, .int x0), (3, .int 0)]) hx hb d_9_5_1 hl (by decide) rfl (fun ls hl => ?_)
  refine lv_iconst (v := 0) hx hb d_9_5_3 (by decide +kernel) ?_
  refine lv_istore (lv' := [(6, .int 0), (4, .long 0), (0, .ref a0), (1, .int 5), (2, .int x0), (3, .int 0)]) hx hb d_9_5_4 hl (by decide) rfl (fun ls hl => ?_)
  refine lv_iload hx hb d_9_5_6 (lv_at hl 0 rfl) ?_
  refine lv_aload_n hx hb d_9_5_8 rfl (lv_at hl 2 rfl) ?_
  refine va_get (D := z.1) (ci := 7) (v := .int 0) (C := "Ballothall$Lists") (T := TX7) (N := 11) hx hb hts iX7 hown hG.1 hP 0 rfl rfl 0 (by decide) (hts _ w_249) (fun _ h9 => h9) rfl d_9_5_9 ?_
  refine lv_icmp_ge (tgt := 34) hx hb d_9_5_12 (by decide) (fun _ => ?_) (fun c9 => absurd (by decide +kernel) c9)
  refine lv_aload_n hx hb d_9_5_34 rfl (lv_at hl 2 rfl) ?_
  refine va_get (D := z.1) (ci := 7) (v := .ref a4) (C := "Ballothall$Lists") (T := TX7) (N := 11) hx hb hts iX7 hown hG.1 hP 0 rfl rfl 4 (by decide) (hts _ w_257) (fun _ h9 => h9) rfl d_9_5_35 ?_
  refine kVN (As := []) (rest := []) (wr := [(a0, .inr (7, [.int 0, .ref a1, .ref a2, .ref a3, .ref a4, .ref a5, .int 0, .ref a6, .ref a7, .ref a8, .int 0])), (a6, .inl (z.2 0, 8, .inl (fun _ => 0)))]) (c175_Division_clear l z a4 a9 a10 a11 a12 a13 a14) hx hb hml hown hts w_1006 n_1003 w_1005 w_s_030e9c w_6 md_4dddda ⟨Nat.le_of_ble_eq_true rfl, Nat.le_of_ble_eq_true rfl⟩ hG hZ hP hD hS hA 1 rfl rfl rfl [1] [0, 2] rfl rfl rfl rfl rfl hl.1 rfl (Nat.le_of_ble_eq_true rfl) d_9_5_38 ⟨Nat.le_of_ble_eq_true rfl, Nat.le_of_ble_eq_true rfl⟩ (fun u0 H locs hP hD hS => ?_)
  have hP : va_P z.1 classes [(a0, .inr (7, [.int 0, .ref a1, .ref a2, .ref a3, .ref a4, .ref a5, .int 0, .ref a6, .ref a7, .ref a8, .int 0])), (a6, .inl (z.2 0, 8, .inl (fun _ => 0))), (a4, .inr (4, [.int 0, .int 0, .ref a9, .ref a10, .ref a11, .ref a12, .ref a13, .ref a14]))] H := hP
  have hD : va_D A [(a0, .inr (7, [.int 0, .ref a1, .ref a2, .ref a3, .ref a4, .ref a5, .int 0, .ref a6, .ref a7, .ref a8, .int 0])), (a6, .inl (z.2 0, 8, .inl (fun _ => 0))), (a4, .inr (4, [.int 0, .int 0, .ref a9, .ref a10, .ref a11, .ref a12, .ref a13, .ref a14]))] := hD
  refine W.eq (g2 := F0 m 41 ls []) rfl ?_
  refine lv_aload_n hx hb d_9_5_41 rfl (lv_at hl 2 rfl) ?_
  refine lv_iconst (v := 0) hx hb d_9_5_42 (by decide +kernel) ?_
  refine va_put (D := z.1) (ci := 7) (v := .int 0) (ty := .boolean) (C := "Ballothall$Lists") (T := TX7) (N := 11) hx hb hts iX7 tyX7 tyX7_ok nmX7 hown hG.1 hP hD hS 0 rfl rfl 6 (by decide) (hts _ w_259) (fun _ h9 => h9) rfl (by decide +kernel) rfl rfl (Nat.le_of_ble_eq_true rfl) d_9_5_43 (fun H locs hP hD hS => ?_)
  have hP : va_P z.1 classes [(a0, .inr (7, [.int 0, .ref a1, .ref a2, .ref a3, .ref a4, .ref a5, .int 0, .ref a6, .ref a7, .ref a8, .int 0])), (a6, .inl (z.2 0, 8, .inl (fun _ => 0))), (a4, .inr (4, [.int 0, .int 0, .ref a9, .ref a10, .ref a11, .ref a12, .ref a13, .ref a14]))] H := hP
  have hD : va_D A [(a0, .inr (7, [.int 0, .ref a1, .ref a2, .ref a3, .ref a4, .ref a5, .int 0, .ref a6, .ref a7, .ref a8, .int 0])), (a6, .inl (z.2 0, 8, .inl (fun _ => 0))), (a4, .inr (4, [.int 0, .int 0, .ref a9, .ref a10, .ref a11, .ref a12, .ref a13, .ref a14]))] := hD
  refine lv_iconst (v := 0) hx hb d_9_5_46 (by decide +kernel) ?_
  refine lv_istore (lv' := [(6, .int 0), (4, .long 0), (0, .ref a0), (1, .int 5), (2, .int x0), (3, .int 0)]) hx hb d_9_5_47 hl (by decide) rfl (fun ls hl => ?_)
  refine lv_iload hx hb d_9_5_49 (lv_at hl 0 rfl) ?_
  refine lv_aload_n hx hb d_9_5_51 rfl (lv_at hl 2 rfl) ?_
  refine va_get (D := z.1) (ci := 7) (v := .int 0) (C := "Ballothall$Lists") (T := TX7) (N := 11) hx hb hts iX7 hown hG.1 hP 0 rfl rfl 0 (by decide) (hts _ w_249) (fun _ h9 => h9) rfl d_9_5_52 ?_
  refine lv_icmp_ge (tgt := 84) hx hb d_9_5_55 (by decide) (fun _ => ?_) (fun c9 => absurd (by decide +kernel) c9)
  refine lv_aload_n hx hb d_9_5_84 rfl (lv_at hl 2 rfl) ?_
  refine va_get (D := z.1) (ci := 7) (v := .ref a4) (C := "Ballothall$Lists") (T := TX7) (N := 11) hx hb hts iX7 hown hG.1 hP 0 rfl rfl 4 (by decide) (hts _ w_257) (fun _ h9 => h9) rfl d_9_5_85 ?_
  refine lv_iload_n hx hb d_9_5_88 rfl (lv_at hl 3 rfl) ?_
  refine lv_iload_n hx hb d_9_5_89 rfl (lv_at hl 4 rfl) ?_
  refine kVN (As := [.int 5, .int x0]) (rest := []) (wr := [(a0, .inr (7, [.int 0, .ref a1, .ref a2, .ref a3, .ref a4, .ref a5, .int 0, .ref a6, .ref a7, .ref a8, .int 0])), (a6, .inl (z.2 0, 8, .inl (fun _ => 0)))]) (c211_Division_distribute l z a4 a9 a10 a11 a12 a13 a14 x0) hx hb hml hown hts w_1027 n_1024 w_1026 w_s_cb71bb w_6 md_9f0e03 ⟨Nat.le_of_ble_eq_true rfl, Nat.le_of_ble_eq_true rfl⟩ hG hZ hP hD hS hA 2 rfl rfl rfl [2] [0, 1] rfl rfl rfl rfl rfl hl.1 rfl (Nat.le_of_ble_eq_true rfl) d_9_5_90 ⟨Nat.le_of_ble_eq_true rfl, Nat.le_of_ble_eq_true rfl⟩ (fun u1 H locs hP hD hS => ?_)
  have hP : va_P z.1 classes [(a0, .inr (7, [.int 0, .ref a1, .ref a2, .ref a3, .ref a4, .ref a5, .int 0, .ref a6, .ref a7, .ref a8, .int 0])), (a6, .inl (z.2 0, 8, .inl (fun _ => 0))), (a4, .inr (4, [.int 0, .int 0, .ref a9, .ref a10, .ref a11, .ref a12, .ref a13, .ref a14]))] H := hP
  have hD : va_D A [(a0, .inr (7, [.int 0, .ref a1, .ref a2, .ref a3, .ref a4, .ref a5, .int 0, .ref a6, .ref a7, .ref a8, .int 0])), (a6, .inl (z.2 0, 8, .inl (fun _ => 0))), (a4, .inr (4, [.int 0, .int 0, .ref a9, .ref a10, .ref a11, .ref a12, .ref a13, .ref a14]))] := hD
  refine W.eq (g2 := F0 m 93 ls []) rfl ?_
  refine lv_aload_n hx hb d_9_5_93 rfl (lv_at hl 2 rfl) ?_
  refine va_get (D := z.1) (ci := 7) (v := .ref a6) (C := "Ballothall$Lists") (T := TX7) (N := 11) hx hb hts iX7 hown hG.1 hP 0 rfl rfl 7 (by decide) (hts _ w_260) (fun _ h9 => h9) rfl d_9_5_94 ?_
  refine lv_iconst (v := 0) hx hb d_9_5_97 (by decide +kernel) ?_
  refine kS (As := [.ref a6, .int 0]) (rest := []) (wr := [(a0, .inr (7, [.int 0, .ref a1, .ref a2, .ref a3, .ref a4, .ref a5, .int 0, .ref a6, .ref a7, .ref a8, .int 0])), (a4, .inr (4, [.int 0, .int 0, .ref a9, .ref a10, .ref a11, .ref a12, .ref a13, .ref a14]))]) (c_fill0 l z a6 8 (by decide)) hx hb hml hown hts w_487 w_1054 w_486 w_22 md_e8f65d ⟨Nat.le_of_ble_eq_true rfl, Nat.le_of_ble_eq_true rfl⟩ hG hZ hP hD hS hA [1] [0, 2] rfl rfl rfl rfl rfl hl.1 rfl (Nat.le_of_ble_eq_true rfl) d_9_5_98 ⟨Nat.le_of_ble_eq_true rfl, Nat.le_of_ble_eq_true rfl⟩ (fun u2 H locs hP hD hS => ?_)
  have hP : va_P z.1 classes [(a0, .inr (7, [.int 0, .ref a1, .ref a2, .ref a3, .ref a4, .ref a5, .int 0, .ref a6, .ref a7, .ref a8, .int 0])), (a4, .inr (4, [.int 0, .int 0, .ref a9, .ref a10, .ref a11, .ref a12, .ref a13, .ref a14])), (a6, .inl (z.2 0, 8, .inl (fun _ => 0)))] H := hP
  have hD : va_D A [(a0, .inr (7, [.int 0, .ref a1, .ref a2, .ref a3, .ref a4, .ref a5, .int 0, .ref a6, .ref a7, .ref a8, .int 0])), (a4, .inr (4, [.int 0, .int 0, .ref a9, .ref a10, .ref a11, .ref a12, .ref a13, .ref a14])), (a6, .inl (z.2 0, 8, .inl (fun _ => 0)))] := hD
  refine W.eq (g2 := F0 m 101 ls []) rfl ?_
  refine lv_iconst (v := 0) hx hb d_9_5_101 (by decide +kernel) ?_
  refine lv_istore (lv' := [(6, .int 0), (4, .long 0), (0, .ref a0), (1, .int 5), (2, .int x0), (3, .int 0)]) hx hb d_9_5_102 hl (by decide) rfl (fun ls hl => ?_)
  refine lv_iload hx hb d_9_5_104 (lv_at hl 0 rfl) ?_
  refine lv_aload_n hx hb d_9_5_106 rfl (lv_at hl 2 rfl) ?_
  refine va_get (D := z.1) (ci := 7) (v := .ref a4) (C := "Ballothall$Lists") (T := TX7) (N := 11) hx hb hts iX7 hown hG.1 hP 0 rfl rfl 4 (by decide) (hts _ w_257) (fun _ h9 => h9) rfl d_9_5_107 ?_
  refine va_getN (D := z.1) (ci := 4) (v := .int 0) (C := "Ballothall$Division") (T := TX4) (N := 8) hx hb hts iX4 hown hG.1 hP 1 rfl rfl 0 (by decide) (va_Nw.use rfl (hG.2.1 _ n_183 rfl)) (fun _ h9 => h9) rfl d_9_5_110 ?_
  refine lv_icmp_ge (tgt := 147) hx hb d_9_5_113 (by decide) (fun _ => ?_) (fun c9 => absurd (by decide +kernel) c9)
  refine lv_aload_n hx hb d_9_5_147 rfl (lv_at hl 2 rfl) ?_
  refine va_get (D := z.1) (ci := 7) (v := .ref a4) (C := "Ballothall$Lists") (T := TX7) (N := 11) hx hb hts iX7 hown hG.1 hP 0 rfl rfl 4 (by decide) (hts _ w_257) (fun _ h9 => h9) rfl d_9_5_148 ?_
  refine va_getN (D := z.1) (ci := 4) (v := .int 0) (C := "Ballothall$Division") (T := TX4) (N := 8) hx hb hts iX4 hown hG.1 hP 1 rfl rfl 0 (by decide) (va_Nw.use rfl (hG.2.1 _ n_183 rfl)) (fun _ h9 => h9) rfl d_9_5_151 ?_
  refine W.widen (k := 0) (n := 0) (Nat.le_of_ble_eq_true rfl) (Nat.le_of_ble_eq_true rfl) ?_
  exact W.iret hx hb hr (fun t ht hW => qk hP hD hS [0, 1, 2] rfl ((fun k => k), (fun _ _ => none)) rfl rfl rfl ht) hS.2.2 d_9_5_154
set_option maxRecDepth 100000 in
set_option maxHeartbeats 4000000 in
theorem b213_firstLoss (l : Launch) (z : Zz) (a0 : Nat) (a1 : Nat) (a10 : Nat) (a11 : Nat) (a12 : Nat) (a13 : Nat) (a14 : Nat) (a2 : Nat) (a3 : Nat) (a4 : Nat) (a5 : Nat) (a6 : Nat) (a7 : Nat) (a8 : Nat) (a9 : Nat) (x0 : Int32) (h0 : ¬ 60 < x0) (HV : Int32) (hL : ¬ x0 < HV) {p : Program} {e : Env} {s : State} {m : MethodId} {below : List Frame} {meth : Method} {c : Code} {A : Nat → Prop} {Q : State → Prop} (hx : p.tables.exec = Jvm.exec) (hb : c.code = prog_9_method_10_code) (hml : c.maxLocals = 4) (hts : ∀ w ∈ WG, w.before ([.ref a0, .int x0] : List Value).toArray s = true) (hown : s.vm.findClass "Ballothall$Lists" = some m.cls) (hA : ∀ q, s.heap.size ≤ q → A q) (hG : KG z s) (hZ : XZ A s) (cc ss : Nat) (hcc : cc + 0 ≤ 0) (hss : ss + 0 ≤ 0) (hk : ∀ (H : Heap) (locs : List Loc) (ls : Array Slot), va_P z.1 classes [(a7, .inl (z.2 0, 8, .inl (fun _ => 0))), (a0, .inr (7, [.int 0, .ref a1, .ref a2, .ref a3, .ref a4, .ref a5, .int 0, .ref a6, .ref a7, .ref a8, .int 0])), (a4, .inr (4, [.int 0, .int 0, .ref a9, .ref a10, .ref a11, .ref a12, .ref a13, .ref a14])), (a6, .inl (z.2 0, 8, .inl (fun _ => 0)))] H → va_D A [(a7, .inl (z.2 0, 8, .inl (fun _ => 0))), (a0, .inr (7, [.int 0, .ref a1, .ref a2, .ref a3, .ref a4, .ref a5, .int 0, .ref a6, .ref a7, .ref a8, .int 0])), (a4, .inr (4, [.int 0, .int 0, .ref a9, .ref a10, .ref a11, .ref a12, .ref a13, .ref a14])), (a6, .inl (z.2 0, 8, .inl (fun _ => 0)))] → va_S A s.heap H locs → lv_has ls 4 [(0, .ref a0), (1, .int x0), (2, .int (HV + 1))] → W p l e (rmK 3 85 0 0) s m ([.ref a0, .int x0] : List Value).toArray below meth c H locs (cc + 0) (ss + 0) Q (F0 m 10 ls [])) (H : Heap) (locs : List Loc) (ls : Array Slot) (hP : va_P z.1 classes [(a7, .inl (z.2 0, 8, .inl (fun _ => 0))), (a0, .inr (7, [.int 0, .ref a1, .ref a2, .ref a3, .ref a4, .ref a5, .int 0, .ref a6, .ref a7, .ref a8, .int 0])), (a4, .inr (4, [.int 0, .int 0, .ref a9, .ref a10, .ref a11, .ref a12, .ref a13, .ref a14])), (a6, .inl (z.2 0, 8, .inl (fun _ => 0)))] H) (hD : va_D A [(a7, .inl (z.2 0, 8, .inl (fun _ => 0))), (a0, .inr (7, [.int 0, .ref a1, .ref a2, .ref a3, .ref a4, .ref a5, .int 0, .ref a6, .ref a7, .ref a8, .int 0])), (a4, .inr (4, [.int 0, .int 0, .ref a9, .ref a10, .ref a11, .ref a12, .ref a13, .ref a14])), (a6, .inl (z.2 0, 8, .inl (fun _ => 0)))]) (hS : va_S A s.heap H locs) (hl : lv_has ls 4 [(0, .ref a0), (1, .int x0), (2, .int HV)]) : W p l e (rmK 3 85 0 0) s m ([.ref a0, .int x0] : List Value).toArray below meth c H locs cc ss Q (F0 m 10 ls []) := by
  refine lv_iload_n hx hb d_9_10_10 rfl (lv_at hl 2 rfl) ?_
  refine lv_iload_n hx hb d_9_10_11 rfl (lv_at hl 1 rfl) ?_
  refine lv_icmp_gt (tgt := 79) hx hb d_9_10_12 (by decide) (fun c9 => absurd c9 hL) (fun _ => ?_)
  refine lv_aload_n hx hb d_9_10_15 rfl (lv_at hl 0 rfl) ?_
  refine va_get (D := z.1) (ci := 7) (v := .ref a6) (C := "Ballothall$Lists") (T := TX7) (N := 11) hx hb hts iX7 hown hG.1 hP 1 rfl rfl 7 (by decide) (hts _ w_260) (fun _ h9 => h9) rfl d_9_10_16 ?_
  refine lv_iconst (v := 0) hx hb d_9_10_19 (by decide +kernel) ?_
  refine lv_aload_n hx hb d_9_10_20 rfl (lv_at hl 0 rfl) ?_
  refine va_get (D := z.1) (ci := 7) (v := .ref a7) (C := "Ballothall$Lists") (T := TX7) (N := 11) hx hb hts iX7 hown hG.1 hP 1 rfl rfl 8 (by decide) (hts _ w_261) (fun _ h9 => h9) rfl d_9_10_21 ?_
  refine lv_iconst (v := 0) hx hb d_9_10_24 (by decide +kernel) ?_
  refine lv_bipush (v := 8) hx hb d_9_10_25 (by decide +kernel) ?_
  refine va_copyi hx hb (by rw [hml]; exact hl.1.symm) hown (hts _ w_1064) (hts _ w_698) (hts _ w_697) (hts _ w_19) hG.1 hP hD hS 3 0 0 0 rfl rfl rfl rfl rfl (by decide +kernel) (by decide +kernel) (by decide +kernel) (by decide +kernel) (by decide +kernel) (fun _ _ => rfl) (Nat.le_of_ble_eq_true rfl) (Nat.le_of_ble_eq_true rfl) d_9_10_27 (fun H locs hP hD hS => ?_)
  rw [cpy_z] at hP hD
  have hP : va_P z.1 classes [(a7, .inl (z.2 0, 8, .inl (fun _ => 0))), (a0, .inr (7, [.int 0, .ref a1, .ref a2, .ref a3, .ref a4, .ref a5, .int 0, .ref a6, .ref a7, .ref a8, .int 0])), (a4, .inr (4, [.int 0, .int 0, .ref a9, .ref a10, .ref a11, .ref a12, .ref a13, .ref a14])), (a6, .inl (z.2 0, 8, .inl (fun _ => 0)))] H := hP
  have hD : va_D A [(a7, .inl (z.2 0, 8, .inl (fun _ => 0))), (a0, .inr (7, [.int 0, .ref a1, .ref a2, .ref a3, .ref a4, .ref a5, .int 0, .ref a6, .ref a7, .ref a8, .int 0])), (a4, .inr (4, [.int 0, .int 0, .ref a9, .ref a10, .ref a11, .ref a12, .ref a13, .ref a14])), (a6, .inl (z.2 0, 8, .inl (fun _ => 0)))] := hD
  refine W.eq (g2 := F0 m 30 ls []) rfl ?_
  refine lv_aload_n hx hb d_9_10_30 rfl (lv_at hl 0 rfl) ?_
  refine lv_iconst (v := 5) hx hb d_9_10_31 (by decide +kernel) ?_
  refine lv_iload_n hx hb d_9_10_32 rfl (lv_at hl 2 rfl) ?_
  refine lv_iconst (v := 1) hx hb d_9_10_33 (by decide +kernel) ?_
  refine lv_iadd hx hb d_9_10_34 ?_
  refine lv_iconst (v := 0) hx hb d_9_10_35 (by decide +kernel) ?_
  refine kV (As := [.int 5, .int (HV + 1), .int 0]) (rest := []) (wr := [(a7, .inl (z.2 0, 8, .inl (fun _ => 0)))]) (c212_Lists_spread l z a0 a1 a2 a3 a4 a5 a6 a7 a8 a9 a10 a11 a12 a13 a14 (HV + 1)) hx hb hml hown hts w_1002 w_1110 w_1001 w_s_de34cc w_5 md_9eb116 ⟨Nat.le_of_ble_eq_true rfl, Nat.le_of_ble_eq_true rfl⟩ hG hZ hP hD hS hA 1 rfl rfl rfl [1, 2, 3] [0] rfl rfl rfl rfl rfl hl.1 rfl (Nat.le_of_ble_eq_true rfl) d_9_10_36 ⟨(Nat.le_trans (m := cc + 0) (by omega) (Nat.le_trans hcc (Nat.le_of_ble_eq_true rfl))), (Nat.le_trans (m := ss + 0) (by omega) (Nat.le_trans hss (Nat.le_of_ble_eq_true rfl)))⟩ (fun u1 H locs hP hD hS => ?_)
  have hP : va_P z.1 classes [(a7, .inl (z.2 0, 8, .inl (fun _ => 0))), (a0, .inr (7, [.int 0, .ref a1, .ref a2, .ref a3, .ref a4, .ref a5, .int 0, .ref a6, .ref a7, .ref a8, .int 0])), (a4, .inr (4, [.int 0, .int 0, .ref a9, .ref a10, .ref a11, .ref a12, .ref a13, .ref a14])), (a6, .inl (z.2 0, 8, .inl (fun _ => 0)))] H := hP
  have hD : va_D A [(a7, .inl (z.2 0, 8, .inl (fun _ => 0))), (a0, .inr (7, [.int 0, .ref a1, .ref a2, .ref a3, .ref a4, .ref a5, .int 0, .ref a6, .ref a7, .ref a8, .int 0])), (a4, .inr (4, [.int 0, .int 0, .ref a9, .ref a10, .ref a11, .ref a12, .ref a13, .ref a14])), (a6, .inl (z.2 0, 8, .inl (fun _ => 0)))] := hD
  refine W.eq (g2 := F0 m 39 ls [.int 0]) rfl ?_
  refine lv_pop hx hb d_9_10_39 rfl ?_
  refine lv_iconst (v := 0) hx hb d_9_10_40 (by decide +kernel) ?_
  refine lv_istore_n (lv' := [(3, .int 0), (0, .ref a0), (1, .int x0), (2, .int HV)]) hx hb d_9_10_41 rfl hl (by decide) rfl (fun ls hl => ?_)
  refine lv_iload_n hx hb d_9_10_42 rfl (lv_at hl 0 rfl) ?_
  refine lv_aload_n hx hb d_9_10_43 rfl (lv_at hl 1 rfl) ?_
  refine va_get (D := z.1) (ci := 7) (v := .int 0) (C := "Ballothall$Lists") (T := TX7) (N := 11) hx hb hts iX7 hown hG.1 hP 1 rfl rfl 0 (by decide) (hts _ w_249) (fun _ h9 => h9) rfl d_9_10_44 ?_
  refine lv_icmp_ge (tgt := 73) hx hb d_9_10_47 (by decide) (fun _ => ?_) (fun c9 => absurd (by decide +kernel) c9)
  refine lv_iinc (v := (HV + 1)) (lv' := [(2, .int (HV + 1)), (3, .int 0), (0, .ref a0), (1, .int x0)]) hx hb d_9_10_73 hl (k := 3) rfl rfl (by decide) rfl (fun ls hl => ?_)
  refine lv_goto (tgt := 10) hx hb d_9_10_76 (by decide) ?_
  refine W.widen (k := cc + 0) (n := ss + 0) (by omega) (by omega) ?_
  exact hk H locs ls (hP.sub [0, 1, 2, 3] rfl) (hD.sub [0, 1, 2, 3] rfl rfl) hS (lv_sub hl [2, 3, 0] rfl)
set_option maxRecDepth 100000 in
set_option maxHeartbeats 4000000 in
theorem l214_firstLoss (l : Launch) (z : Zz) (a0 : Nat) (a1 : Nat) (a10 : Nat) (a11 : Nat) (a12 : Nat) (a13 : Nat) (a14 : Nat) (a2 : Nat) (a3 : Nat) (a4 : Nat) (a5 : Nat) (a6 : Nat) (a7 : Nat) (a8 : Nat) (a9 : Nat) (x0 : Int32) (h0 : ¬ 60 < x0) {p : Program} {e : Env} {s : State} {m : MethodId} {below : List Frame} {meth : Method} {c : Code} {A : Nat → Prop} {Q : State → Prop} (hx : p.tables.exec = Jvm.exec) (hb : c.code = prog_9_method_10_code) (hml : c.maxLocals = 4) (hts : ∀ w ∈ WG, w.before ([.ref a0, .int x0] : List Value).toArray s = true) (hown : s.vm.findClass "Ballothall$Lists" = some m.cls) (hA : ∀ q, s.heap.size ≤ q → A q) (hG : KG z s) (hZ : XZ A s) (hk : ∀ (HV : Int32), x0 < HV → ∀ (H : Heap) (locs : List Loc) (ls : Array Slot), va_P z.1 classes [(a7, .inl (z.2 0, 8, .inl (fun _ => 0))), (a0, .inr (7, [.int 0, .ref a1, .ref a2, .ref a3, .ref a4, .ref a5, .int 0, .ref a6, .ref a7, .ref a8, .int 0])), (a4, .inr (4, [.int 0, .int 0, .ref a9, .ref a10, .ref a11, .ref a12, .ref a13, .ref a14])), (a6, .inl (z.2 0, 8, .inl (fun _ => 0)))] H → va_D A [(a7, .inl (z.2 0, 8, .inl (fun _ => 0))), (a0, .inr (7, [.int 0, .ref a1, .ref a2, .ref a3, .ref a4, .ref a5, .int 0, .ref a6, .ref a7, .ref a8, .int 0])), (a4, .inr (4, [.int 0, .int 0, .ref a9, .ref a10, .ref a11, .ref a12, .ref a13, .ref a14])), (a6, .inl (z.2 0, 8, .inl (fun _ => 0)))] → va_S A s.heap H locs → lv_has ls 4 [(0, .ref a0), (1, .int x0), (2, .int HV)] → W p l e (rmK 3 85 0 0) s m ([.ref a0, .int x0] : List Value).toArray below meth c H locs 0 0 Q (F0 m 10 ls [])) : ∀ (k i cc ss : Nat), i + k = 62 → cc + k * 0 ≤ 0 → ss + k * 0 ≤ 0 → ∀ (H : Heap) (locs : List Loc) (ls : Array Slot), va_P z.1 classes [(a7, .inl (z.2 0, 8, .inl (fun _ => 0))), (a0, .inr (7, [.int 0, .ref a1, .ref a2, .ref a3, .ref a4, .ref a5, .int 0, .ref a6, .ref a7, .ref a8, .int 0])), (a4, .inr (4, [.int 0, .int 0, .ref a9, .ref a10, .ref a11, .ref a12, .ref a13, .ref a14])), (a6, .inl (z.2 0, 8, .inl (fun _ => 0)))] H → va_D A [(a7, .inl (z.2 0, 8, .inl (fun _ => 0))), (a0, .inr (7, [.int 0, .ref a1, .ref a2, .ref a3, .ref a4, .ref a5, .int 0, .ref a6, .ref a7, .ref a8, .int 0])), (a4, .inr (4, [.int 0, .int 0, .ref a9, .ref a10, .ref a11, .ref a12, .ref a13, .ref a14])), (a6, .inl (z.2 0, 8, .inl (fun _ => 0)))] → va_S A s.heap H locs → lv_has ls 4 [(0, .ref a0), (1, .int x0), (2, .int (nI i))] → W p l e (rmK 3 85 0 0) s m ([.ref a0, .int x0] : List Value).toArray below meth c H locs cc ss Q (F0 m 10 ls []) := by
  intro k
  induction k with
  | zero =>
    intro i cc ss hi hc1 hs1 H locs ls hP hD hS hl
    have e9 : i = 62 := by omega
    subst e9
    refine W.widen (k := 0) (n := 0) (by omega) (by omega) ?_
    exact hk _ (lt62 h0) H locs ls hP hD hS hl
  | succ k ih =>
    intro i cc ss hi hc1 hs1 H locs ls hP hD hS hl
    by_cases hL : x0 < nI i
    · refine W.widen (k := 0) (n := 0) (by omega) (by omega) ?_
      exact hk _ hL H locs ls hP hD hS hl
    · refine b213_firstLoss l z a0 a1 a10 a11 a12 a13 a14 a2 a3 a4 a5 a6 a7 a8 a9 x0 h0 (nI i) hL hx hb hml hts hown hA hG hZ cc ss (by rw [Nat.succ_mul] at hc1; omega) (by rw [Nat.succ_mul] at hs1; omega) (fun H locs ls hP hD hS hl => ?_) H locs ls hP hD hS hl
      rw [nI_1] at hl
      exact ih (i + 1) (cc + 0) (ss + 0) (by omega) (by rw [Nat.succ_mul] at hc1; omega) (by rw [Nat.succ_mul] at hs1; omega) H locs ls hP hD hS hl
set_option maxRecDepth 100000 in
set_option maxHeartbeats 4000000 in
theorem c215_Lists_firstLoss (l : Launch) (z : Zz) (a0 a1 a2 a3 a4 a5 a6 a7 a8 a9 a10 a11 a12 a13 a14 : Nat) (x0 : Int32) (h0 : ¬ 60 < x0) : CT l z ⟨"Ballothall$Lists", "firstLoss", "(I)I"⟩ prog_9_method_10_code 4 (some .int) [.ref a0, .int x0] [(a0, .inr (7, [.int 0, .ref a1, .ref a2, .ref a3, .ref a4, .ref a5, .int 0, .ref a6, .ref a7, .ref a8, .int 0])), (a4, .inr (4, [.int 0, .int 0, .ref a9, .ref a10, .ref a11, .ref a12, .ref a13, .ref a14])), (a6, .inl (z.2 0, 8, .inl (fun _ => 0))), (a7, .inl (z.2 0, 8, .inl (fun _ => 0)))] 3 85 0 0 (fun u => some (.int (-1))) (fun u => [(a0, .inr (7, [.int 0, .ref a1, .ref a2, .ref a3, .ref a4, .ref a5, .int 0, .ref a6, .ref a7, .ref a8, .int 0])), (a4, .inr (4, [.int 0, .int 0, .ref a9, .ref a10, .ref a11, .ref a12, .ref a13, .ref a14])), (a6, .inl (z.2 0, 8, .inl (fun _ => 0))), (a7, .inl (z.2 0, 8, .inl (fun _ => 0)))]) := by
  refine CT.of (own := "Ballothall$Lists") (by decide +kernel) (Nat.le_of_ble_eq_true rfl) rfl (fun p e s m below meth c A ls hx hb hml hr hts hown hlocks hin hA hG hZ hP hD hS hl => ?_)
  have hl : lv_has ls 4 [(0, .ref a0), (1, .int x0)] := hl
  refine lv_aload_n hx hb d_9_10_0 rfl (lv_at hl 0 rfl) ?_
  refine lv_iconst (v := 5) hx hb d_9_10_1 (by decide +kernel) ?_
  refine lv_iconst (v := 1) hx hb d_9_10_2 (by decide +kernel) ?_
  refine lv_iconst (v := 0) hx hb d_9_10_3 (by decide +kernel) ?_
  refine kV (As := [.int 5, .int 1, .int 0]) (rest := []) (wr := [(a7, .inl (z.2 0, 8, .inl (fun _ => 0)))]) (c210_Lists_spread l z a0 a1 a2 a3 a4 a5 a6 a7 a8 a9 a10 a11 a12 a13 a14) hx hb hml hown hts w_1002 w_1110 w_1001 w_s_de34cc w_5 md_9eb116 ⟨Nat.le_of_ble_eq_true rfl, Nat.le_of_ble_eq_true rfl⟩ hG hZ hP hD hS hA 0 rfl rfl rfl [0, 1, 2] [3] rfl rfl rfl rfl rfl hl.1 rfl (Nat.le_of_ble_eq_true rfl) d_9_10_4 ⟨Nat.le_of_ble_eq_true rfl, Nat.le_of_ble_eq_true rfl⟩ (fun u0 H locs hP hD hS => ?_)
  have hP : va_P z.1 classes [(a7, .inl (z.2 0, 8, .inl (fun _ => 0))), (a0, .inr (7, [.int 0, .ref a1, .ref a2, .ref a3, .ref a4, .ref a5, .int 0, .ref a6, .ref a7, .ref a8, .int 0])), (a4, .inr (4, [.int 0, .int 0, .ref a9, .ref a10, .ref a11, .ref a12, .ref a13, .ref a14])), (a6, .inl (z.2 0, 8, .inl (fun _ => 0)))] H := hP
  have hD : va_D A [(a7, .inl (z.2 0, 8, .inl (fun _ => 0))), (a0, .inr (7, [.int 0, .ref a1, .ref a2, .ref a3, .ref a4, .ref a5, .int 0, .ref a6, .ref a7, .ref a8, .int 0])), (a4, .inr (4, [.int 0, .int 0, .ref a9, .ref a10, .ref a11, .ref a12, .ref a13, .ref a14])), (a6, .inl (z.2 0, 8, .inl (fun _ => 0)))] := hD
  refine W.eq (g2 := F0 m 7 ls [.int 0]) rfl ?_
  refine lv_pop hx hb d_9_10_7 rfl ?_
  refine lv_iconst (v := 1) hx hb d_9_10_8 (by decide +kernel) ?_
  refine lv_istore_n (lv' := [(2, .int 1), (0, .ref a0), (1, .int x0)]) hx hb d_9_10_9 rfl hl (by decide) rfl (fun ls hl => ?_)
  have hl := lv_sub (l' := [(0, .ref a0), (1, .int x0), (2, .int (nI 1))]) hl [1, 2, 0] rfl
  refine W.widen (k := 0) (n := 0) (Nat.le_of_ble_eq_true rfl) (Nat.le_of_ble_eq_true rfl) ?_
  refine l214_firstLoss l z a0 a1 a10 a11 a12 a13 a14 a2 a3 a4 a5 a6 a7 a8 a9 x0 h0 hx hb hml hts hown hA hG hZ (fun HV hL H locs ls hP hD hS hl => ?_) 61 1 0 0 rfl (Nat.le_of_ble_eq_true rfl) (Nat.le_of_ble_eq_true rfl) _ _ _ hP hD hS hl
  refine lv_iload_n hx hb d_9_10_10 rfl (lv_at hl 2 rfl) ?_
  refine lv_iload_n hx hb d_9_10_11 rfl (lv_at hl 1 rfl) ?_
  refine lv_icmp_gt (tgt := 79) hx hb d_9_10_12 (by decide) (fun _ => ?_) (fun c9 => absurd hL c9)
  refine lv_iconst (v := (-1)) hx hb d_9_10_79 (by decide +kernel) ?_
  refine W.widen (k := 0) (n := 0) (Nat.le_of_ble_eq_true rfl) (Nat.le_of_ble_eq_true rfl) ?_
  exact W.iret hx hb hr (fun t ht hW => qk hP hD hS [1, 2, 3, 0] rfl ((fun k => k), (fun _ _ => none)) rfl rfl rfl ht) hS.2.2 d_9_10_80
set_option maxRecDepth 100000 in
set_option maxHeartbeats 4000000 in
theorem c216_B_lossAt (l : Launch) (z : Zz) (a0 a1 a2 a3 a4 a5 a6 a7 a8 a9 a10 a11 a12 a13 a14 a15 a16 a17 a18 a19 a20 a21 a22 a23 a24 a25 : Nat) (x0 : Int32) (h0 : ¬ x0 < 1) (h1 : ¬ 60 < x0) : CT l z ⟨"Ballothall", "lossAt", "(I)I"⟩ prog_1_method_16_code 2 (some .int) [.ref a0, .int x0] [(a0, .inr (11, [.ref a1, .ref a2, .ref a3, .ref a4, .ref a5, .ref a6, .ref a7, .ref a8, .ref a9, .ref a10, .int 0, .int 0, .ref a11, .int 0])), (a4, .inr (7, [.int 0, .ref a12, .ref a13, .ref a14, .ref a15, .ref a16, .int 0, .ref a17, .ref a18, .ref a19, .int 0])), (a15, .inr (4, [.int 0, .int 0, .ref a20, .ref a21, .ref a22, .ref a23, .ref a24, .ref a25])), (a17, .inl (z.2 0, 8, .inl (fun _ => 0))), (a18, .inl (z.2 0, 8, .inl (fun _ => 0)))] 4 116 0 0 (fun u => some (.int (-1))) (fun u => [(a0, .inr (11, [.ref a1, .ref a2, .ref a3, .ref a4, .ref a5, .ref a6, .ref a7, .ref a8, .ref a9, .ref a10, .int 0, .int 0, .ref a11, .int 0])), (a4, .inr (7, [.int 0, .ref a12, .ref a13, .ref a14, .ref a15, .ref a16, .int 0, .ref a17, .ref a18, .ref a19, .int 0])), (a15, .inr (4, [.int 0, .int 0, .ref a20, .ref a21, .ref a22, .ref a23, .ref a24, .ref a25])), (a17, .inl (z.2 0, 8, .inl (fun _ => 0))), (a18, .inl (z.2 0, 8, .inl (fun _ => 0)))]) := by
  refine CT.of (own := "Ballothall") (by decide +kernel) (Nat.le_of_ble_eq_true rfl) rfl (fun p e s m below meth c A ls hx hb hml hr hts hown hlocks hin hA hG hZ hP hD hS hl => ?_)
  have hl : lv_has ls 2 [(0, .ref a0), (1, .int x0)] := hl
  refine lv_iload_n hx hb d_1_16_0 rfl (lv_at hl 1 rfl) ?_
  refine lv_iconst (v := 1) hx hb d_1_16_1 (by decide +kernel) ?_
  refine lv_bipush (v := 60) hx hb d_1_16_2 (by decide +kernel) ?_
  refine kS (As := [.int x0, .int 1, .int 60]) (rest := []) (wr := [(a0, .inr (11, [.ref a1, .ref a2, .ref a3, .ref a4, .ref a5, .ref a6, .ref a7, .ref a8, .ref a9, .ref a10, .int 0, .int 0, .ref a11, .int 0])), (a4, .inr (7, [.int 0, .ref a12, .ref a13, .ref a14, .ref a15, .ref a16, .int 0, .ref a17, .ref a18, .ref a19, .int 0])), (a15, .inr (4, [.int 0, .int 0, .ref a20, .ref a21, .ref a22, .ref a23, .ref a24, .ref a25])), (a17, .inl (z.2 0, 8, .inl (fun _ => 0))), (a18, .inl (z.2 0, 8, .inl (fun _ => 0)))]) (c162_B_needRange l z x0 h0 h1) hx hb hml hown hts w_876 w_874 w_875 w_1 md_519134 ⟨Nat.le_of_ble_eq_true rfl, Nat.le_of_ble_eq_true rfl⟩ hG hZ hP hD hS hA [] [0, 1, 2, 3, 4] rfl rfl rfl rfl rfl hl.1 rfl (Nat.le_of_ble_eq_true rfl) d_1_16_4 ⟨Nat.le_of_ble_eq_true rfl, Nat.le_of_ble_eq_true rfl⟩ (fun u0 H locs hP hD hS => ?_)
  have hP : va_P z.1 classes [(a0, .inr (11, [.ref a1, .ref a2, .ref a3, .ref a4, .ref a5, .ref a6, .ref a7, .ref a8, .ref a9, .ref a10, .int 0, .int 0, .ref a11, .int 0])), (a4, .inr (7, [.int 0, .ref a12, .ref a13, .ref a14, .ref a15, .ref a16, .int 0, .ref a17, .ref a18, .ref a19, .int 0])), (a15, .inr (4, [.int 0, .int 0, .ref a20, .ref a21, .ref a22, .ref a23, .ref a24, .ref a25])), (a17, .inl (z.2 0, 8, .inl (fun _ => 0))), (a18, .inl (z.2 0, 8, .inl (fun _ => 0)))] H := hP
  have hD : va_D A [(a0, .inr (11, [.ref a1, .ref a2, .ref a3, .ref a4, .ref a5, .ref a6, .ref a7, .ref a8, .ref a9, .ref a10, .int 0, .int 0, .ref a11, .int 0])), (a4, .inr (7, [.int 0, .ref a12, .ref a13, .ref a14, .ref a15, .ref a16, .int 0, .ref a17, .ref a18, .ref a19, .int 0])), (a15, .inr (4, [.int 0, .int 0, .ref a20, .ref a21, .ref a22, .ref a23, .ref a24, .ref a25])), (a17, .inl (z.2 0, 8, .inl (fun _ => 0))), (a18, .inl (z.2 0, 8, .inl (fun _ => 0)))] := hD
  refine W.eq (g2 := F0 m 7 ls []) rfl ?_
  refine lv_aload_n hx hb d_1_16_7 rfl (lv_at hl 0 rfl) ?_
  refine va_get (D := z.1) (ci := 11) (v := .ref a4) (C := "Ballothall") (T := TX11) (N := 14) hx hb hts iX11 hown hG.1 hP 0 rfl rfl 3 (by decide) (hts _ w_409) (fun _ h9 => h9) rfl d_1_16_8 ?_
  refine lv_iload_n hx hb d_1_16_11 rfl (lv_at hl 1 rfl) ?_
  refine kVN (As := [.int x0]) (rest := []) (wr := [(a0, .inr (11, [.ref a1, .ref a2, .ref a3, .ref a4, .ref a5, .ref a6, .ref a7, .ref a8, .ref a9, .ref a10, .int 0, .int 0, .ref a11, .int 0]))]) (c215_Lists_firstLoss l z a4 a12 a13 a14 a15 a16 a17 a18 a19 a20 a21 a22 a23 a24 a25 x0 h1) hx hb hml hown hts w_1109 n_1106 w_1108 w_s_c818bc w_5 md_4a20a6 ⟨Nat.le_of_ble_eq_true rfl, Nat.le_of_ble_eq_true rfl⟩ hG hZ hP hD hS hA 1 rfl rfl rfl [1, 2, 3, 4] [0] rfl rfl rfl rfl rfl hl.1 rfl (Nat.le_of_ble_eq_true rfl) d_1_16_12 ⟨Nat.le_of_ble_eq_true rfl, Nat.le_of_ble_eq_true rfl⟩ (fun u1 H locs hP hD hS => ?_)
  have hP : va_P z.1 classes [(a0, .inr (11, [.ref a1, .ref a2, .ref a3, .ref a4, .ref a5, .ref a6, .ref a7, .ref a8, .ref a9, .ref a10, .int 0, .int 0, .ref a11, .int 0])), (a4, .inr (7, [.int 0, .ref a12, .ref a13, .ref a14, .ref a15, .ref a16, .int 0, .ref a17, .ref a18, .ref a19, .int 0])), (a15, .inr (4, [.int 0, .int 0, .ref a20, .ref a21, .ref a22, .ref a23, .ref a24, .ref a25])), (a17, .inl (z.2 0, 8, .inl (fun _ => 0))), (a18, .inl (z.2 0, 8, .inl (fun _ => 0)))] H := hP
  have hD : va_D A [(a0, .inr (11, [.ref a1, .ref a2, .ref a3, .ref a4, .ref a5, .ref a6, .ref a7, .ref a8, .ref a9, .ref a10, .int 0, .int 0, .ref a11, .int 0])), (a4, .inr (7, [.int 0, .ref a12, .ref a13, .ref a14, .ref a15, .ref a16, .int 0, .ref a17, .ref a18, .ref a19, .int 0])), (a15, .inr (4, [.int 0, .int 0, .ref a20, .ref a21, .ref a22, .ref a23, .ref a24, .ref a25])), (a17, .inl (z.2 0, 8, .inl (fun _ => 0))), (a18, .inl (z.2 0, 8, .inl (fun _ => 0)))] := hD
  refine W.eq (g2 := F0 m 15 ls [.int (-1)]) rfl ?_
  refine W.widen (k := 0) (n := 0) (Nat.le_of_ble_eq_true rfl) (Nat.le_of_ble_eq_true rfl) ?_
  exact W.iret hx hb hr (fun t ht hW => qk hP hD hS [0, 1, 2, 3, 4] rfl ((fun k => k), (fun _ _ => none)) rfl rfl rfl ht) hS.2.2 d_1_16_15
set_option maxRecDepth 100000 in
set_option maxHeartbeats 4000000 in
theorem c217_BLaw_lossAt (l : Launch) (z : Zz) (a0 a1 a2 a3 a4 a5 a6 a7 a8 a9 a10 a11 a12 a13 a14 a15 a16 a17 a18 a19 a20 a21 a22 a23 a24 a25 a26 : Nat) (x0 : Int32) (h0 : ¬ x0 < 1) (h1 : ¬ 60 < x0) : HT l z ⟨"BallothallLaw", "lossAt", "(LBallothall;I[J)I"⟩ method_16_code 4 (some .int) [(0, 9, 12, 21)] [.ref a0, .int x0, .ref a1] [(a0, .inr (11, [.ref a2, .ref a3, .ref a4, .ref a5, .ref a6, .ref a7, .ref a8, .ref a9, .ref a10, .ref a11, .int 0, .int 0, .ref a12, .int 0])), (a5, .inr (7, [.int 0, .ref a13, .ref a14, .ref a15, .ref a16, .ref a17, .int 0, .ref a18, .ref a19, .ref a20, .int 0])), (a16, .inr (4, [.int 0, .int 0, .ref a21, .ref a22, .ref a23, .ref a24, .ref a25, .ref a26])), (a18, .inl (z.2 0, 8, .inl (fun _ => 0))), (a19, .inl (z.2 0, 8, .inl (fun _ => 0))), (a1, .inl (z.2 1, 1, .inr (.inl (fun _ => 0))))] 5 145 0 0 (fun u => some (.int 0)) (fun u => [(a0, .inr (11, [.ref a2, .ref a3, .ref a4, .ref a5, .ref a6, .ref a7, .ref a8, .ref a9, .ref a10, .ref a11, .int 0, .int 0, .ref a12, .int 0])), (a5, .inr (7, [.int 0, .ref a13, .ref a14, .ref a15, .ref a16, .ref a17, .int 0, .ref a18, .ref a19, .ref a20, .int 0])), (a16, .inr (4, [.int 0, .int 0, .ref a21, .ref a22, .ref a23, .ref a24, .ref a25, .ref a26])), (a18, .inl (z.2 0, 8, .inl (fun _ => 0))), (a19, .inl (z.2 0, 8, .inl (fun _ => 0))), (a1, .inl (z.2 1, 1, .inr (.inl (vp_updL (fun _ => 0) 0 (-1)))))]) := by
  refine HT.of (own := "BallothallLaw") (by decide +kernel) (Nat.le_of_ble_eq_true rfl) rfl (fun p e s m below meth c A ls hx hb hml hr hts hown hlocks hin hA hG hZ hP hD hS hl htab => ?_)
  have hl : lv_has ls 4 [(0, .ref a0), (1, .int x0), (2, .ref a1)] := hl
  refine lv_aload_n hx hb d_L16_0 rfl (lv_at hl 2 rfl) ?_
  refine lv_iconst (v := 0) hx hb d_L16_1 (by decide +kernel) ?_
  refine lv_aload_n hx hb d_L16_2 rfl (lv_at hl 0 rfl) ?_
  refine lv_iload_n hx hb d_L16_3 rfl (lv_at hl 1 rfl) ?_
  refine kV (As := [.int x0]) (rest := [.int 0, .ref a1]) (wr := [(a1, .inl (z.2 1, 1, .inr (.inl (fun _ => 0))))]) (c216_B_lossAt l z a0 a2 a3 a4 a5 a6 a7 a8 a9 a10 a11 a12 a13 a14 a15 a16 a17 a18 a19 a20 a21 a22 a23 a24 a25 a26 x0 h0 h1) hx hb hml hown hts w_1105 w_1102 w_1103 w_1104 w_1 md_aede32 ⟨Nat.le_of_ble_eq_true rfl, Nat.le_of_ble_eq_true rfl⟩ hG hZ hP hD hS hA 0 rfl rfl rfl [0, 1, 2, 3, 4] [5] rfl rfl rfl rfl rfl hl.1 rfl (Nat.le_of_ble_eq_true rfl) d_L16_4 ⟨Nat.le_of_ble_eq_true rfl, Nat.le_of_ble_eq_true rfl⟩ (fun u0 H locs hP hD hS => ?_)
  have hP : va_P z.1 classes [(a1, .inl (z.2 1, 1, .inr (.inl (fun _ => 0)))), (a0, .inr (11, [.ref a2, .ref a3, .ref a4, .ref a5, .ref a6, .ref a7, .ref a8, .ref a9, .ref a10, .ref a11, .int 0, .int 0, .ref a12, .int 0])), (a5, .inr (7, [.int 0, .ref a13, .ref a14, .ref a15, .ref a16, .ref a17, .int 0, .ref a18, .ref a19, .ref a20, .int 0])), (a16, .inr (4, [.int 0, .int 0, .ref a21, .ref a22, .ref a23, .ref a24, .ref a25, .ref a26])), (a18, .inl (z.2 0, 8, .inl (fun _ => 0))), (a19, .inl (z.2 0, 8, .inl (fun _ => 0)))] H := hP
  have hD : va_D A [(a1, .inl (z.2 1, 1, .inr (.inl (fun _ => 0)))), (a0, .inr (11, [.ref a2, .ref a3, .ref a4, .ref a5, .ref a6, .ref a7, .ref a8, .ref a9, .ref a10, .ref a11, .int 0, .int 0, .ref a12, .int 0])), (a5, .inr (7, [.int 0, .ref a13, .ref a14, .ref a15, .ref a16, .ref a17, .int 0, .ref a18, .ref a19, .ref a20, .int 0])), (a16, .inr (4, [.int 0, .int 0, .ref a21, .ref a22, .ref a23, .ref a24, .ref a25, .ref a26])), (a18, .inl (z.2 0, 8, .inl (fun _ => 0))), (a19, .inl (z.2 0, 8, .inl (fun _ => 0)))] := hD
  refine W.eq (g2 := F0 m 7 ls [.int (-1), .int 0, .ref a1]) rfl ?_
  refine lv_i2l (v := (-1)) hx hb d_L16_7 (by decide +kernel) ?_
  refine va_last hx hb hG.1 hP hD hS 0 1 rfl rfl (vin rfl) d_L16_8 (fun H locs hP hD hS => ?_)
  have hP : va_P z.1 classes [(a1, .inl (z.2 1, 1, .inr (.inl (vp_updL (fun _ => 0) 0 (-1))))), (a0, .inr (11, [.ref a2, .ref a3, .ref a4, .ref a5, .ref a6, .ref a7, .ref a8, .ref a9, .ref a10, .ref a11, .int 0, .int 0, .ref a12, .int 0])), (a5, .inr (7, [.int 0, .ref a13, .ref a14, .ref a15, .ref a16, .ref a17, .int 0, .ref a18, .ref a19, .ref a20, .int 0])), (a16, .inr (4, [.int 0, .int 0, .ref a21, .ref a22, .ref a23, .ref a24, .ref a25, .ref a26])), (a18, .inl (z.2 0, 8, .inl (fun _ => 0))), (a19, .inl (z.2 0, 8, .inl (fun _ => 0)))] H := hP
  have hD : va_D A [(a1, .inl (z.2 1, 1, .inr (.inl (vp_updL (fun _ => 0) 0 (-1))))), (a0, .inr (11, [.ref a2, .ref a3, .ref a4, .ref a5, .ref a6, .ref a7, .ref a8, .ref a9, .ref a10, .ref a11, .int 0, .int 0, .ref a12, .int 0])), (a5, .inr (7, [.int 0, .ref a13, .ref a14, .ref a15, .ref a16, .ref a17, .int 0, .ref a18, .ref a19, .ref a20, .int 0])), (a16, .inr (4, [.int 0, .int 0, .ref a21, .ref a22, .ref a23, .ref a24, .ref a25, .ref a26])), (a18, .inl (z.2 0, 8, .inl (fun _ => 0))), (a19, .inl (z.2 0, 8, .inl (fun _ => 0)))] := hD
  refine lv_goto (tgt := 15) hx hb d_L16_9 (by decide) ?_
  refine lv_iconst (v := 0) hx hb d_L16_15 (by decide +kernel) ?_
  refine W.widen (k := 0) (n := 0) (Nat.le_of_ble_eq_true rfl) (Nat.le_of_ble_eq_true rfl) ?_
  refine vx_ret ?_
  exact W.iret hx hb hr (fun t ht hW => qk hP hD hS [1, 2, 3, 4, 5, 0] rfl ((fun k => k), (fun _ _ => none)) rfl rfl rfl ht) hS.2.2 d_L16_16
set_option maxRecDepth 100000 in
set_option maxHeartbeats 4000000 in
theorem c218_Sharing_share (l : Launch) (z : Zz) (a0 a1 a2 a3 a4 a5 : Nat) : CT l z ⟨"BallothallModel$Sharing", "share", "(II)V"⟩ prog_19_method_4_code 9 none [.ref a0, .int 5, .int 1] [(a0, .inr (16, [.int 0, .ref a1, .ref a2, .ref a3, .ref a4, .ref a5, .int 0]))] 0 0 0 0 (fun u => none) (fun u => [(a0, .inr (16, [.int 0, .ref a1, .ref a2, .ref a3, .ref a4, .ref a5, .int 0]))]) := by
  refine CT.of (own := "BallothallModel$Sharing") (by decide +kernel) (Nat.le_of_ble_eq_true rfl) rfl (fun p e s m below meth c A ls hx hb hml hr hts hown hlocks hin hA hG hZ hP hD hS hl => ?_)
  have hl : lv_has ls 9 [(0, .ref a0), (1, .int 5), (2, .int 1)] := hl
  refine lv_aload_n hx hb d_19_4_0 rfl (lv_at hl 0 rfl) ?_
  refine va_get (D := z.1) (ci := 16) (v := .int 0) (C := "BallothallModel$Sharing") (T := TX16) (N := 7) hx hb hts iX16 hown hG.1 hP 0 rfl rfl 0 (by decide) (hts _ w_1871) (fun _ h9 => h9) rfl d_19_4_1 ?_
  refine lv_if_ne (tgt := 8) hx hb d_19_4_4 (by decide) (fun c9 => absurd (by decide +kernel) c9) (fun _ => ?_)
  refine W.widen (k := 0) (n := 0) (Nat.le_of_ble_eq_true rfl) (Nat.le_of_ble_eq_true rfl) ?_
  exact W.vret hx hb hr (fun t ht hW => qk hP hD hS [0] rfl ((fun k => k), (fun _ _ => none)) rfl rfl rfl ht) hS.2.2 d_19_4_7
set_option maxRecDepth 100000 in
set_option maxHeartbeats 4000000 in
theorem c219_BModel_distributed (l : Launch) (z : Zz) (a0 a1 a2 : Nat) : CT l z ⟨"BallothallModel", "distributed", "([I[I[IIII)LBallothallModel$Seats;"⟩ prog_14_method_15_code 25 (some (.object "BallothallModel$Seats")) [.ref a0, .ref a1, .ref a2, .int 5, .int 1, .int 0] [(a0, .inl (z.2 0, 0, .inl (fun _ => 0)))] 2 52 12 144 (fun u => some (.ref (u.1 0))) (fun u => [(a0, .inl (z.2 0, 0, .inl (fun _ => 0)))]) := by
  refine CT.of (own := "BallothallModel") (by decide +kernel) (Nat.le_of_ble_eq_true rfl) rfl (fun p e s m below meth c A ls hx hb hml hr hts hown hlocks hin hA hG hZ hP hD hS hl => ?_)
  have hl : lv_has ls 25 [(0, .ref a0), (1, .ref a1), (2, .ref a2), (3, .int 5), (4, .int 1), (5, .int 0)] := hl
  refine lv_aload_n hx hb d_14_15_0 rfl (lv_at hl 0 rfl) ?_
  refine va_alen (v := 0) hx hb hG.1 hP 0 0 rfl rfl rfl d_14_15_1 ?_
  refine lv_istore (lv' := [(6, .int 0), (0, .ref a0), (1, .ref a1), (2, .ref a2), (3, .int 5), (4, .int 1), (5, .int 0)]) hx hb d_14_15_2 hl (by decide) rfl (fun ls hl => ?_)
  refine va_new (ci := 15) (fs := [.null, .null, .null, .null, .int 0, .int 0, .int 0]) (C := "BallothallModel$Seats") (T := TX15) (N := 7) hx hb hts iX15 tyX15 tyX15_ok hown (hts _ w_1832) (hts _ w_1833) (hts _ w_24) hG.1 hP hD hS hA rfl fsX15 (Nat.le_of_ble_eq_true rfl) (Nat.le_of_ble_eq_true rfl) d_14_15_4 (fun q0 H hP hD hS => ?_)
  have hP : va_P z.1 classes [(a0, .inl (z.2 0, 0, .inl (fun _ => 0))), (q0, .inr (15, [.null, .null, .null, .null, .int 0, .int 0, .int 0]))] H := hP
  have hD : va_D A [(a0, .inl (z.2 0, 0, .inl (fun _ => 0))), (q0, .inr (15, [.null, .null, .null, .null, .int 0, .int 0, .int 0]))] := hD
  refine lv_dup hx hb d_14_15_7 rfl ?_
  refine lv_aload_n hx hb d_14_15_8 rfl (lv_at hl 1 rfl) ?_
  refine lv_aload_n hx hb d_14_15_9 rfl (lv_at hl 2 rfl) ?_
  refine kI (As := [.ref a0, .ref a1]) (rest := [.ref q0]) (wr := [(a0, .inl (z.2 0, 0, .inl (fun _ => 0)))]) (c183_Seats_init l z q0 a0 a1) hx hb hml hown hts w_1836 w_1834 w_1835 rfl w_24 md_0cda89 ⟨Nat.le_of_ble_eq_true rfl, Nat.le_of_ble_eq_true rfl⟩ hG hZ hP hD hS hA [1] [0] rfl rfl rfl rfl rfl hl.1 rfl (Nat.le_of_ble_eq_true rfl) d_14_15_10 ⟨Nat.le_of_ble_eq_true rfl, Nat.le_of_ble_eq_true rfl⟩ (fun u0 H locs hP hD hS => ?_)
  have hP : va_P z.1 classes [(a0, .inl (z.2 0, 0, .inl (fun _ => 0))), (q0, .inr (15, [.ref a0, .ref a1, .ref (u0.1 0), .ref (u0.1 1), .int 0, .int 0, .int 0]))] H := hP
  have hD : va_D A [(a0, .inl (z.2 0, 0, .inl (fun _ => 0))), (q0, .inr (15, [.ref a0, .ref a1, .ref (u0.1 0), .ref (u0.1 1), .int 0, .int 0, .int 0]))] := hD
  refine W.eq (g2 := F0 m 13 ls [.ref q0]) rfl ?_
  refine lv_astore (lv' := [(7, .ref q0), (6, .int 0), (0, .ref a0), (1, .ref a1), (2, .ref a2), (3, .int 5), (4, .int 1), (5, .int 0)]) hx hb d_14_15_13 hl (by decide) rfl (fun ls hl => ?_)
  refine lv_lconst (v := 0) hx hb d_14_15_15 (by decide +kernel) ?_
  refine lv_lstore (lv' := [(8, .long 0), (7, .ref q0), (6, .int 0), (0, .ref a0), (1, .ref a1), (2, .ref a2), (3, .int 5), (4, .int 1), (5, .int 0)]) hx hb d_14_15_16 hl (by decide) rfl (fun ls hl => ?_)
  refine lv_aload_n hx hb d_14_15_18 rfl (lv_at hl 3 rfl) ?_
  refine lv_astore (lv' := [(10, .ref a0), (8, .long 0), (7, .ref q0), (6, .int 0), (0, .ref a0), (1, .ref a1), (2, .ref a2), (3, .int 5), (4, .int 1), (5, .int 0)]) hx hb d_14_15_19 hl (by decide) rfl (fun ls hl => ?_)
  refine lv_aload hx hb d_14_15_21 (lv_at hl 0 rfl) ?_
  refine va_alen (v := 0) hx hb hG.1 hP 0 0 rfl rfl rfl d_14_15_23 ?_
  refine lv_istore (lv' := [(11, .int 0), (10, .ref a0), (8, .long 0), (7, .ref q0), (6, .int 0), (0, .ref a0), (1, .ref a1), (2, .ref a2), (3, .int 5), (4, .int 1), (5, .int 0)]) hx hb d_14_15_24 hl (by decide) rfl (fun ls hl => ?_)
  refine lv_iconst (v := 0) hx hb d_14_15_26 (by decide +kernel) ?_
  refine lv_istore (lv' := [(12, .int 0), (11, .int 0), (10, .ref a0), (8, .long 0), (7, .ref q0), (6, .int 0), (0, .ref a0), (1, .ref a1), (2, .ref a2), (3, .int 5), (4, .int 1), (5, .int 0)]) hx hb d_14_15_27 hl (by decide) rfl (fun ls hl => ?_)
  refine lv_iload hx hb d_14_15_29 (lv_at hl 0 rfl) ?_
  refine lv_iload hx hb d_14_15_31 (lv_at hl 1 rfl) ?_
  refine lv_icmp_ge (tgt := 57) hx hb d_14_15_33 (by decide) (fun _ => ?_) (fun c9 => absurd (by decide +kernel) c9)
  refine lv_iload hx hb d_14_15_57 (lv_at hl 5 rfl) ?_
  refine va_newa (atype := .int) (N' := 0) (a0 := (0, .inl (fun _ => 0))) hx hb (hts _ w_105) rfl hG.1 hP hD hS hA (fun _ => rfl) (by decide +kernel) (by decide +kernel) (Nat.le_of_ble_eq_true rfl) (Nat.le_of_ble_eq_true rfl) (Nat.le_of_ble_eq_true rfl) d_14_15_59 (fun q1 cA9 H hK9 hP hD hS => ?_)
  obtain rfl := ty_eq0 hK9
  clear hK9
  have hP : va_P z.1 classes [(a0, .inl (z.2 0, 0, .inl (fun _ => 0))), (q0, .inr (15, [.ref a0, .ref a1, .ref (u0.1 0), .ref (u0.1 1), .int 0, .int 0, .int 0])), (q1, .inl (z.2 0, 0, .inl (fun _ => 0)))] H := hP
  have hD : va_D A [(a0, .inl (z.2 0, 0, .inl (fun _ => 0))), (q0, .inr (15, [.ref a0, .ref a1, .ref (u0.1 0), .ref (u0.1 1), .int 0, .int 0, .int 0])), (q1, .inl (z.2 0, 0, .inl (fun _ => 0)))] := hD
  refine lv_astore (lv' := [(10, .ref q1), (12, .int 0), (11, .int 0), (8, .long 0), (7, .ref q0), (6, .int 0), (0, .ref a0), (1, .ref a1), (2, .ref a2), (3, .int 5), (4, .int 1), (5, .int 0)]) hx hb d_14_15_61 hl (by decide) rfl (fun ls hl => ?_)
  refine lv_iload hx hb d_14_15_63 (lv_at hl 5 rfl) ?_
  refine va_newa (atype := .long) (N' := 0) (a0 := (0, .inr (.inl (fun _ => 0)))) hx hb (hts _ w_152) rfl hG.1 hP hD hS hA (fun _ => rfl) (by decide +kernel) (by decide +kernel) (Nat.le_of_ble_eq_true rfl) (Nat.le_of_ble_eq_true rfl) (Nat.le_of_ble_eq_true rfl) d_14_15_65 (fun q2 cA9 H hK9 hP hD hS => ?_)
  obtain rfl := ty_eq1 hK9
  clear hK9
  have hP : va_P z.1 classes [(a0, .inl (z.2 0, 0, .inl (fun _ => 0))), (q0, .inr (15, [.ref a0, .ref a1, .ref (u0.1 0), .ref (u0.1 1), .int 0, .int 0, .int 0])), (q1, .inl (z.2 0, 0, .inl (fun _ => 0))), (q2, .inl (z.2 1, 0, .inr (.inl (fun _ => 0))))] H := hP
  have hD : va_D A [(a0, .inl (z.2 0, 0, .inl (fun _ => 0))), (q0, .inr (15, [.ref a0, .ref a1, .ref (u0.1 0), .ref (u0.1 1), .int 0, .int 0, .int 0])), (q1, .inl (z.2 0, 0, .inl (fun _ => 0))), (q2, .inl (z.2 1, 0, .inr (.inl (fun _ => 0))))] := hD
  refine lv_astore (lv' := [(11, .ref q2), (10, .ref q1), (12, .int 0), (8, .long 0), (7, .ref q0), (6, .int 0), (0, .ref a0), (1, .ref a1), (2, .ref a2), (3, .int 5), (4, .int 1), (5, .int 0)]) hx hb d_14_15_67 hl (by decide) rfl (fun ls hl => ?_)
  refine lv_iload hx hb d_14_15_69 (lv_at hl 5 rfl) ?_
  refine va_newa (atype := .int) (N' := 0) (a0 := (0, .inl (fun _ => 0))) hx hb (hts _ w_105) rfl hG.1 hP hD hS hA (fun _ => rfl) (by decide +kernel) (by decide +kernel) (Nat.le_of_ble_eq_true rfl) (Nat.le_of_ble_eq_true rfl) (Nat.le_of_ble_eq_true rfl) d_14_15_71 (fun q3 cA9 H hK9 hP hD hS => ?_)
  obtain rfl := ty_eq0 hK9
  clear hK9
  have hP : va_P z.1 classes [(a0, .inl (z.2 0, 0, .inl (fun _ => 0))), (q0, .inr (15, [.ref a0, .ref a1, .ref (u0.1 0), .ref (u0.1 1), .int 0, .int 0, .int 0])), (q1, .inl (z.2 0, 0, .inl (fun _ => 0))), (q2, .inl (z.2 1, 0, .inr (.inl (fun _ => 0)))), (q3, .inl (z.2 0, 0, .inl (fun _ => 0)))] H := hP
  have hD : va_D A [(a0, .inl (z.2 0, 0, .inl (fun _ => 0))), (q0, .inr (15, [.ref a0, .ref a1, .ref (u0.1 0), .ref (u0.1 1), .int 0, .int 0, .int 0])), (q1, .inl (z.2 0, 0, .inl (fun _ => 0))), (q2, .inl (z.2 1, 0, .inr (.inl (fun _ => 0)))), (q3, .inl (z.2 0, 0, .inl (fun _ => 0)))] := hD
  refine lv_astore (lv' := [(12, .ref q3), (11, .ref q2), (10, .ref q1), (8, .long 0), (7, .ref q0), (6, .int 0), (0, .ref a0), (1, .ref a1), (2, .ref a2), (3, .int 5), (4, .int 1), (5, .int 0)]) hx hb d_14_15_73 hl (by decide) rfl (fun ls hl => ?_)
  refine lv_iconst (v := 0) hx hb d_14_15_75 (by decide +kernel) ?_
  refine lv_istore (lv' := [(13, .int 0), (12, .ref q3), (11, .ref q2), (10, .ref q1), (8, .long 0), (7, .ref q0), (6, .int 0), (0, .ref a0), (1, .ref a1), (2, .ref a2), (3, .int 5), (4, .int 1), (5, .int 0)]) hx hb d_14_15_76 hl (by decide) rfl (fun ls hl => ?_)
  refine lv_iload hx hb d_14_15_78 (lv_at hl 0 rfl) ?_
  refine lv_iload hx hb d_14_15_80 (lv_at hl 6 rfl) ?_
  refine lv_icmp_ge (tgt := 154) hx hb d_14_15_82 (by decide) (fun _ => ?_) (fun c9 => absurd (by decide +kernel) c9)
  refine lv_iconst (v := 0) hx hb d_14_15_154 (by decide +kernel) ?_
  refine lv_istore (lv' := [(13, .int 0), (12, .ref q3), (11, .ref q2), (10, .ref q1), (8, .long 0), (7, .ref q0), (6, .int 0), (0, .ref a0), (1, .ref a1), (2, .ref a2), (3, .int 5), (4, .int 1), (5, .int 0)]) hx hb d_14_15_155 hl (by decide) rfl (fun ls hl => ?_)
  refine lv_iload hx hb d_14_15_157 (lv_at hl 6 rfl) ?_
  refine va_newa (atype := .long) (N' := 0) (a0 := (0, .inr (.inl (fun _ => 0)))) hx hb (hts _ w_152) rfl hG.1 hP hD hS hA (fun _ => rfl) (by decide +kernel) (by decide +kernel) (Nat.le_of_ble_eq_true rfl) (Nat.le_of_ble_eq_true rfl) (Nat.le_of_ble_eq_true rfl) d_14_15_159 (fun q4 cA9 H hK9 hP hD hS => ?_)
  obtain rfl := ty_eq1 hK9
  clear hK9
  have hP : va_P z.1 classes [(a0, .inl (z.2 0, 0, .inl (fun _ => 0))), (q0, .inr (15, [.ref a0, .ref a1, .ref (u0.1 0), .ref (u0.1 1), .int 0, .int 0, .int 0])), (q1, .inl (z.2 0, 0, .inl (fun _ => 0))), (q2, .inl (z.2 1, 0, .inr (.inl (fun _ => 0)))), (q3, .inl (z.2 0, 0, .inl (fun _ => 0))), (q4, .inl (z.2 1, 0, .inr (.inl (fun _ => 0))))] H := hP
  have hD : va_D A [(a0, .inl (z.2 0, 0, .inl (fun _ => 0))), (q0, .inr (15, [.ref a0, .ref a1, .ref (u0.1 0), .ref (u0.1 1), .int 0, .int 0, .int 0])), (q1, .inl (z.2 0, 0, .inl (fun _ => 0))), (q2, .inl (z.2 1, 0, .inr (.inl (fun _ => 0)))), (q3, .inl (z.2 0, 0, .inl (fun _ => 0))), (q4, .inl (z.2 1, 0, .inr (.inl (fun _ => 0))))] := hD
  refine lv_astore (lv' := [(14, .ref q4), (13, .int 0), (12, .ref q3), (11, .ref q2), (10, .ref q1), (8, .long 0), (7, .ref q0), (6, .int 0), (0, .ref a0), (1, .ref a1), (2, .ref a2), (3, .int 5), (4, .int 1), (5, .int 0)]) hx hb d_14_15_161 hl (by decide) rfl (fun ls hl => ?_)
  refine lv_iload hx hb d_14_15_163 (lv_at hl 7 rfl) ?_
  refine va_newa (atype := .int) (N' := 0) (a0 := (0, .inl (fun _ => 0))) hx hb (hts _ w_105) rfl hG.1 hP hD hS hA (fun _ => rfl) (by decide +kernel) (by decide +kernel) (Nat.le_of_ble_eq_true rfl) (Nat.le_of_ble_eq_true rfl) (Nat.le_of_ble_eq_true rfl) d_14_15_165 (fun q5 cA9 H hK9 hP hD hS => ?_)
  obtain rfl := ty_eq0 hK9
  clear hK9
  have hP : va_P z.1 classes [(a0, .inl (z.2 0, 0, .inl (fun _ => 0))), (q0, .inr (15, [.ref a0, .ref a1, .ref (u0.1 0), .ref (u0.1 1), .int 0, .int 0, .int 0])), (q1, .inl (z.2 0, 0, .inl (fun _ => 0))), (q2, .inl (z.2 1, 0, .inr (.inl (fun _ => 0)))), (q3, .inl (z.2 0, 0, .inl (fun _ => 0))), (q4, .inl (z.2 1, 0, .inr (.inl (fun _ => 0)))), (q5, .inl (z.2 0, 0, .inl (fun _ => 0)))] H := hP
  have hD : va_D A [(a0, .inl (z.2 0, 0, .inl (fun _ => 0))), (q0, .inr (15, [.ref a0, .ref a1, .ref (u0.1 0), .ref (u0.1 1), .int 0, .int 0, .int 0])), (q1, .inl (z.2 0, 0, .inl (fun _ => 0))), (q2, .inl (z.2 1, 0, .inr (.inl (fun _ => 0)))), (q3, .inl (z.2 0, 0, .inl (fun _ => 0))), (q4, .inl (z.2 1, 0, .inr (.inl (fun _ => 0)))), (q5, .inl (z.2 0, 0, .inl (fun _ => 0)))] := hD
  refine lv_astore (lv' := [(15, .ref q5), (14, .ref q4), (13, .int 0), (12, .ref q3), (11, .ref q2), (10, .ref q1), (8, .long 0), (7, .ref q0), (6, .int 0), (0, .ref a0), (1, .ref a1), (2, .ref a2), (3, .int 5), (4, .int 1), (5, .int 0)]) hx hb d_14_15_167 hl (by decide) rfl (fun ls hl => ?_)
  refine lv_iload hx hb d_14_15_169 (lv_at hl 8 rfl) ?_
  refine va_newa (atype := .int) (N' := 0) (a0 := (0, .inl (fun _ => 0))) hx hb (hts _ w_105) rfl hG.1 hP hD hS hA (fun _ => rfl) (by decide +kernel) (by decide +kernel) (Nat.le_of_ble_eq_true rfl) (Nat.le_of_ble_eq_true rfl) (Nat.le_of_ble_eq_true rfl) d_14_15_171 (fun q6 cA9 H hK9 hP hD hS => ?_)
  obtain rfl := ty_eq0 hK9
  clear hK9
  have hP : va_P z.1 classes [(a0, .inl (z.2 0, 0, .inl (fun _ => 0))), (q0, .inr (15, [.ref a0, .ref a1, .ref (u0.1 0), .ref (u0.1 1), .int 0, .int 0, .int 0])), (q1, .inl (z.2 0, 0, .inl (fun _ => 0))), (q2, .inl (z.2 1, 0, .inr (.inl (fun _ => 0)))), (q3, .inl (z.2 0, 0, .inl (fun _ => 0))), (q4, .inl (z.2 1, 0, .inr (.inl (fun _ => 0)))), (q5, .inl (z.2 0, 0, .inl (fun _ => 0))), (q6, .inl (z.2 0, 0, .inl (fun _ => 0)))] H := hP
  have hD : va_D A [(a0, .inl (z.2 0, 0, .inl (fun _ => 0))), (q0, .inr (15, [.ref a0, .ref a1, .ref (u0.1 0), .ref (u0.1 1), .int 0, .int 0, .int 0])), (q1, .inl (z.2 0, 0, .inl (fun _ => 0))), (q2, .inl (z.2 1, 0, .inr (.inl (fun _ => 0)))), (q3, .inl (z.2 0, 0, .inl (fun _ => 0))), (q4, .inl (z.2 1, 0, .inr (.inl (fun _ => 0)))), (q5, .inl (z.2 0, 0, .inl (fun _ => 0))), (q6, .inl (z.2 0, 0, .inl (fun _ => 0)))] := hD
  refine lv_astore (lv' := [(16, .ref q6), (15, .ref q5), (14, .ref q4), (13, .int 0), (12, .ref q3), (11, .ref q2), (10, .ref q1), (8, .long 0), (7, .ref q0), (6, .int 0), (0, .ref a0), (1, .ref a1), (2, .ref a2), (3, .int 5), (4, .int 1), (5, .int 0)]) hx hb d_14_15_173 hl (by decide) rfl (fun ls hl => ?_)
  refine lv_iconst (v := 0) hx hb d_14_15_175 (by decide +kernel) ?_
  refine lv_istore (lv' := [(17, .int 0), (16, .ref q6), (15, .ref q5), (14, .ref q4), (13, .int 0), (12, .ref q3), (11, .ref q2), (10, .ref q1), (8, .long 0), (7, .ref q0), (6, .int 0), (0, .ref a0), (1, .ref a1), (2, .ref a2), (3, .int 5), (4, .int 1), (5, .int 0)]) hx hb d_14_15_176 hl (by decide) rfl (fun ls hl => ?_)
  refine lv_iload hx hb d_14_15_178 (lv_at hl 0 rfl) ?_
  refine lv_iload hx hb d_14_15_180 (lv_at hl 10 rfl) ?_
  refine lv_icmp_ge (tgt := 283) hx hb d_14_15_182 (by decide) (fun _ => ?_) (fun c9 => absurd (by decide +kernel) c9)
  refine lv_aload hx hb d_14_15_283 (lv_at hl 9 rfl) ?_
  refine lv_iload hx hb d_14_15_285 (lv_at hl 4 rfl) ?_
  refine va_putN (D := z.1) (ci := 15) (v := .int 0) (ty := .int) (C := "BallothallModel$Seats") (T := TX15) (N := 7) hx hb hts iX15 tyX15 tyX15_ok nmX15 hown hG.1 hP hD hS 1 rfl rfl 5 (by decide) (va_Nw.use rfl (hG.2.1 _ n_1847 rfl)) (fun _ h9 => h9) rfl (by decide +kernel) rfl rfl (Nat.le_of_ble_eq_true rfl) d_14_15_287 (fun H locs hP hD hS => ?_)
  have hP : va_P z.1 classes [(a0, .inl (z.2 0, 0, .inl (fun _ => 0))), (q0, .inr (15, [.ref a0, .ref a1, .ref (u0.1 0), .ref (u0.1 1), .int 0, .int 0, .int 0])), (q1, .inl (z.2 0, 0, .inl (fun _ => 0))), (q2, .inl (z.2 1, 0, .inr (.inl (fun _ => 0)))), (q3, .inl (z.2 0, 0, .inl (fun _ => 0))), (q4, .inl (z.2 1, 0, .inr (.inl (fun _ => 0)))), (q5, .inl (z.2 0, 0, .inl (fun _ => 0))), (q6, .inl (z.2 0, 0, .inl (fun _ => 0)))] H := hP
  have hD : va_D A [(a0, .inl (z.2 0, 0, .inl (fun _ => 0))), (q0, .inr (15, [.ref a0, .ref a1, .ref (u0.1 0), .ref (u0.1 1), .int 0, .int 0, .int 0])), (q1, .inl (z.2 0, 0, .inl (fun _ => 0))), (q2, .inl (z.2 1, 0, .inr (.inl (fun _ => 0)))), (q3, .inl (z.2 0, 0, .inl (fun _ => 0))), (q4, .inl (z.2 1, 0, .inr (.inl (fun _ => 0)))), (q5, .inl (z.2 0, 0, .inl (fun _ => 0))), (q6, .inl (z.2 0, 0, .inl (fun _ => 0)))] := hD
  refine va_new (ci := 16) (fs := [.int 0, .null, .null, .null, .null, .null, .int 0]) (C := "BallothallModel$Sharing") (T := TX16) (N := 7) hx hb hts iX16 tyX16 tyX16_ok hown (hts _ w_1865) (hts _ w_1866) (hts _ w_25) hG.1 hP hD hS hA rfl fsX16 (Nat.le_of_ble_eq_true rfl) (Nat.le_of_ble_eq_true rfl) d_14_15_290 (fun q7 H hP hD hS => ?_)
  have hP : va_P z.1 classes [(a0, .inl (z.2 0, 0, .inl (fun _ => 0))), (q0, .inr (15, [.ref a0, .ref a1, .ref (u0.1 0), .ref (u0.1 1), .int 0, .int 0, .int 0])), (q1, .inl (z.2 0, 0, .inl (fun _ => 0))), (q2, .inl (z.2 1, 0, .inr (.inl (fun _ => 0)))), (q3, .inl (z.2 0, 0, .inl (fun _ => 0))), (q4, .inl (z.2 1, 0, .inr (.inl (fun _ => 0)))), (q5, .inl (z.2 0, 0, .inl (fun _ => 0))), (q6, .inl (z.2 0, 0, .inl (fun _ => 0))), (q7, .inr (16, [.int 0, .null, .null, .null, .null, .null, .int 0]))] H := hP
  have hD : va_D A [(a0, .inl (z.2 0, 0, .inl (fun _ => 0))), (q0, .inr (15, [.ref a0, .ref a1, .ref (u0.1 0), .ref (u0.1 1), .int 0, .int 0, .int 0])), (q1, .inl (z.2 0, 0, .inl (fun _ => 0))), (q2, .inl (z.2 1, 0, .inr (.inl (fun _ => 0)))), (q3, .inl (z.2 0, 0, .inl (fun _ => 0))), (q4, .inl (z.2 1, 0, .inr (.inl (fun _ => 0)))), (q5, .inl (z.2 0, 0, .inl (fun _ => 0))), (q6, .inl (z.2 0, 0, .inl (fun _ => 0))), (q7, .inr (16, [.int 0, .null, .null, .null, .null, .null, .int 0]))] := hD
  refine lv_dup hx hb d_14_15_293 rfl ?_
  refine lv_iload hx hb d_14_15_294 (lv_at hl 4 rfl) ?_
  refine lv_aload hx hb d_14_15_296 (lv_at hl 3 rfl) ?_
  refine lv_aload hx hb d_14_15_298 (lv_at hl 2 rfl) ?_
  refine lv_aload hx hb d_14_15_300 (lv_at hl 1 rfl) ?_
  refine kI (As := [.int 0, .ref q4, .ref q5, .ref q6]) (rest := [.ref q7]) (wr := [(a0, .inl (z.2 0, 0, .inl (fun _ => 0))), (q0, .inr (15, [.ref a0, .ref a1, .ref (u0.1 0), .ref (u0.1 1), .int 0, .int 0, .int 0])), (q1, .inl (z.2 0, 0, .inl (fun _ => 0))), (q2, .inl (z.2 1, 0, .inr (.inl (fun _ => 0)))), (q3, .inl (z.2 0, 0, .inl (fun _ => 0))), (q4, .inl (z.2 1, 0, .inr (.inl (fun _ => 0)))), (q5, .inl (z.2 0, 0, .inl (fun _ => 0))), (q6, .inl (z.2 0, 0, .inl (fun _ => 0)))]) (c184_Sharing_init l z q7 q4 q5 q6) hx hb hml hown hts w_1869 w_1867 w_1868 rfl w_25 md_545a0b ⟨Nat.le_of_ble_eq_true rfl, Nat.le_of_ble_eq_true rfl⟩ hG hZ hP hD hS hA [8] [0, 1, 2, 3, 4, 5, 6, 7] rfl rfl rfl rfl rfl hl.1 rfl (Nat.le_of_ble_eq_true rfl) d_14_15_302 ⟨Nat.le_of_ble_eq_true rfl, Nat.le_of_ble_eq_true rfl⟩ (fun u1 H locs hP hD hS => ?_)
  have hP : va_P z.1 classes [(a0, .inl (z.2 0, 0, .inl (fun _ => 0))), (q0, .inr (15, [.ref a0, .ref a1, .ref (u0.1 0), .ref (u0.1 1), .int 0, .int 0, .int 0])), (q1, .inl (z.2 0, 0, .inl (fun _ => 0))), (q2, .inl (z.2 1, 0, .inr (.inl (fun _ => 0)))), (q3, .inl (z.2 0, 0, .inl (fun _ => 0))), (q4, .inl (z.2 1, 0, .inr (.inl (fun _ => 0)))), (q5, .inl (z.2 0, 0, .inl (fun _ => 0))), (q6, .inl (z.2 0, 0, .inl (fun _ => 0))), (q7, .inr (16, [.int 0, .ref q4, .ref q5, .ref q6, .ref (u1.1 0), .ref (u1.1 1), .int 0]))] H := hP
  have hD : va_D A [(a0, .inl (z.2 0, 0, .inl (fun _ => 0))), (q0, .inr (15, [.ref a0, .ref a1, .ref (u0.1 0), .ref (u0.1 1), .int 0, .int 0, .int 0])), (q1, .inl (z.2 0, 0, .inl (fun _ => 0))), (q2, .inl (z.2 1, 0, .inr (.inl (fun _ => 0)))), (q3, .inl (z.2 0, 0, .inl (fun _ => 0))), (q4, .inl (z.2 1, 0, .inr (.inl (fun _ => 0)))), (q5, .inl (z.2 0, 0, .inl (fun _ => 0))), (q6, .inl (z.2 0, 0, .inl (fun _ => 0))), (q7, .inr (16, [.int 0, .ref q4, .ref q5, .ref q6, .ref (u1.1 0), .ref (u1.1 1), .int 0]))] := hD
  refine W.eq (g2 := F0 m 305 ls [.ref q7]) rfl ?_
  refine lv_astore (lv' := [(17, .ref q7), (16, .ref q6), (15, .ref q5), (14, .ref q4), (13, .int 0), (12, .ref q3), (11, .ref q2), (10, .ref q1), (8, .long 0), (7, .ref q0), (6, .int 0), (0, .ref a0), (1, .ref a1), (2, .ref a2), (3, .int 5), (4, .int 1), (5, .int 0)]) hx hb d_14_15_305 hl (by decide) rfl (fun ls hl => ?_)
  refine lv_aload hx hb d_14_15_307 (lv_at hl 0 rfl) ?_
  refine lv_iload_n hx hb d_14_15_309 rfl (lv_at hl 14 rfl) ?_
  refine lv_iload hx hb d_14_15_310 (lv_at hl 15 rfl) ?_
  refine kV (As := [.int 5, .int 1]) (rest := []) (wr := [(a0, .inl (z.2 0, 0, .inl (fun _ => 0))), (q0, .inr (15, [.ref a0, .ref a1, .ref (u0.1 0), .ref (u0.1 1), .int 0, .int 0, .int 0])), (q1, .inl (z.2 0, 0, .inl (fun _ => 0))), (q2, .inl (z.2 1, 0, .inr (.inl (fun _ => 0)))), (q3, .inl (z.2 0, 0, .inl (fun _ => 0))), (q4, .inl (z.2 1, 0, .inr (.inl (fun _ => 0)))), (q5, .inl (z.2 0, 0, .inl (fun _ => 0))), (q6, .inl (z.2 0, 0, .inl (fun _ => 0)))]) (c218_Sharing_share l z q7 q4 q5 q6 (u1.1 0) (u1.1 1)) hx hb hml hown hts w_1899 w_1896 w_1897 w_1898 w_25 md_ff2976 ⟨Nat.le_of_ble_eq_true rfl, Nat.le_of_ble_eq_true rfl⟩ hG hZ hP hD hS hA 8 rfl rfl rfl [8] [0, 1, 2, 3, 4, 5, 6, 7] rfl rfl rfl rfl rfl hl.1 rfl (Nat.le_of_ble_eq_true rfl) d_14_15_312 ⟨Nat.le_of_ble_eq_true rfl, Nat.le_of_ble_eq_true rfl⟩ (fun u2 H locs hP hD hS => ?_)
  have hP : va_P z.1 classes [(a0, .inl (z.2 0, 0, .inl (fun _ => 0))), (q0, .inr (15, [.ref a0, .ref a1, .ref (u0.1 0), .ref (u0.1 1), .int 0, .int 0, .int 0])), (q1, .inl (z.2 0, 0, .inl (fun _ => 0))), (q2, .inl (z.2 1, 0, .inr (.inl (fun _ => 0)))), (q3, .inl (z.2 0, 0, .inl (fun _ => 0))), (q4, .inl (z.2 1, 0, .inr (.inl (fun _ => 0)))), (q5, .inl (z.2 0, 0, .inl (fun _ => 0))), (q6, .inl (z.2 0, 0, .inl (fun _ => 0))), (q7, .inr (16, [.int 0, .ref q4, .ref q5, .ref q6, .ref (u1.1 0), .ref (u1.1 1), .int 0]))] H := hP
  have hD : va_D A [(a0, .inl (z.2 0, 0, .inl (fun _ => 0))), (q0, .inr (15, [.ref a0, .ref a1, .ref (u0.1 0), .ref (u0.1 1), .int 0, .int 0, .int 0])), (q1, .inl (z.2 0, 0, .inl (fun _ => 0))), (q2, .inl (z.2 1, 0, .inr (.inl (fun _ => 0)))), (q3, .inl (z.2 0, 0, .inl (fun _ => 0))), (q4, .inl (z.2 1, 0, .inr (.inl (fun _ => 0)))), (q5, .inl (z.2 0, 0, .inl (fun _ => 0))), (q6, .inl (z.2 0, 0, .inl (fun _ => 0))), (q7, .inr (16, [.int 0, .ref q4, .ref q5, .ref q6, .ref (u1.1 0), .ref (u1.1 1), .int 0]))] := hD
  refine W.eq (g2 := F0 m 315 ls []) rfl ?_
  refine lv_aload hx hb d_14_15_315 (lv_at hl 9 rfl) ?_
  refine lv_aload hx hb d_14_15_317 (lv_at hl 0 rfl) ?_
  refine va_getN (D := z.1) (ci := 16) (v := .int 0) (C := "BallothallModel$Sharing") (T := TX16) (N := 7) hx hb hts iX16 hown hG.1 hP 8 rfl rfl 6 (by decide) (va_Nw.use rfl (hG.2.1 _ n_1880 rfl)) (fun _ h9 => h9) rfl d_14_15_319 ?_
  refine va_putN (D := z.1) (ci := 15) (v := .int 0) (ty := .int) (C := "BallothallModel$Seats") (T := TX15) (N := 7) hx hb hts iX15 tyX15 tyX15_ok nmX15 hown hG.1 hP hD hS 1 rfl rfl 4 (by decide) (va_Nw.use rfl (hG.2.1 _ n_1846 rfl)) (fun _ h9 => h9) rfl (by decide +kernel) rfl rfl (Nat.le_of_ble_eq_true rfl) d_14_15_322 (fun H locs hP hD hS => ?_)
  have hP : va_P z.1 classes [(a0, .inl (z.2 0, 0, .inl (fun _ => 0))), (q0, .inr (15, [.ref a0, .ref a1, .ref (u0.1 0), .ref (u0.1 1), .int 0, .int 0, .int 0])), (q1, .inl (z.2 0, 0, .inl (fun _ => 0))), (q2, .inl (z.2 1, 0, .inr (.inl (fun _ => 0)))), (q3, .inl (z.2 0, 0, .inl (fun _ => 0))), (q4, .inl (z.2 1, 0, .inr (.inl (fun _ => 0)))), (q5, .inl (z.2 0, 0, .inl (fun _ => 0))), (q6, .inl (z.2 0, 0, .inl (fun _ => 0))), (q7, .inr (16, [.int 0, .ref q4, .ref q5, .ref q6, .ref (u1.1 0), .ref (u1.1 1), .int 0]))] H := hP
  have hD : va_D A [(a0, .inl (z.2 0, 0, .inl (fun _ => 0))), (q0, .inr (15, [.ref a0, .ref a1, .ref (u0.1 0), .ref (u0.1 1), .int 0, .int 0, .int 0])), (q1, .inl (z.2 0, 0, .inl (fun _ => 0))), (q2, .inl (z.2 1, 0, .inr (.inl (fun _ => 0)))), (q3, .inl (z.2 0, 0, .inl (fun _ => 0))), (q4, .inl (z.2 1, 0, .inr (.inl (fun _ => 0)))), (q5, .inl (z.2 0, 0, .inl (fun _ => 0))), (q6, .inl (z.2 0, 0, .inl (fun _ => 0))), (q7, .inr (16, [.int 0, .ref q4, .ref q5, .ref q6, .ref (u1.1 0), .ref (u1.1 1), .int 0]))] := hD
  refine lv_iconst (v := 0) hx hb d_14_15_325 (by decide +kernel) ?_
  refine lv_istore (lv' := [(18, .int 0), (17, .ref q7), (16, .ref q6), (15, .ref q5), (14, .ref q4), (13, .int 0), (12, .ref q3), (11, .ref q2), (10, .ref q1), (8, .long 0), (7, .ref q0), (6, .int 0), (0, .ref a0), (1, .ref a1), (2, .ref a2), (3, .int 5), (4, .int 1), (5, .int 0)]) hx hb d_14_15_326 hl (by decide) rfl (fun ls hl => ?_)
  refine lv_iload hx hb d_14_15_328 (lv_at hl 0 rfl) ?_
  refine lv_aload hx hb d_14_15_330 (lv_at hl 1 rfl) ?_
  refine va_getN (D := z.1) (ci := 16) (v := .int 0) (C := "BallothallModel$Sharing") (T := TX16) (N := 7) hx hb hts iX16 hown hG.1 hP 8 rfl rfl 6 (by decide) (va_Nw.use rfl (hG.2.1 _ n_1880 rfl)) (fun _ h9 => h9) rfl d_14_15_332 ?_
  refine lv_icmp_ge (tgt := 363) hx hb d_14_15_335 (by decide) (fun _ => ?_) (fun c9 => absurd (by decide +kernel) c9)
  refine lv_iconst (v := 0) hx hb d_14_15_363 (by decide +kernel) ?_
  refine lv_istore (lv' := [(18, .int 0), (17, .ref q7), (16, .ref q6), (15, .ref q5), (14, .ref q4), (13, .int 0), (12, .ref q3), (11, .ref q2), (10, .ref q1), (8, .long 0), (7, .ref q0), (6, .int 0), (0, .ref a0), (1, .ref a1), (2, .ref a2), (3, .int 5), (4, .int 1), (5, .int 0)]) hx hb d_14_15_364 hl (by decide) rfl (fun ls hl => ?_)
  refine lv_iload hx hb d_14_15_366 (lv_at hl 0 rfl) ?_
  refine lv_iload hx hb d_14_15_368 (lv_at hl 5 rfl) ?_
  refine lv_icmp_ge (tgt := 531) hx hb d_14_15_370 (by decide) (fun _ => ?_) (fun c9 => absurd (by decide +kernel) c9)
  refine lv_aload hx hb d_14_15_531 (lv_at hl 10 rfl) ?_
  refine W.widen (k := 12) (n := 144) (Nat.le_of_ble_eq_true rfl) (Nat.le_of_ble_eq_true rfl) ?_
  exact W.aret hx hb hr (Or.inl ⟨_, rfl⟩) (Or.inr ⟨_, rfl⟩) (fun t ht hW => qk hP hD hS [0] rfl ((fun k => ([q0] : List Nat).getD k 0), (fun _ _ => none)) rfl rfl rfl ht) hS.2.2 d_14_15_533
set_option maxRecDepth 100000 in
set_option maxHeartbeats 4000000 in
theorem c220_BModel_distributed (l : Launch) (z : Zz) (a0 a1 a2 a3 a4 a5 a6 a7 a8 a9 a10 a11 a12 a13 : Nat) : CT l z ⟨"BallothallModel", "distributed", "(III)LBallothallModel$Seats;"⟩ prog_14_method_41_code 7 (some (.object "BallothallModel$Seats")) [.ref a0, .int 5, .int 1, .int 0] [(a0, .inr (18, [.ref a1, .ref a2, .int 0, .ref a3, .int 0, .ref a4, .int 0, .null, .int 0, .null, .long 0, .int 0, .null])), (a1, .inr (17, [.int 0, .ref a5, .ref a6, .int 0, .ref a7, .ref a8, .ref a9, .null, .null, .int 0, .ref a10, .ref a11, .ref a12, .int 0, .ref a13, .int 1]))] 3 104 14 144 (fun u => some (.ref (u.1 0))) (fun u => [(a0, .inr (18, [.ref a1, .ref a2, .int 0, .ref a3, .int 0, .ref a4, .int 0, .null, .int 0, .null, .long 0, .int 0, .null])), (a1, .inr (17, [.int 0, .ref a5, .ref a6, .int 0, .ref a7, .ref a8, .ref a9, .null, .null, .int 0, .ref a10, .ref a11, .ref a12, .int 0, .ref a13, .int 1]))]) := by
  refine CT.of (own := "BallothallModel") (by decide +kernel) (Nat.le_of_ble_eq_true rfl) rfl (fun p e s m below meth c A ls hx hb hml hr hts hown hlocks hin hA hG hZ hP hD hS hl => ?_)
  have hl : lv_has ls 7 [(0, .ref a0), (1, .int 5), (2, .int 1), (3, .int 0)] := hl
  refine lv_aload_n hx hb d_14_41_0 rfl (lv_at hl 0 rfl) ?_
  refine va_get (D := z.1) (ci := 18) (v := .ref a1) (C := "BallothallModel") (T := TX18) (N := 13) hx hb hts iX18 hown hG.1 hP 0 rfl rfl 0 (by decide) (hts _ w_1645) (fun _ h9 => h9) rfl d_14_41_1 ?_
  refine va_getN (D := z.1) (ci := 17) (v := .int 0) (C := "BallothallModel$State") (T := TX17) (N := 16) hx hb hts iX17 hown hG.1 hP 1 rfl rfl 3 (by decide) (va_Nw.use rfl (hG.2.1 _ n_1586 rfl)) (fun _ h9 => h9) rfl d_14_41_4 ?_
  refine va_newa (atype := .int) (N' := 0) (a0 := (0, .inl (fun _ => 0))) hx hb (hts _ w_105) rfl hG.1 hP hD hS hA (fun _ => rfl) (by decide +kernel) (by decide +kernel) (Nat.le_of_ble_eq_true rfl) (Nat.le_of_ble_eq_true rfl) (Nat.le_of_ble_eq_true rfl) d_14_41_7 (fun q0 cA9 H hK9 hP hD hS => ?_)
  obtain rfl := ty_eq0 hK9
  clear hK9
  have hP : va_P z.1 classes [(a0, .inr (18, [.ref a1, .ref a2, .int 0, .ref a3, .int 0, .ref a4, .int 0, .null, .int 0, .null, .long 0, .int 0, .null])), (a1, .inr (17, [.int 0, .ref a5, .ref a6, .int 0, .ref a7, .ref a8, .ref a9, .null, .null, .int 0, .ref a10, .ref a11, .ref a12, .int 0, .ref a13, .int 1])), (q0, .inl (z.2 0, 0, .inl (fun _ => 0)))] H := hP
  have hD : va_D A [(a0, .inr (18, [.ref a1, .ref a2, .int 0, .ref a3, .int 0, .ref a4, .int 0, .null, .int 0, .null, .long 0, .int 0, .null])), (a1, .inr (17, [.int 0, .ref a5, .ref a6, .int 0, .ref a7, .ref a8, .ref a9, .null, .null, .int 0, .ref a10, .ref a11, .ref a12, .int 0, .ref a13, .int 1])), (q0, .inl (z.2 0, 0, .inl (fun _ => 0)))] := hD
  refine lv_astore (lv' := [(4, .ref q0), (0, .ref a0), (1, .int 5), (2, .int 1), (3, .int 0)]) hx hb d_14_41_9 hl (by decide) rfl (fun ls hl => ?_)
  refine lv_aload_n hx hb d_14_41_11 rfl (lv_at hl 1 rfl) ?_
  refine va_get (D := z.1) (ci := 18) (v := .ref a1) (C := "BallothallModel") (T := TX18) (N := 13) hx hb hts iX18 hown hG.1 hP 0 rfl rfl 0 (by decide) (hts _ w_1645) (fun _ h9 => h9) rfl d_14_41_12 ?_
  refine va_getN (D := z.1) (ci := 17) (v := .int 0) (C := "BallothallModel$State") (T := TX17) (N := 16) hx hb hts iX17 hown hG.1 hP 1 rfl rfl 3 (by decide) (va_Nw.use rfl (hG.2.1 _ n_1586 rfl)) (fun _ h9 => h9) rfl d_14_41_15 ?_
  refine va_newa (atype := .int) (N' := 0) (a0 := (0, .inl (fun _ => 0))) hx hb (hts _ w_105) rfl hG.1 hP hD hS hA (fun _ => rfl) (by decide +kernel) (by decide +kernel) (Nat.le_of_ble_eq_true rfl) (Nat.le_of_ble_eq_true rfl) (Nat.le_of_ble_eq_true rfl) d_14_41_18 (fun q1 cA9 H hK9 hP hD hS => ?_)
  obtain rfl := ty_eq0 hK9
  clear hK9
  have hP : va_P z.1 classes [(a0, .inr (18, [.ref a1, .ref a2, .int 0, .ref a3, .int 0, .ref a4, .int 0, .null, .int 0, .null, .long 0, .int 0, .null])), (a1, .inr (17, [.int 0, .ref a5, .ref a6, .int 0, .ref a7, .ref a8, .ref a9, .null, .null, .int 0, .ref a10, .ref a11, .ref a12, .int 0, .ref a13, .int 1])), (q0, .inl (z.2 0, 0, .inl (fun _ => 0))), (q1, .inl (z.2 0, 0, .inl (fun _ => 0)))] H := hP
  have hD : va_D A [(a0, .inr (18, [.ref a1, .ref a2, .int 0, .ref a3, .int 0, .ref a4, .int 0, .null, .int 0, .null, .long 0, .int 0, .null])), (a1, .inr (17, [.int 0, .ref a5, .ref a6, .int 0, .ref a7, .ref a8, .ref a9, .null, .null, .int 0, .ref a10, .ref a11, .ref a12, .int 0, .ref a13, .int 1])), (q0, .inl (z.2 0, 0, .inl (fun _ => 0))), (q1, .inl (z.2 0, 0, .inl (fun _ => 0)))] := hD
  refine lv_astore (lv' := [(5, .ref q1), (4, .ref q0), (0, .ref a0), (1, .int 5), (2, .int 1), (3, .int 0)]) hx hb d_14_41_20 hl (by decide) rfl (fun ls hl => ?_)
  refine lv_iconst (v := 0) hx hb d_14_41_22 (by decide +kernel) ?_
  refine lv_istore (lv' := [(6, .int 0), (5, .ref q1), (4, .ref q0), (0, .ref a0), (1, .int 5), (2, .int 1), (3, .int 0)]) hx hb d_14_41_23 hl (by decide) rfl (fun ls hl => ?_)
  refine lv_iload hx hb d_14_41_25 (lv_at hl 0 rfl) ?_
  refine lv_aload_n hx hb d_14_41_27 rfl (lv_at hl 3 rfl) ?_
  refine va_get (D := z.1) (ci := 18) (v := .ref a1) (C := "BallothallModel") (T := TX18) (N := 13) hx hb hts iX18 hown hG.1 hP 0 rfl rfl 0 (by decide) (hts _ w_1645) (fun _ h9 => h9) rfl d_14_41_28 ?_
  refine va_getN (D := z.1) (ci := 17) (v := .int 0) (C := "BallothallModel$State") (T := TX17) (N := 16) hx hb hts iX17 hown hG.1 hP 1 rfl rfl 3 (by decide) (va_Nw.use rfl (hG.2.1 _ n_1586 rfl)) (fun _ h9 => h9) rfl d_14_41_31 ?_
  refine lv_icmp_ge (tgt := 73) hx hb d_14_41_34 (by decide) (fun _ => ?_) (fun c9 => absurd (by decide +kernel) c9)
  refine lv_aload hx hb d_14_41_73 (lv_at hl 2 rfl) ?_
  refine lv_aload hx hb d_14_41_75 (lv_at hl 1 rfl) ?_
  refine lv_aload_n hx hb d_14_41_77 rfl (lv_at hl 3 rfl) ?_
  refine va_get (D := z.1) (ci := 18) (v := .ref a1) (C := "BallothallModel") (T := TX18) (N := 13) hx hb hts iX18 hown hG.1 hP 0 rfl rfl 0 (by decide) (hts _ w_1645) (fun _ h9 => h9) rfl d_14_41_78 ?_
  refine va_getN (D := z.1) (ci := 17) (v := .ref a9) (C := "BallothallModel$State") (T := TX17) (N := 16) hx hb hts iX17 hown hG.1 hP 1 rfl rfl 6 (by decide) (va_Nw.use rfl (hG.2.1 _ n_1592 rfl)) (fun _ h9 => h9) rfl d_14_41_81 ?_
  refine lv_iload_n hx hb d_14_41_84 rfl (lv_at hl 4 rfl) ?_
  refine lv_iload_n hx hb d_14_41_85 rfl (lv_at hl 5 rfl) ?_
  refine lv_iload_n hx hb d_14_41_86 rfl (lv_at hl 6 rfl) ?_
  refine kS (As := [.ref q0, .ref q1, .ref a9, .int 5, .int 1, .int 0]) (rest := []) (wr := [(a0, .inr (18, [.ref a1, .ref a2, .int 0, .ref a3, .int 0, .ref a4, .int 0, .null, .int 0, .null, .long 0, .int 0, .null])), (a1, .inr (17, [.int 0, .ref a5, .ref a6, .int 0, .ref a7, .ref a8, .ref a9, .null, .null, .int 0, .ref a10, .ref a11, .ref a12, .int 0, .ref a13, .int 1])), (q1, .inl (z.2 0, 0, .inl (fun _ => 0)))]) (c219_BModel_distributed l z q0 q1 a9) hx hb hml hown hts w_1831 w_1829 w_1830 w_12 md_f197f8 ⟨Nat.le_of_ble_eq_true rfl, Nat.le_of_ble_eq_true rfl⟩ hG hZ hP hD hS hA [2] [0, 1, 3] rfl rfl rfl rfl rfl hl.1 rfl (Nat.le_of_ble_eq_true rfl) d_14_41_87 ⟨Nat.le_of_ble_eq_true rfl, Nat.le_of_ble_eq_true rfl⟩ (fun u0 H locs hP hD hS => ?_)
  have hP : va_P z.1 classes [(a0, .inr (18, [.ref a1, .ref a2, .int 0, .ref a3, .int 0, .ref a4, .int 0, .null, .int 0, .null, .long 0, .int 0, .null])), (a1, .inr (17, [.int 0, .ref a5, .ref a6, .int 0, .ref a7, .ref a8, .ref a9, .null, .null, .int 0, .ref a10, .ref a11, .ref a12, .int 0, .ref a13, .int 1])), (q1, .inl (z.2 0, 0, .inl (fun _ => 0))), (q0, .inl (z.2 0, 0, .inl (fun _ => 0)))] H := hP
  have hD : va_D A [(a0, .inr (18, [.ref a1, .ref a2, .int 0, .ref a3, .int 0, .ref a4, .int 0, .null, .int 0, .null, .long 0, .int 0, .null])), (a1, .inr (17, [.int 0, .ref a5, .ref a6, .int 0, .ref a7, .ref a8, .ref a9, .null, .null, .int 0, .ref a10, .ref a11, .ref a12, .int 0, .ref a13, .int 1])), (q1, .inl (z.2 0, 0, .inl (fun _ => 0))), (q0, .inl (z.2 0, 0, .inl (fun _ => 0)))] := hD
  refine W.eq (g2 := F0 m 90 ls [.ref (u0.1 0)]) rfl ?_
  refine W.widen (k := 14) (n := 144) (Nat.le_of_ble_eq_true rfl) (Nat.le_of_ble_eq_true rfl) ?_
  exact W.aret hx hb hr (Or.inl ⟨_, rfl⟩) (Or.inr ⟨_, rfl⟩) (fun t ht hW => qk hP hD hS [0, 1] rfl ((fun k => ([(u0.1 0)] : List Nat).getD k 0), (fun _ _ => none)) rfl rfl rfl ht) hS.2.2 d_14_41_90
set_option maxRecDepth 100000 in
set_option maxHeartbeats 4000000 in
theorem c221_Sharing_share (l : Launch) (z : Zz) (a0 a1 a2 a3 a4 a5 : Nat) (x0 : Int32) : CT l z ⟨"BallothallModel$Sharing", "share", "(II)V"⟩ prog_19_method_4_code 9 none [.ref a0, .int 5, .int x0] [(a0, .inr (16, [.int 0, .ref a1, .ref a2, .ref a3, .ref a4, .ref a5, .int 0]))] 0 0 0 0 (fun u => none) (fun u => [(a0, .inr (16, [.int 0, .ref a1, .ref a2, .ref a3, .ref a4, .ref a5, .int 0]))]) := by
  refine CT.of (own := "BallothallModel$Sharing") (by decide +kernel) (Nat.le_of_ble_eq_true rfl) rfl (fun p e s m below meth c A ls hx hb hml hr hts hown hlocks hin hA hG hZ hP hD hS hl => ?_)
  have hl : lv_has ls 9 [(0, .ref a0), (1, .int 5), (2, .int x0)] := hl
  refine lv_aload_n hx hb d_19_4_0 rfl (lv_at hl 0 rfl) ?_
  refine va_get (D := z.1) (ci := 16) (v := .int 0) (C := "BallothallModel$Sharing") (T := TX16) (N := 7) hx hb hts iX16 hown hG.1 hP 0 rfl rfl 0 (by decide) (hts _ w_1871) (fun _ h9 => h9) rfl d_19_4_1 ?_
  refine lv_if_ne (tgt := 8) hx hb d_19_4_4 (by decide) (fun c9 => absurd (by decide +kernel) c9) (fun _ => ?_)
  refine W.widen (k := 0) (n := 0) (Nat.le_of_ble_eq_true rfl) (Nat.le_of_ble_eq_true rfl) ?_
  exact W.vret hx hb hr (fun t ht hW => qk hP hD hS [0] rfl ((fun k => k), (fun _ _ => none)) rfl rfl rfl ht) hS.2.2 d_19_4_7
set_option maxRecDepth 100000 in
set_option maxHeartbeats 4000000 in
theorem c222_BModel_distributed (l : Launch) (z : Zz) (a0 a1 a2 : Nat) (x0 : Int32) : CT l z ⟨"BallothallModel", "distributed", "([I[I[IIII)LBallothallModel$Seats;"⟩ prog_14_method_15_code 25 (some (.object "BallothallModel$Seats")) [.ref a0, .ref a1, .ref a2, .int 5, .int x0, .int 0] [(a0, .inl (z.2 0, 0, .inl (fun _ => 0)))] 2 52 12 144 (fun u => some (.ref (u.1 0))) (fun u => [(a0, .inl (z.2 0, 0, .inl (fun _ => 0)))]) := by
  refine CT.of (own := "BallothallModel") (by decide +kernel) (Nat.le_of_ble_eq_true rfl) rfl (fun p e s m below meth c A ls hx hb hml hr hts hown hlocks hin hA hG hZ hP hD hS hl => ?_)
  have hl : lv_has ls 25 [(0, .ref a0), (1, .ref a1), (2, .ref a2), (3, .int 5), (4, .int x0), (5, .int 0)] := hl
  refine lv_aload_n hx hb d_14_15_0 rfl (lv_at hl 0 rfl) ?_
  refine va_alen (v := 0) hx hb hG.1 hP 0 0 rfl rfl rfl d_14_15_1 ?_
  refine lv_istore (lv' := [(6, .int 0), (0, .ref a0), (1, .ref a1), (2, .ref a2), (3, .int 5), (4, .int x0), (5, .int 0)]) hx hb d_14_15_2 hl (by decide) rfl (fun ls hl => ?_)
  refine va_new (ci := 15) (fs := [.null, .null, .null, .null, .int 0, .int 0, .int 0]) (C := "BallothallModel$Seats") (T := TX15) (N := 7) hx hb hts iX15 tyX15 tyX15_ok hown (hts _ w_1832) (hts _ w_1833) (hts _ w_24) hG.1 hP hD hS hA rfl fsX15 (Nat.le_of_ble_eq_true rfl) (Nat.le_of_ble_eq_true rfl) d_14_15_4 (fun q0 H hP hD hS => ?_)
  have hP : va_P z.1 classes [(a0, .inl (z.2 0, 0, .inl (fun _ => 0))), (q0, .inr (15, [.null, .null, .null, .null, .int 0, .int 0, .int 0]))] H := hP
  have hD : va_D A [(a0, .inl (z.2 0, 0, .inl (fun _ => 0))), (q0, .inr (15, [.null, .null, .null, .null, .int 0, .int 0, .int 0]))] := hD
  refine lv_dup hx hb d_14_15_7 rfl ?_
  refine lv_aload_n hx hb d_14_15_8 rfl (lv_at hl 1 rfl) ?_
  refine lv_aload_n hx hb d_14_15_9 rfl (lv_at hl 2 rfl) ?_
  refine kI (As := [.ref a0, .ref a1]) (rest := [.ref q0]) (wr := [(a0, .inl (z.2 0, 0, .inl (fun _ => 0)))]) (c183_Seats_init l z q0 a0 a1) hx hb hml hown hts w_1836 w_1834 w_1835 rfl w_24 md_0cda89 ⟨Nat.le_of_ble_eq_true rfl, Nat.le_of_ble_eq_true rfl⟩ hG hZ hP hD hS hA [1] [0] rfl rfl rfl rfl rfl hl.1 rfl (Nat.le_of_ble_eq_true rfl) d_14_15_10 ⟨Nat.le_of_ble_eq_true rfl, Nat.le_of_ble_eq_true rfl⟩ (fun u0 H locs hP hD hS => ?_)
  have hP : va_P z.1 classes [(a0, .inl (z.2 0, 0, .inl (fun _ => 0))), (q0, .inr (15, [.ref a0, .ref a1, .ref (u0.1 0), .ref (u0.1 1), .int 0, .int 0, .int 0]))] H := hP
  have hD : va_D A [(a0, .inl (z.2 0, 0, .inl (fun _ => 0))), (q0, .inr (15, [.ref a0, .ref a1, .ref (u0.1 0), .ref (u0.1 1), .int 0, .int 0, .int 0]))] := hD
  refine W.eq (g2 := F0 m 13 ls [.ref q0]) rfl ?_
  refine lv_astore (lv' := [(7, .ref q0), (6, .int 0), (0, .ref a0), (1, .ref a1), (2, .ref a2), (3, .int 5), (4, .int x0), (5, .int 0)]) hx hb d_14_15_13 hl (by decide) rfl (fun ls hl => ?_)
  refine lv_lconst (v := 0) hx hb d_14_15_15 (by decide +kernel) ?_
  refine lv_lstore (lv' := [(8, .long 0), (7, .ref q0), (6, .int 0), (0, .ref a0), (1, .ref a1), (2, .ref a2), (3, .int 5), (4, .int x0), (5, .int 0)]) hx hb d_14_15_16 hl (by decide) rfl (fun ls hl => ?_)
  refine lv_aload_n hx hb d_14_15_18 rfl (lv_at hl 3 rfl) ?_
  refine lv_astore (lv' := [(10, .ref a0), (8, .long 0), (7, .ref q0), (6, .int 0), (0, .ref a0), (1, .ref a1), (2, .ref a2), (3, .int 5), (4, .int x0), (5, .int 0)]) hx hb d_14_15_19 hl (by decide) rfl (fun ls hl => ?_)
  refine lv_aload hx hb d_14_15_21 (lv_at hl 0 rfl) ?_
  refine va_alen (v := 0) hx hb hG.1 hP 0 0 rfl rfl rfl d_14_15_23 ?_
  refine lv_istore (lv' := [(11, .int 0), (10, .ref a0), (8, .long 0), (7, .ref q0), (6, .int 0), (0, .ref a0), (1, .ref a1), (2, .ref a2), (3, .int 5), (4, .int x0), (5, .int 0)]) hx hb d_14_15_24 hl (by decide) rfl (fun ls hl => ?_)
  refine lv_iconst (v := 0) hx hb d_14_15_26 (by decide +kernel) ?_
  refine lv_istore (lv' := [(12, .int 0), (11, .int 0), (10, .ref a0), (8, .long 0), (7, .ref q0), (6, .int 0), (0, .ref a0), (1, .ref a1), (2, .ref a2), (3, .int 5), (4, .int x0), (5, .int 0)]) hx hb d_14_15_27 hl (by decide) rfl (fun ls hl => ?_)
  refine lv_iload hx hb d_14_15_29 (lv_at hl 0 rfl) ?_
  refine lv_iload hx hb d_14_15_31 (lv_at hl 1 rfl) ?_
  refine lv_icmp_ge (tgt := 57) hx hb d_14_15_33 (by decide) (fun _ => ?_) (fun c9 => absurd (by decide +kernel) c9)
  refine lv_iload hx hb d_14_15_57 (lv_at hl 5 rfl) ?_
  refine va_newa (atype := .int) (N' := 0) (a0 := (0, .inl (fun _ => 0))) hx hb (hts _ w_105) rfl hG.1 hP hD hS hA (fun _ => rfl) (by decide +kernel) (by decide +kernel) (Nat.le_of_ble_eq_true rfl) (Nat.le_of_ble_eq_true rfl) (Nat.le_of_ble_eq_true rfl) d_14_15_59 (fun q1 cA9 H hK9 hP hD hS => ?_)
  obtain rfl := ty_eq0 hK9
  clear hK9
  have hP : va_P z.1 classes [(a0, .inl (z.2 0, 0, .inl (fun _ => 0))), (q0, .inr (15, [.ref a0, .ref a1, .ref (u0.1 0), .ref (u0.1 1), .int 0, .int 0, .int 0])), (q1, .inl (z.2 0, 0, .inl (fun _ => 0)))] H := hP
  have hD : va_D A [(a0, .inl (z.2 0, 0, .inl (fun _ => 0))), (q0, .inr (15, [.ref a0, .ref a1, .ref (u0.1 0), .ref (u0.1 1), .int 0, .int 0, .int 0])), (q1, .inl (z.2 0, 0, .inl (fun _ => 0)))] := hD
  refine lv_astore (lv' := [(10, .ref q1), (12, .int 0), (11, .int 0), (8, .long 0), (7, .ref q0), (6, .int 0), (0, .ref a0), (1, .ref a1), (2, .ref a2), (3, .int 5), (4, .int x0), (5, .int 0)]) hx hb d_14_15_61 hl (by decide) rfl (fun ls hl => ?_)
  refine lv_iload hx hb d_14_15_63 (lv_at hl 5 rfl) ?_
  refine va_newa (atype := .long) (N' := 0) (a0 := (0, .inr (.inl (fun _ => 0)))) hx hb (hts _ w_152) rfl hG.1 hP hD hS hA (fun _ => rfl) (by decide +kernel) (by decide +kernel) (Nat.le_of_ble_eq_true rfl) (Nat.le_of_ble_eq_true rfl) (Nat.le_of_ble_eq_true rfl) d_14_15_65 (fun q2 cA9 H hK9 hP hD hS => ?_)
  obtain rfl := ty_eq1 hK9
  clear hK9
  have hP : va_P z.1 classes [(a0, .inl (z.2 0, 0, .inl (fun _ => 0))), (q0, .inr (15, [.ref a0, .ref a1, .ref (u0.1 0), .ref (u0.1 1), .int 0, .int 0, .int 0])), (q1, .inl (z.2 0, 0, .inl (fun _ => 0))), (q2, .inl (z.2 1, 0, .inr (.inl (fun _ => 0))))] H := hP
  have hD : va_D A [(a0, .inl (z.2 0, 0, .inl (fun _ => 0))), (q0, .inr (15, [.ref a0, .ref a1, .ref (u0.1 0), .ref (u0.1 1), .int 0, .int 0, .int 0])), (q1, .inl (z.2 0, 0, .inl (fun _ => 0))), (q2, .inl (z.2 1, 0, .inr (.inl (fun _ => 0))))] := hD
  refine lv_astore (lv' := [(11, .ref q2), (10, .ref q1), (12, .int 0), (8, .long 0), (7, .ref q0), (6, .int 0), (0, .ref a0), (1, .ref a1), (2, .ref a2), (3, .int 5), (4, .int x0), (5, .int 0)]) hx hb d_14_15_67 hl (by decide) rfl (fun ls hl => ?_)
  refine lv_iload hx hb d_14_15_69 (lv_at hl 5 rfl) ?_
  refine va_newa (atype := .int) (N' := 0) (a0 := (0, .inl (fun _ => 0))) hx hb (hts _ w_105) rfl hG.1 hP hD hS hA (fun _ => rfl) (by decide +kernel) (by decide +kernel) (Nat.le_of_ble_eq_true rfl) (Nat.le_of_ble_eq_true rfl) (Nat.le_of_ble_eq_true rfl) d_14_15_71 (fun q3 cA9 H hK9 hP hD hS => ?_)
  obtain rfl := ty_eq0 hK9
  clear hK9
  have hP : va_P z.1 classes [(a0, .inl (z.2 0, 0, .inl (fun _ => 0))), (q0, .inr (15, [.ref a0, .ref a1, .ref (u0.1 0), .ref (u0.1 1), .int 0, .int 0, .int 0])), (q1, .inl (z.2 0, 0, .inl (fun _ => 0))), (q2, .inl (z.2 1, 0, .inr (.inl (fun _ => 0)))), (q3, .inl (z.2 0, 0, .inl (fun _ => 0)))] H := hP
  have hD : va_D A [(a0, .inl (z.2 0, 0, .inl (fun _ => 0))), (q0, .inr (15, [.ref a0, .ref a1, .ref (u0.1 0), .ref (u0.1 1), .int 0, .int 0, .int 0])), (q1, .inl (z.2 0, 0, .inl (fun _ => 0))), (q2, .inl (z.2 1, 0, .inr (.inl (fun _ => 0)))), (q3, .inl (z.2 0, 0, .inl (fun _ => 0)))] := hD
  refine lv_astore (lv' := [(12, .ref q3), (11, .ref q2), (10, .ref q1), (8, .long 0), (7, .ref q0), (6, .int 0), (0, .ref a0), (1, .ref a1), (2, .ref a2), (3, .int 5), (4, .int x0), (5, .int 0)]) hx hb d_14_15_73 hl (by decide) rfl (fun ls hl => ?_)
  refine lv_iconst (v := 0) hx hb d_14_15_75 (by decide +kernel) ?_
  refine lv_istore (lv' := [(13, .int 0), (12, .ref q3), (11, .ref q2), (10, .ref q1), (8, .long 0), (7, .ref q0), (6, .int 0), (0, .ref a0), (1, .ref a1), (2, .ref a2), (3, .int 5), (4, .int x0), (5, .int 0)]) hx hb d_14_15_76 hl (by decide) rfl (fun ls hl => ?_)
  refine lv_iload hx hb d_14_15_78 (lv_at hl 0 rfl) ?_
  refine lv_iload hx hb d_14_15_80 (lv_at hl 6 rfl) ?_
  refine lv_icmp_ge (tgt := 154) hx hb d_14_15_82 (by decide) (fun _ => ?_) (fun c9 => absurd (by decide +kernel) c9)
  refine lv_iconst (v := 0) hx hb d_14_15_154 (by decide +kernel) ?_
  refine lv_istore (lv' := [(13, .int 0), (12, .ref q3), (11, .ref q2), (10, .ref q1), (8, .long 0), (7, .ref q0), (6, .int 0), (0, .ref a0), (1, .ref a1), (2, .ref a2), (3, .int 5), (4, .int x0), (5, .int 0)]) hx hb d_14_15_155 hl (by decide) rfl (fun ls hl => ?_)
  refine lv_iload hx hb d_14_15_157 (lv_at hl 6 rfl) ?_
  refine va_newa (atype := .long) (N' := 0) (a0 := (0, .inr (.inl (fun _ => 0)))) hx hb (hts _ w_152) rfl hG.1 hP hD hS hA (fun _ => rfl) (by decide +kernel) (by decide +kernel) (Nat.le_of_ble_eq_true rfl) (Nat.le_of_ble_eq_true rfl) (Nat.le_of_ble_eq_true rfl) d_14_15_159 (fun q4 cA9 H hK9 hP hD hS => ?_)
  obtain rfl := ty_eq1 hK9
  clear hK9
  have hP : va_P z.1 classes [(a0, .inl (z.2 0, 0, .inl (fun _ => 0))), (q0, .inr (15, [.ref a0, .ref a1, .ref (u0.1 0), .ref (u0.1 1), .int 0, .int 0, .int 0])), (q1, .inl (z.2 0, 0, .inl (fun _ => 0))), (q2, .inl (z.2 1, 0, .inr (.inl (fun _ => 0)))), (q3, .inl (z.2 0, 0, .inl (fun _ => 0))), (q4, .inl (z.2 1, 0, .inr (.inl (fun _ => 0))))] H := hP
  have hD : va_D A [(a0, .inl (z.2 0, 0, .inl (fun _ => 0))), (q0, .inr (15, [.ref a0, .ref a1, .ref (u0.1 0), .ref (u0.1 1), .int 0, .int 0, .int 0])), (q1, .inl (z.2 0, 0, .inl (fun _ => 0))), (q2, .inl (z.2 1, 0, .inr (.inl (fun _ => 0)))), (q3, .inl (z.2 0, 0, .inl (fun _ => 0))), (q4, .inl (z.2 1, 0, .inr (.inl (fun _ => 0))))] := hD
  refine lv_astore (lv' := [(14, .ref q4), (13, .int 0), (12, .ref q3), (11, .ref q2), (10, .ref q1), (8, .long 0), (7, .ref q0), (6, .int 0), (0, .ref a0), (1, .ref a1), (2, .ref a2), (3, .int 5), (4, .int x0), (5, .int 0)]) hx hb d_14_15_161 hl (by decide) rfl (fun ls hl => ?_)
  refine lv_iload hx hb d_14_15_163 (lv_at hl 7 rfl) ?_
  refine va_newa (atype := .int) (N' := 0) (a0 := (0, .inl (fun _ => 0))) hx hb (hts _ w_105) rfl hG.1 hP hD hS hA (fun _ => rfl) (by decide +kernel) (by decide +kernel) (Nat.le_of_ble_eq_true rfl) (Nat.le_of_ble_eq_true rfl) (Nat.le_of_ble_eq_true rfl) d_14_15_165 (fun q5 cA9 H hK9 hP hD hS => ?_)
  obtain rfl := ty_eq0 hK9
  clear hK9
  have hP : va_P z.1 classes [(a0, .inl (z.2 0, 0, .inl (fun _ => 0))), (q0, .inr (15, [.ref a0, .ref a1, .ref (u0.1 0), .ref (u0.1 1), .int 0, .int 0, .int 0])), (q1, .inl (z.2 0, 0, .inl (fun _ => 0))), (q2, .inl (z.2 1, 0, .inr (.inl (fun _ => 0)))), (q3, .inl (z.2 0, 0, .inl (fun _ => 0))), (q4, .inl (z.2 1, 0, .inr (.inl (fun _ => 0)))), (q5, .inl (z.2 0, 0, .inl (fun _ => 0)))] H := hP
  have hD : va_D A [(a0, .inl (z.2 0, 0, .inl (fun _ => 0))), (q0, .inr (15, [.ref a0, .ref a1, .ref (u0.1 0), .ref (u0.1 1), .int 0, .int 0, .int 0])), (q1, .inl (z.2 0, 0, .inl (fun _ => 0))), (q2, .inl (z.2 1, 0, .inr (.inl (fun _ => 0)))), (q3, .inl (z.2 0, 0, .inl (fun _ => 0))), (q4, .inl (z.2 1, 0, .inr (.inl (fun _ => 0)))), (q5, .inl (z.2 0, 0, .inl (fun _ => 0)))] := hD
  refine lv_astore (lv' := [(15, .ref q5), (14, .ref q4), (13, .int 0), (12, .ref q3), (11, .ref q2), (10, .ref q1), (8, .long 0), (7, .ref q0), (6, .int 0), (0, .ref a0), (1, .ref a1), (2, .ref a2), (3, .int 5), (4, .int x0), (5, .int 0)]) hx hb d_14_15_167 hl (by decide) rfl (fun ls hl => ?_)
  refine lv_iload hx hb d_14_15_169 (lv_at hl 8 rfl) ?_
  refine va_newa (atype := .int) (N' := 0) (a0 := (0, .inl (fun _ => 0))) hx hb (hts _ w_105) rfl hG.1 hP hD hS hA (fun _ => rfl) (by decide +kernel) (by decide +kernel) (Nat.le_of_ble_eq_true rfl) (Nat.le_of_ble_eq_true rfl) (Nat.le_of_ble_eq_true rfl) d_14_15_171 (fun q6 cA9 H hK9 hP hD hS => ?_)
  obtain rfl := ty_eq0 hK9
  clear hK9
  have hP : va_P z.1 classes [(a0, .inl (z.2 0, 0, .inl (fun _ => 0))), (q0, .inr (15, [.ref a0, .ref a1, .ref (u0.1 0), .ref (u0.1 1), .int 0, .int 0, .int 0])), (q1, .inl (z.2 0, 0, .inl (fun _ => 0))), (q2, .inl (z.2 1, 0, .inr (.inl (fun _ => 0)))), (q3, .inl (z.2 0, 0, .inl (fun _ => 0))), (q4, .inl (z.2 1, 0, .inr (.inl (fun _ => 0)))), (q5, .inl (z.2 0, 0, .inl (fun _ => 0))), (q6, .inl (z.2 0, 0, .inl (fun _ => 0)))] H := hP
  have hD : va_D A [(a0, .inl (z.2 0, 0, .inl (fun _ => 0))), (q0, .inr (15, [.ref a0, .ref a1, .ref (u0.1 0), .ref (u0.1 1), .int 0, .int 0, .int 0])), (q1, .inl (z.2 0, 0, .inl (fun _ => 0))), (q2, .inl (z.2 1, 0, .inr (.inl (fun _ => 0)))), (q3, .inl (z.2 0, 0, .inl (fun _ => 0))), (q4, .inl (z.2 1, 0, .inr (.inl (fun _ => 0)))), (q5, .inl (z.2 0, 0, .inl (fun _ => 0))), (q6, .inl (z.2 0, 0, .inl (fun _ => 0)))] := hD
  refine lv_astore (lv' := [(16, .ref q6), (15, .ref q5), (14, .ref q4), (13, .int 0), (12, .ref q3), (11, .ref q2), (10, .ref q1), (8, .long 0), (7, .ref q0), (6, .int 0), (0, .ref a0), (1, .ref a1), (2, .ref a2), (3, .int 5), (4, .int x0), (5, .int 0)]) hx hb d_14_15_173 hl (by decide) rfl (fun ls hl => ?_)
  refine lv_iconst (v := 0) hx hb d_14_15_175 (by decide +kernel) ?_
  refine lv_istore (lv' := [(17, .int 0), (16, .ref q6), (15, .ref q5), (14, .ref q4), (13, .int 0), (12, .ref q3), (11, .ref q2), (10, .ref q1), (8, .long 0), (7, .ref q0), (6, .int 0), (0, .ref a0), (1, .ref a1), (2, .ref a2), (3, .int 5), (4, .int x0), (5, .int 0)]) hx hb d_14_15_176 hl (by decide) rfl (fun ls hl => ?_)
  refine lv_iload hx hb d_14_15_178 (lv_at hl 0 rfl) ?_
  refine lv_iload hx hb d_14_15_180 (lv_at hl 10 rfl) ?_
  refine lv_icmp_ge (tgt := 283) hx hb d_14_15_182 (by decide) (fun _ => ?_) (fun c9 => absurd (by decide +kernel) c9)
  refine lv_aload hx hb d_14_15_283 (lv_at hl 9 rfl) ?_
  refine lv_iload hx hb d_14_15_285 (lv_at hl 4 rfl) ?_
  refine va_putN (D := z.1) (ci := 15) (v := .int 0) (ty := .int) (C := "BallothallModel$Seats") (T := TX15) (N := 7) hx hb hts iX15 tyX15 tyX15_ok nmX15 hown hG.1 hP hD hS 1 rfl rfl 5 (by decide) (va_Nw.use rfl (hG.2.1 _ n_1847 rfl)) (fun _ h9 => h9) rfl (by decide +kernel) rfl rfl (Nat.le_of_ble_eq_true rfl) d_14_15_287 (fun H locs hP hD hS => ?_)
  have hP : va_P z.1 classes [(a0, .inl (z.2 0, 0, .inl (fun _ => 0))), (q0, .inr (15, [.ref a0, .ref a1, .ref (u0.1 0), .ref (u0.1 1), .int 0, .int 0, .int 0])), (q1, .inl (z.2 0, 0, .inl (fun _ => 0))), (q2, .inl (z.2 1, 0, .inr (.inl (fun _ => 0)))), (q3, .inl (z.2 0, 0, .inl (fun _ => 0))), (q4, .inl (z.2 1, 0, .inr (.inl (fun _ => 0)))), (q5, .inl (z.2 0, 0, .inl (fun _ => 0))), (q6, .inl (z.2 0, 0, .inl (fun _ => 0)))] H := hP
  have hD : va_D A [(a0, .inl (z.2 0, 0, .inl (fun _ => 0))), (q0, .inr (15, [.ref a0, .ref a1, .ref (u0.1 0), .ref (u0.1 1), .int 0, .int 0, .int 0])), (q1, .inl (z.2 0, 0, .inl (fun _ => 0))), (q2, .inl (z.2 1, 0, .inr (.inl (fun _ => 0)))), (q3, .inl (z.2 0, 0, .inl (fun _ => 0))), (q4, .inl (z.2 1, 0, .inr (.inl (fun _ => 0)))), (q5, .inl (z.2 0, 0, .inl (fun _ => 0))), (q6, .inl (z.2 0, 0, .inl (fun _ => 0)))] := hD
  refine va_new (ci := 16) (fs := [.int 0, .null, .null, .null, .null, .null, .int 0]) (C := "BallothallModel$Sharing") (T := TX16) (N := 7) hx hb hts iX16 tyX16 tyX16_ok hown (hts _ w_1865) (hts _ w_1866) (hts _ w_25) hG.1 hP hD hS hA rfl fsX16 (Nat.le_of_ble_eq_true rfl) (Nat.le_of_ble_eq_true rfl) d_14_15_290 (fun q7 H hP hD hS => ?_)
  have hP : va_P z.1 classes [(a0, .inl (z.2 0, 0, .inl (fun _ => 0))), (q0, .inr (15, [.ref a0, .ref a1, .ref (u0.1 0), .ref (u0.1 1), .int 0, .int 0, .int 0])), (q1, .inl (z.2 0, 0, .inl (fun _ => 0))), (q2, .inl (z.2 1, 0, .inr (.inl (fun _ => 0)))), (q3, .inl (z.2 0, 0, .inl (fun _ => 0))), (q4, .inl (z.2 1, 0, .inr (.inl (fun _ => 0)))), (q5, .inl (z.2 0, 0, .inl (fun _ => 0))), (q6, .inl (z.2 0, 0, .inl (fun _ => 0))), (q7, .inr (16, [.int 0, .null, .null, .null, .null, .null, .int 0]))] H := hP
  have hD : va_D A [(a0, .inl (z.2 0, 0, .inl (fun _ => 0))), (q0, .inr (15, [.ref a0, .ref a1, .ref (u0.1 0), .ref (u0.1 1), .int 0, .int 0, .int 0])), (q1, .inl (z.2 0, 0, .inl (fun _ => 0))), (q2, .inl (z.2 1, 0, .inr (.inl (fun _ => 0)))), (q3, .inl (z.2 0, 0, .inl (fun _ => 0))), (q4, .inl (z.2 1, 0, .inr (.inl (fun _ => 0)))), (q5, .inl (z.2 0, 0, .inl (fun _ => 0))), (q6, .inl (z.2 0, 0, .inl (fun _ => 0))), (q7, .inr (16, [.int 0, .null, .null, .null, .null, .null, .int 0]))] := hD
  refine lv_dup hx hb d_14_15_293 rfl ?_
  refine lv_iload hx hb d_14_15_294 (lv_at hl 4 rfl) ?_
  refine lv_aload hx hb d_14_15_296 (lv_at hl 3 rfl) ?_
  refine lv_aload hx hb d_14_15_298 (lv_at hl 2 rfl) ?_
  refine lv_aload hx hb d_14_15_300 (lv_at hl 1 rfl) ?_
  refine kI (As := [.int 0, .ref q4, .ref q5, .ref q6]) (rest := [.ref q7]) (wr := [(a0, .inl (z.2 0, 0, .inl (fun _ => 0))), (q0, .inr (15, [.ref a0, .ref a1, .ref (u0.1 0), .ref (u0.1 1), .int 0, .int 0, .int 0])), (q1, .inl (z.2 0, 0, .inl (fun _ => 0))), (q2, .inl (z.2 1, 0, .inr (.inl (fun _ => 0)))), (q3, .inl (z.2 0, 0, .inl (fun _ => 0))), (q4, .inl (z.2 1, 0, .inr (.inl (fun _ => 0)))), (q5, .inl (z.2 0, 0, .inl (fun _ => 0))), (q6, .inl (z.2 0, 0, .inl (fun _ => 0)))]) (c184_Sharing_init l z q7 q4 q5 q6) hx hb hml hown hts w_1869 w_1867 w_1868 rfl w_25 md_545a0b ⟨Nat.le_of_ble_eq_true rfl, Nat.le_of_ble_eq_true rfl⟩ hG hZ hP hD hS hA [8] [0, 1, 2, 3, 4, 5, 6, 7] rfl rfl rfl rfl rfl hl.1 rfl (Nat.le_of_ble_eq_true rfl) d_14_15_302 ⟨Nat.le_of_ble_eq_true rfl, Nat.le_of_ble_eq_true rfl⟩ (fun u1 H locs hP hD hS => ?_)
  have hP : va_P z.1 classes [(a0, .inl (z.2 0, 0, .inl (fun _ => 0))), (q0, .inr (15, [.ref a0, .ref a1, .ref (u0.1 0), .ref (u0.1 1), .int 0, .int 0, .int 0])), (q1, .inl (z.2 0, 0, .inl (fun _ => 0))), (q2, .inl (z.2 1, 0, .inr (.inl (fun _ => 0)))), (q3, .inl (z.2 0, 0, .inl (fun _ => 0))), (q4, .inl (z.2 1, 0, .inr (.inl (fun _ => 0)))), (q5, .inl (z.2 0, 0, .inl (fun _ => 0))), (q6, .inl (z.2 0, 0, .inl (fun _ => 0))), (q7, .inr (16, [.int 0, .ref q4, .ref q5, .ref q6, .ref (u1.1 0), .ref (u1.1 1), .int 0]))] H := hP
  have hD : va_D A [(a0, .inl (z.2 0, 0, .inl (fun _ => 0))), (q0, .inr (15, [.ref a0, .ref a1, .ref (u0.1 0), .ref (u0.1 1), .int 0, .int 0, .int 0])), (q1, .inl (z.2 0, 0, .inl (fun _ => 0))), (q2, .inl (z.2 1, 0, .inr (.inl (fun _ => 0)))), (q3, .inl (z.2 0, 0, .inl (fun _ => 0))), (q4, .inl (z.2 1, 0, .inr (.inl (fun _ => 0)))), (q5, .inl (z.2 0, 0, .inl (fun _ => 0))), (q6, .inl (z.2 0, 0, .inl (fun _ => 0))), (q7, .inr (16, [.int 0, .ref q4, .ref q5, .ref q6, .ref (u1.1 0), .ref (u1.1 1), .int 0]))] := hD
  refine W.eq (g2 := F0 m 305 ls [.ref q7]) rfl ?_
  refine lv_astore (lv' := [(17, .ref q7), (16, .ref q6), (15, .ref q5), (14, .ref q4), (13, .int 0), (12, .ref q3), (11, .ref q2), (10, .ref q1), (8, .long 0), (7, .ref q0), (6, .int 0), (0, .ref a0), (1, .ref a1), (2, .ref a2), (3, .int 5), (4, .int x0), (5, .int 0)]) hx hb d_14_15_305 hl (by decide) rfl (fun ls hl => ?_)
  refine lv_aload hx hb d_14_15_307 (lv_at hl 0 rfl) ?_
  refine lv_iload_n hx hb d_14_15_309 rfl (lv_at hl 14 rfl) ?_
  refine lv_iload hx hb d_14_15_310 (lv_at hl 15 rfl) ?_
  refine kV (As := [.int 5, .int x0]) (rest := []) (wr := [(a0, .inl (z.2 0, 0, .inl (fun _ => 0))), (q0, .inr (15, [.ref a0, .ref a1, .ref (u0.1 0), .ref (u0.1 1), .int 0, .int 0, .int 0])), (q1, .inl (z.2 0, 0, .inl (fun _ => 0))), (q2, .inl (z.2 1, 0, .inr (.inl (fun _ => 0)))), (q3, .inl (z.2 0, 0, .inl (fun _ => 0))), (q4, .inl (z.2 1, 0, .inr (.inl (fun _ => 0)))), (q5, .inl (z.2 0, 0, .inl (fun _ => 0))), (q6, .inl (z.2 0, 0, .inl (fun _ => 0)))]) (c221_Sharing_share l z q7 q4 q5 q6 (u1.1 0) (u1.1 1) x0) hx hb hml hown hts w_1899 w_1896 w_1897 w_1898 w_25 md_ff2976 ⟨Nat.le_of_ble_eq_true rfl, Nat.le_of_ble_eq_true rfl⟩ hG hZ hP hD hS hA 8 rfl rfl rfl [8] [0, 1, 2, 3, 4, 5, 6, 7] rfl rfl rfl rfl rfl hl.1 rfl (Nat.le_of_ble_eq_true rfl) d_14_15_312 ⟨Nat.le_of_ble_eq_true rfl, Nat.le_of_ble_eq_true rfl⟩ (fun u2 H locs hP hD hS => ?_)
  have hP : va_P z.1 classes [(a0, .inl (z.2 0, 0, .inl (fun _ => 0))), (q0, .inr (15, [.ref a0, .ref a1, .ref (u0.1 0), .ref (u0.1 1), .int 0, .int 0, .int 0])), (q1, .inl (z.2 0, 0, .inl (fun _ => 0))), (q2, .inl (z.2 1, 0, .inr (.inl (fun _ => 0)))), (q3, .inl (z.2 0, 0, .inl (fun _ => 0))), (q4, .inl (z.2 1, 0, .inr (.inl (fun _ => 0)))), (q5, .inl (z.2 0, 0, .inl (fun _ => 0))), (q6, .inl (z.2 0, 0, .inl (fun _ => 0))), (q7, .inr (16, [.int 0, .ref q4, .ref q5, .ref q6, .ref (u1.1 0), .ref (u1.1 1), .int 0]))] H := hP
  have hD : va_D A [(a0, .inl (z.2 0, 0, .inl (fun _ => 0))), (q0, .inr (15, [.ref a0, .ref a1, .ref (u0.1 0), .ref (u0.1 1), .int 0, .int 0, .int 0])), (q1, .inl (z.2 0, 0, .inl (fun _ => 0))), (q2, .inl (z.2 1, 0, .inr (.inl (fun _ => 0)))), (q3, .inl (z.2 0, 0, .inl (fun _ => 0))), (q4, .inl (z.2 1, 0, .inr (.inl (fun _ => 0)))), (q5, .inl (z.2 0, 0, .inl (fun _ => 0))), (q6, .inl (z.2 0, 0, .inl (fun _ => 0))), (q7, .inr (16, [.int 0, .ref q4, .ref q5, .ref q6, .ref (u1.1 0), .ref (u1.1 1), .int 0]))] := hD
  refine W.eq (g2 := F0 m 315 ls []) rfl ?_
  refine lv_aload hx hb d_14_15_315 (lv_at hl 9 rfl) ?_
  refine lv_aload hx hb d_14_15_317 (lv_at hl 0 rfl) ?_
  refine va_getN (D := z.1) (ci := 16) (v := .int 0) (C := "BallothallModel$Sharing") (T := TX16) (N := 7) hx hb hts iX16 hown hG.1 hP 8 rfl rfl 6 (by decide) (va_Nw.use rfl (hG.2.1 _ n_1880 rfl)) (fun _ h9 => h9) rfl d_14_15_319 ?_
  refine va_putN (D := z.1) (ci := 15) (v := .int 0) (ty := .int) (C := "BallothallModel$Seats") (T := TX15) (N := 7) hx hb hts iX15 tyX15 tyX15_ok nmX15 hown hG.1 hP hD hS 1 rfl rfl 4 (by decide) (va_Nw.use rfl (hG.2.1 _ n_1846 rfl)) (fun _ h9 => h9) rfl (by decide +kernel) rfl rfl (Nat.le_of_ble_eq_true rfl) d_14_15_322 (fun H locs hP hD hS => ?_)
  have hP : va_P z.1 classes [(a0, .inl (z.2 0, 0, .inl (fun _ => 0))), (q0, .inr (15, [.ref a0, .ref a1, .ref (u0.1 0), .ref (u0.1 1), .int 0, .int 0, .int 0])), (q1, .inl (z.2 0, 0, .inl (fun _ => 0))), (q2, .inl (z.2 1, 0, .inr (.inl (fun _ => 0)))), (q3, .inl (z.2 0, 0, .inl (fun _ => 0))), (q4, .inl (z.2 1, 0, .inr (.inl (fun _ => 0)))), (q5, .inl (z.2 0, 0, .inl (fun _ => 0))), (q6, .inl (z.2 0, 0, .inl (fun _ => 0))), (q7, .inr (16, [.int 0, .ref q4, .ref q5, .ref q6, .ref (u1.1 0), .ref (u1.1 1), .int 0]))] H := hP
  have hD : va_D A [(a0, .inl (z.2 0, 0, .inl (fun _ => 0))), (q0, .inr (15, [.ref a0, .ref a1, .ref (u0.1 0), .ref (u0.1 1), .int 0, .int 0, .int 0])), (q1, .inl (z.2 0, 0, .inl (fun _ => 0))), (q2, .inl (z.2 1, 0, .inr (.inl (fun _ => 0)))), (q3, .inl (z.2 0, 0, .inl (fun _ => 0))), (q4, .inl (z.2 1, 0, .inr (.inl (fun _ => 0)))), (q5, .inl (z.2 0, 0, .inl (fun _ => 0))), (q6, .inl (z.2 0, 0, .inl (fun _ => 0))), (q7, .inr (16, [.int 0, .ref q4, .ref q5, .ref q6, .ref (u1.1 0), .ref (u1.1 1), .int 0]))] := hD
  refine lv_iconst (v := 0) hx hb d_14_15_325 (by decide +kernel) ?_
  refine lv_istore (lv' := [(18, .int 0), (17, .ref q7), (16, .ref q6), (15, .ref q5), (14, .ref q4), (13, .int 0), (12, .ref q3), (11, .ref q2), (10, .ref q1), (8, .long 0), (7, .ref q0), (6, .int 0), (0, .ref a0), (1, .ref a1), (2, .ref a2), (3, .int 5), (4, .int x0), (5, .int 0)]) hx hb d_14_15_326 hl (by decide) rfl (fun ls hl => ?_)
  refine lv_iload hx hb d_14_15_328 (lv_at hl 0 rfl) ?_
  refine lv_aload hx hb d_14_15_330 (lv_at hl 1 rfl) ?_
  refine va_getN (D := z.1) (ci := 16) (v := .int 0) (C := "BallothallModel$Sharing") (T := TX16) (N := 7) hx hb hts iX16 hown hG.1 hP 8 rfl rfl 6 (by decide) (va_Nw.use rfl (hG.2.1 _ n_1880 rfl)) (fun _ h9 => h9) rfl d_14_15_332 ?_
  refine lv_icmp_ge (tgt := 363) hx hb d_14_15_335 (by decide) (fun _ => ?_) (fun c9 => absurd (by decide +kernel) c9)
  refine lv_iconst (v := 0) hx hb d_14_15_363 (by decide +kernel) ?_
  refine lv_istore (lv' := [(18, .int 0), (17, .ref q7), (16, .ref q6), (15, .ref q5), (14, .ref q4), (13, .int 0), (12, .ref q3), (11, .ref q2), (10, .ref q1), (8, .long 0), (7, .ref q0), (6, .int 0), (0, .ref a0), (1, .ref a1), (2, .ref a2), (3, .int 5), (4, .int x0), (5, .int 0)]) hx hb d_14_15_364 hl (by decide) rfl (fun ls hl => ?_)
  refine lv_iload hx hb d_14_15_366 (lv_at hl 0 rfl) ?_
  refine lv_iload hx hb d_14_15_368 (lv_at hl 5 rfl) ?_
  refine lv_icmp_ge (tgt := 531) hx hb d_14_15_370 (by decide) (fun _ => ?_) (fun c9 => absurd (by decide +kernel) c9)
  refine lv_aload hx hb d_14_15_531 (lv_at hl 10 rfl) ?_
  refine W.widen (k := 12) (n := 144) (Nat.le_of_ble_eq_true rfl) (Nat.le_of_ble_eq_true rfl) ?_
  exact W.aret hx hb hr (Or.inl ⟨_, rfl⟩) (Or.inr ⟨_, rfl⟩) (fun t ht hW => qk hP hD hS [0] rfl ((fun k => ([q0] : List Nat).getD k 0), (fun _ _ => none)) rfl rfl rfl ht) hS.2.2 d_14_15_533
set_option maxRecDepth 100000 in
set_option maxHeartbeats 4000000 in
theorem c223_BModel_distributed (l : Launch) (z : Zz) (a0 a1 a2 a3 a4 a5 a6 a7 a8 a9 a10 a11 a12 a13 : Nat) (x0 : Int32) : CT l z ⟨"BallothallModel", "distributed", "(III)LBallothallModel$Seats;"⟩ prog_14_method_41_code 7 (some (.object "BallothallModel$Seats")) [.ref a0, .int 5, .int x0, .int 0] [(a0, .inr (18, [.ref a1, .ref a2, .int 0, .ref a3, .int 0, .ref a4, .int 0, .null, .int 0, .null, .long 0, .int 0, .null])), (a1, .inr (17, [.int 0, .ref a5, .ref a6, .int 0, .ref a7, .ref a8, .ref a9, .null, .null, .int 0, .ref a10, .ref a11, .ref a12, .int 0, .ref a13, .int 1]))] 3 104 14 144 (fun u => some (.ref (u.1 0))) (fun u => [(a0, .inr (18, [.ref a1, .ref a2, .int 0, .ref a3, .int 0, .ref a4, .int 0, .null, .int 0, .null, .long 0, .int 0, .null])), (a1, .inr (17, [.int 0, .ref a5, .ref a6, .int 0, .ref a7, .ref a8, .ref a9, .null, .null, .int 0, .ref a10, .ref a11, .ref a12, .int 0, .ref a13, .int 1]))]) := by
  refine CT.of (own := "BallothallModel") (by decide +kernel) (Nat.le_of_ble_eq_true rfl) rfl (fun p e s m below meth c A ls hx hb hml hr hts hown hlocks hin hA hG hZ hP hD hS hl => ?_)
  have hl : lv_has ls 7 [(0, .ref a0), (1, .int 5), (2, .int x0), (3, .int 0)] := hl
  refine lv_aload_n hx hb d_14_41_0 rfl (lv_at hl 0 rfl) ?_
  refine va_get (D := z.1) (ci := 18) (v := .ref a1) (C := "BallothallModel") (T := TX18) (N := 13) hx hb hts iX18 hown hG.1 hP 0 rfl rfl 0 (by decide) (hts _ w_1645) (fun _ h9 => h9) rfl d_14_41_1 ?_
  refine va_getN (D := z.1) (ci := 17) (v := .int 0) (C := "BallothallModel$State") (T := TX17) (N := 16) hx hb hts iX17 hown hG.1 hP 1 rfl rfl 3 (by decide) (va_Nw.use rfl (hG.2.1 _ n_1586 rfl)) (fun _ h9 => h9) rfl d_14_41_4 ?_
  refine va_newa (atype := .int) (N' := 0) (a0 := (0, .inl (fun _ => 0))) hx hb (hts _ w_105) rfl hG.1 hP hD hS hA (fun _ => rfl) (by decide +kernel) (by decide +kernel) (Nat.le_of_ble_eq_true rfl) (Nat.le_of_ble_eq_true rfl) (Nat.le_of_ble_eq_true rfl) d_14_41_7 (fun q0 cA9 H hK9 hP hD hS => ?_)
  obtain rfl := ty_eq0 hK9
  clear hK9
  have hP : va_P z.1 classes [(a0, .inr (18, [.ref a1, .ref a2, .int 0, .ref a3, .int 0, .ref a4, .int 0, .null, .int 0, .null, .long 0, .int 0, .null])), (a1, .inr (17, [.int 0, .ref a5, .ref a6, .int 0, .ref a7, .ref a8, .ref a9, .null, .null, .int 0, .ref a10, .ref a11, .ref a12, .int 0, .ref a13, .int 1])), (q0, .inl (z.2 0, 0, .inl (fun _ => 0)))] H := hP
  have hD : va_D A [(a0, .inr (18, [.ref a1, .ref a2, .int 0, .ref a3, .int 0, .ref a4, .int 0, .null, .int 0, .null, .long 0, .int 0, .null])), (a1, .inr (17, [.int 0, .ref a5, .ref a6, .int 0, .ref a7, .ref a8, .ref a9, .null, .null, .int 0, .ref a10, .ref a11, .ref a12, .int 0, .ref a13, .int 1])), (q0, .inl (z.2 0, 0, .inl (fun _ => 0)))] := hD
  refine lv_astore (lv' := [(4, .ref q0), (0, .ref a0), (1, .int 5), (2, .int x0), (3, .int 0)]) hx hb d_14_41_9 hl (by decide) rfl (fun ls hl => ?_)
  refine lv_aload_n hx hb d_14_41_11 rfl (lv_at hl 1 rfl) ?_
  refine va_get (D := z.1) (ci := 18) (v := .ref a1) (C := "BallothallModel") (T := TX18) (N := 13) hx hb hts iX18 hown hG.1 hP 0 rfl rfl 0 (by decide) (hts _ w_1645) (fun _ h9 => h9) rfl d_14_41_12 ?_
  refine va_getN (D := z.1) (ci := 17) (v := .int 0) (C := "BallothallModel$State") (T := TX17) (N := 16) hx hb hts iX17 hown hG.1 hP 1 rfl rfl 3 (by decide) (va_Nw.use rfl (hG.2.1 _ n_1586 rfl)) (fun _ h9 => h9) rfl d_14_41_15 ?_
  refine va_newa (atype := .int) (N' := 0) (a0 := (0, .inl (fun _ => 0))) hx hb (hts _ w_105) rfl hG.1 hP hD hS hA (fun _ => rfl) (by decide +kernel) (by decide +kernel) (Nat.le_of_ble_eq_true rfl) (Nat.le_of_ble_eq_true rfl) (Nat.le_of_ble_eq_true rfl) d_14_41_18 (fun q1 cA9 H hK9 hP hD hS => ?_)
  obtain rfl := ty_eq0 hK9
  clear hK9
  have hP : va_P z.1 classes [(a0, .inr (18, [.ref a1, .ref a2, .int 0, .ref a3, .int 0, .ref a4, .int 0, .null, .int 0, .null, .long 0, .int 0, .null])), (a1, .inr (17, [.int 0, .ref a5, .ref a6, .int 0, .ref a7, .ref a8, .ref a9, .null, .null, .int 0, .ref a10, .ref a11, .ref a12, .int 0, .ref a13, .int 1])), (q0, .inl (z.2 0, 0, .inl (fun _ => 0))), (q1, .inl (z.2 0, 0, .inl (fun _ => 0)))] H := hP
  have hD : va_D A [(a0, .inr (18, [.ref a1, .ref a2, .int 0, .ref a3, .int 0, .ref a4, .int 0, .null, .int 0, .null, .long 0, .int 0, .null])), (a1, .inr (17, [.int 0, .ref a5, .ref a6, .int 0, .ref a7, .ref a8, .ref a9, .null, .null, .int 0, .ref a10, .ref a11, .ref a12, .int 0, .ref a13, .int 1])), (q0, .inl (z.2 0, 0, .inl (fun _ => 0))), (q1, .inl (z.2 0, 0, .inl (fun _ => 0)))] := hD
  refine lv_astore (lv' := [(5, .ref q1), (4, .ref q0), (0, .ref a0), (1, .int 5), (2, .int x0), (3, .int 0)]) hx hb d_14_41_20 hl (by decide) rfl (fun ls hl => ?_)
  refine lv_iconst (v := 0) hx hb d_14_41_22 (by decide +kernel) ?_
  refine lv_istore (lv' := [(6, .int 0), (5, .ref q1), (4, .ref q0), (0, .ref a0), (1, .int 5), (2, .int x0), (3, .int 0)]) hx hb d_14_41_23 hl (by decide) rfl (fun ls hl => ?_)
  refine lv_iload hx hb d_14_41_25 (lv_at hl 0 rfl) ?_
  refine lv_aload_n hx hb d_14_41_27 rfl (lv_at hl 3 rfl) ?_
  refine va_get (D := z.1) (ci := 18) (v := .ref a1) (C := "BallothallModel") (T := TX18) (N := 13) hx hb hts iX18 hown hG.1 hP 0 rfl rfl 0 (by decide) (hts _ w_1645) (fun _ h9 => h9) rfl d_14_41_28 ?_
  refine va_getN (D := z.1) (ci := 17) (v := .int 0) (C := "BallothallModel$State") (T := TX17) (N := 16) hx hb hts iX17 hown hG.1 hP 1 rfl rfl 3 (by decide) (va_Nw.use rfl (hG.2.1 _ n_1586 rfl)) (fun _ h9 => h9) rfl d_14_41_31 ?_
  refine lv_icmp_ge (tgt := 73) hx hb d_14_41_34 (by decide) (fun _ => ?_) (fun c9 => absurd (by decide +kernel) c9)
  refine lv_aload hx hb d_14_41_73 (lv_at hl 2 rfl) ?_
  refine lv_aload hx hb d_14_41_75 (lv_at hl 1 rfl) ?_
  refine lv_aload_n hx hb d_14_41_77 rfl (lv_at hl 3 rfl) ?_
  refine va_get (D := z.1) (ci := 18) (v := .ref a1) (C := "BallothallModel") (T := TX18) (N := 13) hx hb hts iX18 hown hG.1 hP 0 rfl rfl 0 (by decide) (hts _ w_1645) (fun _ h9 => h9) rfl d_14_41_78 ?_
  refine va_getN (D := z.1) (ci := 17) (v := .ref a9) (C := "BallothallModel$State") (T := TX17) (N := 16) hx hb hts iX17 hown hG.1 hP 1 rfl rfl 6 (by decide) (va_Nw.use rfl (hG.2.1 _ n_1592 rfl)) (fun _ h9 => h9) rfl d_14_41_81 ?_
  refine lv_iload_n hx hb d_14_41_84 rfl (lv_at hl 4 rfl) ?_
  refine lv_iload_n hx hb d_14_41_85 rfl (lv_at hl 5 rfl) ?_
  refine lv_iload_n hx hb d_14_41_86 rfl (lv_at hl 6 rfl) ?_
  refine kS (As := [.ref q0, .ref q1, .ref a9, .int 5, .int x0, .int 0]) (rest := []) (wr := [(a0, .inr (18, [.ref a1, .ref a2, .int 0, .ref a3, .int 0, .ref a4, .int 0, .null, .int 0, .null, .long 0, .int 0, .null])), (a1, .inr (17, [.int 0, .ref a5, .ref a6, .int 0, .ref a7, .ref a8, .ref a9, .null, .null, .int 0, .ref a10, .ref a11, .ref a12, .int 0, .ref a13, .int 1])), (q1, .inl (z.2 0, 0, .inl (fun _ => 0)))]) (c222_BModel_distributed l z q0 q1 a9 x0) hx hb hml hown hts w_1831 w_1829 w_1830 w_12 md_f197f8 ⟨Nat.le_of_ble_eq_true rfl, Nat.le_of_ble_eq_true rfl⟩ hG hZ hP hD hS hA [2] [0, 1, 3] rfl rfl rfl rfl rfl hl.1 rfl (Nat.le_of_ble_eq_true rfl) d_14_41_87 ⟨Nat.le_of_ble_eq_true rfl, Nat.le_of_ble_eq_true rfl⟩ (fun u0 H locs hP hD hS => ?_)
  have hP : va_P z.1 classes [(a0, .inr (18, [.ref a1, .ref a2, .int 0, .ref a3, .int 0, .ref a4, .int 0, .null, .int 0, .null, .long 0, .int 0, .null])), (a1, .inr (17, [.int 0, .ref a5, .ref a6, .int 0, .ref a7, .ref a8, .ref a9, .null, .null, .int 0, .ref a10, .ref a11, .ref a12, .int 0, .ref a13, .int 1])), (q1, .inl (z.2 0, 0, .inl (fun _ => 0))), (q0, .inl (z.2 0, 0, .inl (fun _ => 0)))] H := hP
  have hD : va_D A [(a0, .inr (18, [.ref a1, .ref a2, .int 0, .ref a3, .int 0, .ref a4, .int 0, .null, .int 0, .null, .long 0, .int 0, .null])), (a1, .inr (17, [.int 0, .ref a5, .ref a6, .int 0, .ref a7, .ref a8, .ref a9, .null, .null, .int 0, .ref a10, .ref a11, .ref a12, .int 0, .ref a13, .int 1])), (q1, .inl (z.2 0, 0, .inl (fun _ => 0))), (q0, .inl (z.2 0, 0, .inl (fun _ => 0)))] := hD
  refine W.eq (g2 := F0 m 90 ls [.ref (u0.1 0)]) rfl ?_
  refine W.widen (k := 14) (n := 144) (Nat.le_of_ble_eq_true rfl) (Nat.le_of_ble_eq_true rfl) ?_
  exact W.aret hx hb hr (Or.inl ⟨_, rfl⟩) (Or.inr ⟨_, rfl⟩) (fun t ht hW => qk hP hD hS [0, 1] rfl ((fun k => ([(u0.1 0)] : List Nat).getD k 0), (fun _ _ => none)) rfl rfl rfl ht) hS.2.2 d_14_41_90
set_option maxRecDepth 100000 in
set_option maxHeartbeats 4000000 in
theorem b224_lossAt (l : Launch) (z : Zz) (a0 : Nat) (a1 : Nat) (a10 : Nat) (a11 : Nat) (a12 : Nat) (a13 : Nat) (a2 : Nat) (a3 : Nat) (a4 : Nat) (a5 : Nat) (a6 : Nat) (a7 : Nat) (a8 : Nat) (a9 : Nat) (x0 : Int32) (h0 : ¬ x0 < 1) (h1 : ¬ 60 < x0) (HV : Int32) (hL : ¬ x0 < HV) {p : Program} {e : Env} {s : State} {m : MethodId} {below : List Frame} {meth : Method} {c : Code} {A : Nat → Prop} {Q : State → Prop} (hx : p.tables.exec = Jvm.exec) (hb : c.code = prog_14_method_46_code) (hml : c.maxLocals = 6) (hts : ∀ w ∈ WG, w.before ([.ref a0, .int x0] : List Value).toArray s = true) (hown : s.vm.findClass "BallothallModel" = some m.cls) (hA : ∀ q, s.heap.size ≤ q → A q) (hG : KG z s) (hZ : XZ A s) (cc ss : Nat) (hcc : cc + 14 ≤ 868) (hss : ss + 144 ≤ 8928) (hk : ∀ (H : Heap) (locs : List Loc) (ls : Array Slot), va_P z.1 classes [(a0, .inr (18, [.ref a1, .ref a2, .int 0, .ref a3, .int 0, .ref a4, .int 0, .null, .int 0, .null, .long 0, .int 0, .null])), (a1, .inr (17, [.int 0, .ref a5, .ref a6, .int 0, .ref a7, .ref a8, .ref a9, .null, .null, .int 0, .ref a10, .ref a11, .ref a12, .int 0, .ref a13, .int 1]))] H → va_D A [(a0, .inr (18, [.ref a1, .ref a2, .int 0, .ref a3, .int 0, .ref a4, .int 0, .null, .int 0, .null, .long 0, .int 0, .null])), (a1, .inr (17, [.int 0, .ref a5, .ref a6, .int 0, .ref a7, .ref a8, .ref a9, .null, .null, .int 0, .ref a10, .ref a11, .ref a12, .int 0, .ref a13, .int 1]))] → va_S A s.heap H locs → lv_has ls 6 [(0, .ref a0), (1, .int x0), (3, .int (HV + 1))] → W p l e (rmK 4 138 868 8928) s m ([.ref a0, .int x0] : List Value).toArray below meth c H locs (cc + 14) (ss + 144) Q (F0 m 27 ls [])) (H : Heap) (locs : List Loc) (ls : Array Slot) (hP : va_P z.1 classes [(a0, .inr (18, [.ref a1, .ref a2, .int 0, .ref a3, .int 0, .ref a4, .int 0, .null, .int 0, .null, .long 0, .int 0, .null])), (a1, .inr (17, [.int 0, .ref a5, .ref a6, .int 0, .ref a7, .ref a8, .ref a9, .null, .null, .int 0, .ref a10, .ref a11, .ref a12, .int 0, .ref a13, .int 1]))] H) (hD : va_D A [(a0, .inr (18, [.ref a1, .ref a2, .int 0, .ref a3, .int 0, .ref a4, .int 0, .null, .int 0, .null, .long 0, .int 0, .null])), (a1, .inr (17, [.int 0, .ref a5, .ref a6, .int 0, .ref a7, .ref a8, .ref a9, .null, .null, .int 0, .ref a10, .ref a11, .ref a12, .int 0, .ref a13, .int 1]))]) (hS : va_S A s.heap H locs) (hl : lv_has ls 6 [(0, .ref a0), (1, .int x0), (3, .int HV)]) : W p l e (rmK 4 138 868 8928) s m ([.ref a0, .int x0] : List Value).toArray below meth c H locs cc ss Q (F0 m 27 ls []) := by
  refine lv_iload_n hx hb d_14_46_27 rfl (lv_at hl 2 rfl) ?_
  refine lv_iload_n hx hb d_14_46_28 rfl (lv_at hl 1 rfl) ?_
  refine lv_icmp_gt (tgt := 93) hx hb d_14_46_29 (by decide) (fun c9 => absurd c9 hL) (fun _ => ?_)
  refine lv_aload_n hx hb d_14_46_32 rfl (lv_at hl 0 rfl) ?_
  refine lv_iconst (v := 5) hx hb d_14_46_33 (by decide +kernel) ?_
  refine lv_iload_n hx hb d_14_46_34 rfl (lv_at hl 2 rfl) ?_
  refine lv_iconst (v := 1) hx hb d_14_46_35 (by decide +kernel) ?_
  refine lv_iadd hx hb d_14_46_36 ?_
  refine lv_iconst (v := 0) hx hb d_14_46_37 (by decide +kernel) ?_
  refine kV (As := [.int 5, .int (HV + 1), .int 0]) (rest := []) (wr := []) (c223_BModel_distributed l z a0 a1 a2 a3 a4 a5 a6 a7 a8 a9 a10 a11 a12 a13 (HV + 1)) hx hb hml hown hts w_1828 w_1825 w_1827 w_s_ffb6bc w_12 md_fe6893 ⟨Nat.le_of_ble_eq_true rfl, Nat.le_of_ble_eq_true rfl⟩ hG hZ hP hD hS hA 0 rfl rfl rfl [0, 1] [] rfl rfl rfl rfl rfl hl.1 rfl (Nat.le_of_ble_eq_true rfl) d_14_46_38 ⟨(Nat.le_trans (m := cc + 14) (by omega) (Nat.le_trans hcc (Nat.le_of_ble_eq_true rfl))), (Nat.le_trans (m := ss + 144) (by omega) (Nat.le_trans hss (Nat.le_of_ble_eq_true rfl)))⟩ (fun u3 H locs hP hD hS => ?_)
  have hP : va_P z.1 classes [(a0, .inr (18, [.ref a1, .ref a2, .int 0, .ref a3, .int 0, .ref a4, .int 0, .null, .int 0, .null, .long 0, .int 0, .null])), (a1, .inr (17, [.int 0, .ref a5, .ref a6, .int 0, .ref a7, .ref a8, .ref a9, .null, .null, .int 0, .ref a10, .ref a11, .ref a12, .int 0, .ref a13, .int 1]))] H := hP
  have hD : va_D A [(a0, .inr (18, [.ref a1, .ref a2, .int 0, .ref a3, .int 0, .ref a4, .int 0, .null, .int 0, .null, .long 0, .int 0, .null])), (a1, .inr (17, [.int 0, .ref a5, .ref a6, .int 0, .ref a7, .ref a8, .ref a9, .null, .null, .int 0, .ref a10, .ref a11, .ref a12, .int 0, .ref a13, .int 1]))] := hD
  refine W.eq (g2 := F0 m 41 ls [.ref (u3.1 0)]) rfl ?_
  refine lv_astore (lv' := [(4, .ref (u3.1 0)), (0, .ref a0), (1, .int x0), (3, .int HV)]) hx hb d_14_46_41 hl (by decide) rfl (fun ls hl => ?_)
  refine lv_iconst (v := 0) hx hb d_14_46_43 (by decide +kernel) ?_
  refine lv_istore (lv' := [(5, .int 0), (4, .ref (u3.1 0)), (0, .ref a0), (1, .int x0), (3, .int HV)]) hx hb d_14_46_44 hl (by decide) rfl (fun ls hl => ?_)
  refine lv_iload hx hb d_14_46_46 (lv_at hl 0 rfl) ?_
  refine lv_aload_n hx hb d_14_46_48 rfl (lv_at hl 2 rfl) ?_
  refine va_get (D := z.1) (ci := 18) (v := .ref a1) (C := "BallothallModel") (T := TX18) (N := 13) hx hb hts iX18 hown hG.1 hP 0 rfl rfl 0 (by decide) (hts _ w_1645) (fun _ h9 => h9) rfl d_14_46_49 ?_
  refine va_getN (D := z.1) (ci := 17) (v := .int 0) (C := "BallothallModel$State") (T := TX17) (N := 16) hx hb hts iX17 hown hG.1 hP 1 rfl rfl 3 (by decide) (va_Nw.use rfl (hG.2.1 _ n_1586 rfl)) (fun _ h9 => h9) rfl d_14_46_52 ?_
  refine lv_icmp_ge (tgt := 84) hx hb d_14_46_55 (by decide) (fun _ => ?_) (fun c9 => absurd (by decide +kernel) c9)
  refine lv_aload hx hb d_14_46_84 (lv_at hl 1 rfl) ?_
  refine lv_astore_n (lv' := [(2, .ref (u3.1 0)), (5, .int 0), (4, .ref (u3.1 0)), (0, .ref a0), (1, .int x0), (3, .int HV)]) hx hb d_14_46_86 rfl hl (by decide) rfl (fun ls hl => ?_)
  refine lv_iinc (v := (HV + 1)) (lv' := [(3, .int (HV + 1)), (2, .ref (u3.1 0)), (5, .int 0), (4, .ref (u3.1 0)), (0, .ref a0), (1, .int x0)]) hx hb d_14_46_87 hl (k := 5) rfl rfl (by decide) rfl (fun ls hl => ?_)
  refine lv_goto (tgt := 27) hx hb d_14_46_90 (by decide) ?_
  refine W.widen (k := cc + 14) (n := ss + 144) (by omega) (by omega) ?_
  exact hk H locs ls (hP.sub [0, 1] rfl) (hD.sub [0, 1] rfl rfl) hS (lv_sub hl [4, 5, 0] rfl)
set_option maxRecDepth 100000 in
set_option maxHeartbeats 4000000 in
theorem l225_lossAt (l : Launch) (z : Zz) (a0 : Nat) (a1 : Nat) (a10 : Nat) (a11 : Nat) (a12 : Nat) (a13 : Nat) (a2 : Nat) (a3 : Nat) (a4 : Nat) (a5 : Nat) (a6 : Nat) (a7 : Nat) (a8 : Nat) (a9 : Nat) (x0 : Int32) (h0 : ¬ x0 < 1) (h1 : ¬ 60 < x0) {p : Program} {e : Env} {s : State} {m : MethodId} {below : List Frame} {meth : Method} {c : Code} {A : Nat → Prop} {Q : State → Prop} (hx : p.tables.exec = Jvm.exec) (hb : c.code = prog_14_method_46_code) (hml : c.maxLocals = 6) (hts : ∀ w ∈ WG, w.before ([.ref a0, .int x0] : List Value).toArray s = true) (hown : s.vm.findClass "BallothallModel" = some m.cls) (hA : ∀ q, s.heap.size ≤ q → A q) (hG : KG z s) (hZ : XZ A s) (hk : ∀ (HV : Int32), x0 < HV → ∀ (H : Heap) (locs : List Loc) (ls : Array Slot), va_P z.1 classes [(a0, .inr (18, [.ref a1, .ref a2, .int 0, .ref a3, .int 0, .ref a4, .int 0, .null, .int 0, .null, .long 0, .int 0, .null])), (a1, .inr (17, [.int 0, .ref a5, .ref a6, .int 0, .ref a7, .ref a8, .ref a9, .null, .null, .int 0, .ref a10, .ref a11, .ref a12, .int 0, .ref a13, .int 1]))] H → va_D A [(a0, .inr (18, [.ref a1, .ref a2, .int 0, .ref a3, .int 0, .ref a4, .int 0, .null, .int 0, .null, .long 0, .int 0, .null])), (a1, .inr (17, [.int 0, .ref a5, .ref a6, .int 0, .ref a7, .ref a8, .ref a9, .null, .null, .int 0, .ref a10, .ref a11, .ref a12, .int 0, .ref a13, .int 1]))] → va_S A s.heap H locs → lv_has ls 6 [(0, .ref a0), (1, .int x0), (3, .int HV)] → W p l e (rmK 4 138 868 8928) s m ([.ref a0, .int x0] : List Value).toArray below meth c H locs 868 8928 Q (F0 m 27 ls [])) : ∀ (k i cc ss : Nat), i + k = 62 → cc + k * 14 ≤ 868 → ss + k * 144 ≤ 8928 → ∀ (H : Heap) (locs : List Loc) (ls : Array Slot), va_P z.1 classes [(a0, .inr (18, [.ref a1, .ref a2, .int 0, .ref a3, .int 0, .ref a4, .int 0, .null, .int 0, .null, .long 0, .int 0, .null])), (a1, .inr (17, [.int 0, .ref a5, .ref a6, .int 0, .ref a7, .ref a8, .ref a9, .null, .null, .int 0, .ref a10, .ref a11, .ref a12, .int 0, .ref a13, .int 1]))] H → va_D A [(a0, .inr (18, [.ref a1, .ref a2, .int 0, .ref a3, .int 0, .ref a4, .int 0, .null, .int 0, .null, .long 0, .int 0, .null])), (a1, .inr (17, [.int 0, .ref a5, .ref a6, .int 0, .ref a7, .ref a8, .ref a9, .null, .null, .int 0, .ref a10, .ref a11, .ref a12, .int 0, .ref a13, .int 1]))] → va_S A s.heap H locs → lv_has ls 6 [(0, .ref a0), (1, .int x0), (3, .int (nI i))] → W p l e (rmK 4 138 868 8928) s m ([.ref a0, .int x0] : List Value).toArray below meth c H locs cc ss Q (F0 m 27 ls []) := by
  intro k
  induction k with
  | zero =>
    intro i cc ss hi hc1 hs1 H locs ls hP hD hS hl
    have e9 : i = 62 := by omega
    subst e9
    refine W.widen (k := 868) (n := 8928) (by omega) (by omega) ?_
    exact hk _ (lt62 h1) H locs ls hP hD hS hl
  | succ k ih =>
    intro i cc ss hi hc1 hs1 H locs ls hP hD hS hl
    by_cases hL : x0 < nI i
    · refine W.widen (k := 868) (n := 8928) (by omega) (by omega) ?_
      exact hk _ hL H locs ls hP hD hS hl
    · refine b224_lossAt l z a0 a1 a10 a11 a12 a13 a2 a3 a4 a5 a6 a7 a8 a9 x0 h0 h1 (nI i) hL hx hb hml hts hown hA hG hZ cc ss (by rw [Nat.succ_mul] at hc1; omega) (by rw [Nat.succ_mul] at hs1; omega) (fun H locs ls hP hD hS hl => ?_) H locs ls hP hD hS hl
      rw [nI_1] at hl
      exact ih (i + 1) (cc + 14) (ss + 144) (by omega) (by rw [Nat.succ_mul] at hc1; omega) (by rw [Nat.succ_mul] at hs1; omega) H locs ls hP hD hS hl
set_option maxRecDepth 100000 in
set_option maxHeartbeats 4000000 in
theorem c226_BModel_lossAt (l : Launch) (z : Zz) (a0 a1 a2 a3 a4 a5 a6 a7 a8 a9 a10 a11 a12 a13 : Nat) (x0 : Int32) (h0 : ¬ x0 < 1) (h1 : ¬ 60 < x0) : CT l z ⟨"BallothallModel", "lossAt", "(I)I"⟩ prog_14_method_46_code 6 (some .int) [.ref a0, .int x0] [(a0, .inr (18, [.ref a1, .ref a2, .int 0, .ref a3, .int 0, .ref a4, .int 0, .null, .int 0, .null, .long 0, .int 0, .null])), (a1, .inr (17, [.int 0, .ref a5, .ref a6, .int 0, .ref a7, .ref a8, .ref a9, .null, .null, .int 0, .ref a10, .ref a11, .ref a12, .int 0, .ref a13, .int 1]))] 4 138 868 8928 (fun u => some (.int (-1))) (fun u => [(a0, .inr (18, [.ref a1, .ref a2, .int 0, .ref a3, .int 0, .ref a4, .int 0, .null, .int 0, .null, .long 0, .int 0, .null])), (a1, .inr (17, [.int 0, .ref a5, .ref a6, .int 0, .ref a7, .ref a8, .ref a9, .null, .null, .int 0, .ref a10, .ref a11, .ref a12, .int 0, .ref a13, .int 1]))]) := by
  refine CT.of (own := "BallothallModel") (by decide +kernel) (Nat.le_of_ble_eq_true rfl) rfl (fun p e s m below meth c A ls hx hb hml hr hts hown hlocks hin hA hG hZ hP hD hS hl => ?_)
  have hl : lv_has ls 6 [(0, .ref a0), (1, .int x0)] := hl
  refine lv_aload_n hx hb d_14_46_0 rfl (lv_at hl 0 rfl) ?_
  refine lv_iload_n hx hb d_14_46_1 rfl (lv_at hl 1 rfl) ?_
  refine lv_iconst (v := 1) hx hb d_14_46_2 (by decide +kernel) ?_
  refine lv_bipush (v := 60) hx hb d_14_46_3 (by decide +kernel) ?_
  refine kS (As := [.int x0, .int 1, .int 60]) (rest := [.ref a0]) (wr := [(a0, .inr (18, [.ref a1, .ref a2, .int 0, .ref a3, .int 0, .ref a4, .int 0, .null, .int 0, .null, .long 0, .int 0, .null])), (a1, .inr (17, [.int 0, .ref a5, .ref a6, .int 0, .ref a7, .ref a8, .ref a9, .null, .null, .int 0, .ref a10, .ref a11, .ref a12, .int 0, .ref a13, .int 1]))]) (c166_BModel_isIn l z x0 h0 h1) hx hb hml hown hts w_1718 w_1716 w_1717 w_12 md_bca45c ⟨Nat.le_of_ble_eq_true rfl, Nat.le_of_ble_eq_true rfl⟩ hG hZ hP hD hS hA [] [0, 1] rfl rfl rfl rfl rfl hl.1 rfl (Nat.le_of_ble_eq_true rfl) d_14_46_5 ⟨Nat.le_of_ble_eq_true rfl, Nat.le_of_ble_eq_true rfl⟩ (fun u0 H locs hP hD hS => ?_)
  have hP : va_P z.1 classes [(a0, .inr (18, [.ref a1, .ref a2, .int 0, .ref a3, .int 0, .ref a4, .int 0, .null, .int 0, .null, .long 0, .int 0, .null])), (a1, .inr (17, [.int 0, .ref a5, .ref a6, .int 0, .ref a7, .ref a8, .ref a9, .null, .null, .int 0, .ref a10, .ref a11, .ref a12, .int 0, .ref a13, .int 1]))] H := hP
  have hD : va_D A [(a0, .inr (18, [.ref a1, .ref a2, .int 0, .ref a3, .int 0, .ref a4, .int 0, .null, .int 0, .null, .long 0, .int 0, .null])), (a1, .inr (17, [.int 0, .ref a5, .ref a6, .int 0, .ref a7, .ref a8, .ref a9, .null, .null, .int 0, .ref a10, .ref a11, .ref a12, .int 0, .ref a13, .int 1]))] := hD
  refine W.eq (g2 := F0 m 8 ls [.int 1, .ref a0]) rfl ?_
  refine lv_iconst (v := 1) hx hb d_14_46_8 (by decide +kernel) ?_
  refine kV (As := [.int 1, .int 1]) (rest := []) (wr := [(a1, .inr (17, [.int 0, .ref a5, .ref a6, .int 0, .ref a7, .ref a8, .ref a9, .null, .null, .int 0, .ref a10, .ref a11, .ref a12, .int 0, .ref a13, .int 1]))]) (c16_BModel_ends l z a0 a1 a2 a3 a4) hx hb hml hown hts w_1696 w_1693 w_1695 w_s_f8f2b7 w_12 md_77b0f8 ⟨Nat.le_of_ble_eq_true rfl, Nat.le_of_ble_eq_true rfl⟩ hG hZ hP hD hS hA 0 rfl rfl rfl [0] [1] rfl rfl rfl rfl rfl hl.1 rfl (Nat.le_of_ble_eq_true rfl) d_14_46_9 ⟨Nat.le_of_ble_eq_true rfl, Nat.le_of_ble_eq_true rfl⟩ (fun u1 H locs hP hD hS => ?_)
  have hP : va_P z.1 classes [(a1, .inr (17, [.int 0, .ref a5, .ref a6, .int 0, .ref a7, .ref a8, .ref a9, .null, .null, .int 0, .ref a10, .ref a11, .ref a12, .int 0, .ref a13, .int 1])), (a0, .inr (18, [.ref a1, .ref a2, .int 0, .ref a3, .int 0, .ref a4, .int 0, .null, .int 0, .null, .long 0, .int 0, .null]))] H := hP
  have hD : va_D A [(a1, .inr (17, [.int 0, .ref a5, .ref a6, .int 0, .ref a7, .ref a8, .ref a9, .null, .null, .int 0, .ref a10, .ref a11, .ref a12, .int 0, .ref a13, .int 1])), (a0, .inr (18, [.ref a1, .ref a2, .int 0, .ref a3, .int 0, .ref a4, .int 0, .null, .int 0, .null, .long 0, .int 0, .null]))] := hD
  refine W.eq (g2 := F0 m 12 ls [.int 0]) rfl ?_
  refine lv_if_eq (tgt := 17) hx hb d_14_46_12 (by decide) (fun _ => ?_) (fun c9 => absurd (by decide +kernel) c9)
  refine lv_aload_n hx hb d_14_46_17 rfl (lv_at hl 0 rfl) ?_
  refine lv_iconst (v := 5) hx hb d_14_46_18 (by decide +kernel) ?_
  refine lv_iconst (v := 1) hx hb d_14_46_19 (by decide +kernel) ?_
  refine lv_iconst (v := 0) hx hb d_14_46_20 (by decide +kernel) ?_
  refine kV (As := [.int 5, .int 1, .int 0]) (rest := []) (wr := []) (c220_BModel_distributed l z a0 a1 a2 a3 a4 a5 a6 a7 a8 a9 a10 a11 a12 a13) hx hb hml hown hts w_1828 w_1825 w_1827 w_s_ffb6bc w_12 md_fe6893 ⟨Nat.le_of_ble_eq_true rfl, Nat.le_of_ble_eq_true rfl⟩ hG hZ hP hD hS hA 1 rfl rfl rfl [1, 0] [] rfl rfl rfl rfl rfl hl.1 rfl (Nat.le_of_ble_eq_true rfl) d_14_46_21 ⟨Nat.le_of_ble_eq_true rfl, Nat.le_of_ble_eq_true rfl⟩ (fun u2 H locs hP hD hS => ?_)
  have hP : va_P z.1 classes [(a0, .inr (18, [.ref a1, .ref a2, .int 0, .ref a3, .int 0, .ref a4, .int 0, .null, .int 0, .null, .long 0, .int 0, .null])), (a1, .inr (17, [.int 0, .ref a5, .ref a6, .int 0, .ref a7, .ref a8, .ref a9, .null, .null, .int 0, .ref a10, .ref a11, .ref a12, .int 0, .ref a13, .int 1]))] H := hP
  have hD : va_D A [(a0, .inr (18, [.ref a1, .ref a2, .int 0, .ref a3, .int 0, .ref a4, .int 0, .null, .int 0, .null, .long 0, .int 0, .null])), (a1, .inr (17, [.int 0, .ref a5, .ref a6, .int 0, .ref a7, .ref a8, .ref a9, .null, .null, .int 0, .ref a10, .ref a11, .ref a12, .int 0, .ref a13, .int 1]))] := hD
  refine W.eq (g2 := F0 m 24 ls [.ref (u2.1 0)]) rfl ?_
  refine lv_astore_n (lv' := [(2, .ref (u2.1 0)), (0, .ref a0), (1, .int x0)]) hx hb d_14_46_24 rfl hl (by decide) rfl (fun ls hl => ?_)
  refine lv_iconst (v := 1) hx hb d_14_46_25 (by decide +kernel) ?_
  refine lv_istore_n (lv' := [(3, .int 1), (2, .ref (u2.1 0)), (0, .ref a0), (1, .int x0)]) hx hb d_14_46_26 rfl hl (by decide) rfl (fun ls hl => ?_)
  have hl := lv_sub (l' := [(0, .ref a0), (1, .int x0), (3, .int (nI 1))]) hl [2, 3, 0] rfl
  refine W.widen (k := 14) (n := 144) (Nat.le_of_ble_eq_true rfl) (Nat.le_of_ble_eq_true rfl) ?_
  refine l225_lossAt l z a0 a1 a10 a11 a12 a13 a2 a3 a4 a5 a6 a7 a8 a9 x0 h0 h1 hx hb hml hts hown hA hG hZ (fun HV hL H locs ls hP hD hS hl => ?_) 61 1 14 144 rfl (Nat.le_of_ble_eq_true rfl) (Nat.le_of_ble_eq_true rfl) _ _ _ hP hD hS hl
  refine lv_iload_n hx hb d_14_46_27 rfl (lv_at hl 2 rfl) ?_
  refine lv_iload_n hx hb d_14_46_28 rfl (lv_at hl 1 rfl) ?_
  refine lv_icmp_gt (tgt := 93) hx hb d_14_46_29 (by decide) (fun _ => ?_) (fun c9 => absurd hL c9)
  refine lv_iconst (v := (-1)) hx hb d_14_46_93 (by decide +kernel) ?_
  refine W.widen (k := 868) (n := 8928) (Nat.le_of_ble_eq_true rfl) (Nat.le_of_ble_eq_true rfl) ?_
  exact W.iret hx hb hr (fun t ht hW => qk hP hD hS [0, 1] rfl ((fun k => k), (fun _ _ => none)) rfl rfl rfl ht) hS.2.2 d_14_46_94
set_option maxRecDepth 100000 in
set_option maxHeartbeats 4000000 in
theorem c227_BModel_thrown (l : Launch) (z : Zz) (a0 a1 a2 a3 a4 : Nat) : CT l z ⟨"BallothallModel", "thrown", "()I"⟩ prog_14_method_17_code 1 (some .int) [.ref a0] [(a0, .inr (18, [.ref a1, .ref a2, .int 0, .ref a3, .int 0, .ref a4, .int 0, .null, .int 0, .null, .long 0, .int 0, .null]))] 0 0 0 0 (fun u => some (.int 0)) (fun u => [(a0, .inr (18, [.ref a1, .ref a2, .int 0, .ref a3, .int 0, .ref a4, .int 0, .null, .int 0, .null, .long 0, .int 0, .null]))]) := by
  refine CT.of (own := "BallothallModel") (by decide +kernel) (Nat.le_of_ble_eq_true rfl) rfl (fun p e s m below meth c A ls hx hb hml hr hts hown hlocks hin hA hG hZ hP hD hS hl => ?_)
  have hl : lv_has ls 1 [(0, .ref a0)] := hl
  refine lv_aload_n hx hb d_14_17_0 rfl (lv_at hl 0 rfl) ?_
  refine va_get (D := z.1) (ci := 18) (v := .int 0) (C := "BallothallModel") (T := TX18) (N := 13) hx hb hts iX18 hown hG.1 hP 0 rfl rfl 6 (by decide) (hts _ w_1651) (fun _ h9 => h9) rfl d_14_17_1 ?_
  refine W.widen (k := 0) (n := 0) (Nat.le_of_ble_eq_true rfl) (Nat.le_of_ble_eq_true rfl) ?_
  exact W.iret hx hb hr (fun t ht hW => qk hP hD hS [0] rfl ((fun k => k), (fun _ _ => none)) rfl rfl rfl ht) hS.2.2 d_14_17_4
set_option maxRecDepth 100000 in
set_option maxHeartbeats 4000000 in
theorem c228_B_needRange (l : Launch) (z : Zz) (hl0 : l.stackTraces = false) (x0 : Int32) (h0 : x0 < 1) : XT l z ⟨"Ballothall", "needRange", "(III)V"⟩ prog_1_method_57_code 3 none [.int x0, .int 1, .int 3] [] 6 98 1 6 "java/lang/IllegalArgumentException" := by
  refine XT.of (own := "Ballothall") (by decide +kernel) (Nat.le_of_ble_eq_true rfl) rfl (fun p e s m below meth c A ls hx hb hml hr hts hown hlocks hin hA hG hZ hP hD hS hl hnt => ?_)
  have hl : lv_has ls 3 [(0, .int x0), (1, .int 1), (2, .int 3)] := hl
  refine lv_iload_n hx hb d_1_57_0 rfl (lv_at hl 0 rfl) ?_
  refine lv_iload_n hx hb d_1_57_1 rfl (lv_at hl 1 rfl) ?_
  refine lv_icmp_lt (tgt := 10) hx hb d_1_57_2 (by decide) (fun _ => ?_) (fun c9 => absurd h0 c9)
  exact x_newW (text := "out of range") hl0 hx hb hml hown hts hlocks hnt hG hZ hS hl.1 (by decide +kernel) w_877 w_21 (by decide) xa_310_a xa_310_b d_1_57_10 d_1_57_13 d_1_57_14 d_1_57_17 d_1_57_20 ⟨Nat.le_of_ble_eq_true rfl, Nat.le_of_ble_eq_true rfl, Nat.le_of_ble_eq_true rfl, Nat.le_of_ble_eq_true rfl⟩ (Nat.le_of_ble_eq_true rfl) (Nat.le_of_ble_eq_true rfl) (Nat.le_of_ble_eq_true rfl)
set_option maxRecDepth 100000 in
set_option maxHeartbeats 4000000 in
theorem c229_B_transferable (l : Launch) (z : Zz) (hl0 : l.stackTraces = false) (a0 : Nat) (x0 : Int32) (h0 : x0 < 1) : XT l z ⟨"Ballothall", "transferable", "(I)I"⟩ prog_1_method_17_code 3 (some .int) [.ref a0, .int x0] [] 7 128 1 6 "java/lang/IllegalArgumentException" := by
  refine XT.of (own := "Ballothall") (by decide +kernel) (Nat.le_of_ble_eq_true rfl) rfl (fun p e s m below meth c A ls hx hb hml hr hts hown hlocks hin hA hG hZ hP hD hS hl hnt => ?_)
  have hl : lv_has ls 3 [(0, .ref a0), (1, .int x0)] := hl
  refine lv_iload_n hx hb d_1_17_0 rfl (lv_at hl 1 rfl) ?_
  refine lv_iconst (v := 1) hx hb d_1_17_1 (by decide +kernel) ?_
  refine lv_iconst (v := 3) hx hb d_1_17_2 (by decide +kernel) ?_
  exact xS (As := [.int x0, .int 1, .int 3]) (rest := []) (wr := []) (c228_B_needRange l z hl0 x0 h0) hx hb hml hown hts w_876 w_874 w_875 w_1 md_519134 ⟨Nat.le_of_ble_eq_true rfl, Nat.le_of_ble_eq_true rfl⟩ hG hZ hP hD hS hA [] [] rfl rfl rfl rfl rfl hl.1 rfl (Nat.le_of_ble_eq_true rfl) d_1_17_3 ⟨Nat.le_of_ble_eq_true rfl, Nat.le_of_ble_eq_true rfl⟩ (fun q9 ce9 H locs hP hD hS h7 h8 h9 => x_out hnt hlocks hS h7 h8 h9 (Nat.le_of_ble_eq_true rfl) (Nat.le_of_ble_eq_true rfl))
set_option maxRecDepth 100000 in
set_option maxHeartbeats 4000000 in
theorem c230_BLaw_transferable (l : Launch) (z : Zz) (hl0 : l.stackTraces = false) (a0 a1 a2 a3 a4 a5 a6 a7 a8 a9 a10 a11 a12 : Nat) (x0 : Int32) (h0 : x0 < 1) : HT l z ⟨"BallothallLaw", "transferable", "(LBallothall;I[J)I"⟩ method_17_code 4 (some .int) [(0, 9, 12, 21), (0, 9, 15, 13)] [.ref a0, .int x0, .ref a1] [(a0, .inr (11, [.ref a2, .ref a3, .ref a4, .ref a5, .ref a6, .ref a7, .ref a8, .ref a9, .ref a10, .ref a11, .int 0, .int 0, .ref a12, .int 0]))] 8 158 1 6 (fun u => some (.int 1)) (fun u => [(a0, .inr (11, [.ref a2, .ref a3, .ref a4, .ref a5, .ref a6, .ref a7, .ref a8, .ref a9, .ref a10, .ref a11, .int 0, .int 0, .ref a12, .int 0]))]) := by
  refine HT.of (own := "BallothallLaw") (by decide +kernel) (Nat.le_of_ble_eq_true rfl) rfl (fun p e s m below meth c A ls hx hb hml hr hts hown hlocks hin hA hG hZ hP hD hS hl htab => ?_)
  have hl : lv_has ls 4 [(0, .ref a0), (1, .int x0), (2, .ref a1)] := hl
  refine lv_aload_n hx hb d_L17_0 rfl (lv_at hl 2 rfl) ?_
  refine lv_iconst (v := 0) hx hb d_L17_1 (by decide +kernel) ?_
  refine lv_aload_n hx hb d_L17_2 rfl (lv_at hl 0 rfl) ?_
  refine lv_iload_n hx hb d_L17_3 rfl (lv_at hl 1 rfl) ?_
  refine xV (As := [.int x0]) (rest := [.int 0, .ref a1]) (wr := [(a0, .inr (11, [.ref a2, .ref a3, .ref a4, .ref a5, .ref a6, .ref a7, .ref a8, .ref a9, .ref a10, .ref a11, .int 0, .int 0, .ref a12, .int 0]))]) (c229_B_transferable l z hl0 a0 x0 h0) hx hb hml hown hts w_1117 w_1114 w_1115 w_1116 w_1 md_ed8a19 ⟨Nat.le_of_ble_eq_true rfl, Nat.le_of_ble_eq_true rfl⟩ hG hZ hP hD hS hA 0 rfl rfl rfl [] [0] rfl rfl rfl rfl rfl hl.1 rfl (Nat.le_of_ble_eq_true rfl) d_L17_4 ⟨Nat.le_of_ble_eq_true rfl, Nat.le_of_ble_eq_true rfl⟩ (fun q0 ce9 H locs hP hD hS h7 h8 h9 => ?_)
  have hP : va_P z.1 classes [(a0, .inr (11, [.ref a2, .ref a3, .ref a4, .ref a5, .ref a6, .ref a7, .ref a8, .ref a9, .ref a10, .ref a11, .int 0, .int 0, .ref a12, .int 0]))] H := hP
  have hD : va_D A [(a0, .inr (11, [.ref a2, .ref a3, .ref a4, .ref a5, .ref a6, .ref a7, .ref a8, .ref a9, .ref a10, .ref a11, .int 0, .int 0, .ref a12, .int 0]))] := hD
  refine vx_catch hown [] ⟨0, 9, 12, 21⟩ [⟨0, 9, 15, 13⟩] (htab.trans rfl) (fun _ h9 => absurd h9 List.not_mem_nil) rfl (by decide) (hts _ w_850) (va_Nw.use rfl (hG.2.1 _ n_879 rfl)) h7 h8 h9 ?_
  refine lv_astore_n (lv' := [(3, .ref q0), (0, .ref a0), (1, .int x0), (2, .ref a1)]) hx hb d_L17_12 rfl hl (by decide) rfl (fun ls hl => ?_)
  refine lv_iconst (v := 1) hx hb d_L17_13 (by decide +kernel) ?_
  refine W.widen (k := 1) (n := 6) (Nat.le_of_ble_eq_true rfl) (Nat.le_of_ble_eq_true rfl) ?_
  refine vx_ret ?_
  exact W.iret hx hb hr (fun t ht hW => qk hP hD hS [0] rfl ((fun k => k), (fun _ _ => none)) rfl rfl rfl ht) hS.2.2 d_L17_14
set_option maxRecDepth 100000 in
set_option maxHeartbeats 4000000 in
theorem c231_BModel_isIn (l : Launch) (z : Zz) (x0 : Int32) (h0 : x0 < 1) : CT l z ⟨"BallothallModel", "isIn", "(III)Z"⟩ prog_14_method_20_code 3 (some .boolean) [.int x0, .int 1, .int 3] [] 0 0 0 0 (fun u => some (.int 0)) (fun u => []) := by
  refine CT.of (own := "BallothallModel") (by decide +kernel) (Nat.le_of_ble_eq_true rfl) rfl (fun p e s m below meth c A ls hx hb hml hr hts hown hlocks hin hA hG hZ hP hD hS hl => ?_)
  have hl : lv_has ls 3 [(0, .int x0), (1, .int 1), (2, .int 3)] := hl
  refine lv_iload_n hx hb d_14_20_0 rfl (lv_at hl 0 rfl) ?_
  refine lv_iload_n hx hb d_14_20_1 rfl (lv_at hl 1 rfl) ?_
  refine lv_icmp_lt (tgt := 14) hx hb d_14_20_2 (by decide) (fun _ => ?_) (fun c9 => absurd h0 c9)
  refine lv_iconst (v := 0) hx hb d_14_20_14 (by decide +kernel) ?_
  refine W.widen (k := 0) (n := 0) (Nat.le_of_ble_eq_true rfl) (Nat.le_of_ble_eq_true rfl) ?_
  exact W.zret hx hb hr rfl (fun t ht hW => qk hP hD hS [] rfl ((fun k => k), (fun _ _ => none)) rfl rfl rfl ht) hS.2.2 d_14_20_15
set_option maxRecDepth 100000 in
set_option maxHeartbeats 4000000 in
theorem c232_BModel_transferable (l : Launch) (z : Zz) (a0 a1 a2 a3 a4 : Nat) (x0 : Int32) (h0 : x0 < 1) : CT l z ⟨"BallothallModel", "transferable", "(I)I"⟩ prog_14_method_47_code 3 (some .int) [.ref a0, .int x0] [(a0, .inr (18, [.ref a1, .ref a2, .int 0, .ref a3, .int 0, .ref a4, .int 0, .null, .int 0, .null, .long 0, .int 0, .null]))] 1 30 0 0 (fun u => some (.int 0)) (fun u => [(a0, .inr (18, [.ref a1, .ref a2, .int 0, .ref a3, .int 0, .ref a4, .int 1, .null, .int 0, .null, .long 0, .int 0, .null]))]) := by
  refine CT.of (own := "BallothallModel") (by decide +kernel) (Nat.le_of_ble_eq_true rfl) rfl (fun p e s m below meth c A ls hx hb hml hr hts hown hlocks hin hA hG hZ hP hD hS hl => ?_)
  have hl : lv_has ls 3 [(0, .ref a0), (1, .int x0)] := hl
  refine lv_aload_n hx hb d_14_47_0 rfl (lv_at hl 0 rfl) ?_
  refine lv_iload_n hx hb d_14_47_1 rfl (lv_at hl 1 rfl) ?_
  refine lv_iconst (v := 1) hx hb d_14_47_2 (by decide +kernel) ?_
  refine lv_iconst (v := 3) hx hb d_14_47_3 (by decide +kernel) ?_
  refine kS (As := [.int x0, .int 1, .int 3]) (rest := [.ref a0]) (wr := [(a0, .inr (18, [.ref a1, .ref a2, .int 0, .ref a3, .int 0, .ref a4, .int 0, .null, .int 0, .null, .long 0, .int 0, .null]))]) (c231_BModel_isIn l z x0 h0) hx hb hml hown hts w_1718 w_1716 w_1717 w_12 md_bca45c ⟨Nat.le_of_ble_eq_true rfl, Nat.le_of_ble_eq_true rfl⟩ hG hZ hP hD hS hA [] [0] rfl rfl rfl rfl rfl hl.1 rfl (Nat.le_of_ble_eq_true rfl) d_14_47_4 ⟨Nat.le_of_ble_eq_true rfl, Nat.le_of_ble_eq_true rfl⟩ (fun u0 H locs hP hD hS => ?_)
  have hP : va_P z.1 classes [(a0, .inr (18, [.ref a1, .ref a2, .int 0, .ref a3, .int 0, .ref a4, .int 0, .null, .int 0, .null, .long 0, .int 0, .null]))] H := hP
  have hD : va_D A [(a0, .inr (18, [.ref a1, .ref a2, .int 0, .ref a3, .int 0, .ref a4, .int 0, .null, .int 0, .null, .long 0, .int 0, .null]))] := hD
  refine W.eq (g2 := F0 m 7 ls [.int 0, .ref a0]) rfl ?_
  refine lv_iconst (v := 1) hx hb d_14_47_7 (by decide +kernel) ?_
  refine kV (As := [.int 0, .int 1]) (rest := []) (wr := []) (c31_BModel_ends l z a0 a1 a2 a3 a4) hx hb hml hown hts w_1696 w_1693 w_1695 w_s_f8f2b7 w_12 md_77b0f8 ⟨Nat.le_of_ble_eq_true rfl, Nat.le_of_ble_eq_true rfl⟩ hG hZ hP hD hS hA 0 rfl rfl rfl [0] [] rfl rfl rfl rfl rfl hl.1 rfl (Nat.le_of_ble_eq_true rfl) d_14_47_8 ⟨Nat.le_of_ble_eq_true rfl, Nat.le_of_ble_eq_true rfl⟩ (fun u1 H locs hP hD hS => ?_)
  have hP : va_P z.1 classes [(a0, .inr (18, [.ref a1, .ref a2, .int 0, .ref a3, .int 0, .ref a4, .int 1, .null, .int 0, .null, .long 0, .int 0, .null]))] H := hP
  have hD : va_D A [(a0, .inr (18, [.ref a1, .ref a2, .int 0, .ref a3, .int 0, .ref a4, .int 1, .null, .int 0, .null, .long 0, .int 0, .null]))] := hD
  refine W.eq (g2 := F0 m 11 ls [.int 1]) rfl ?_
  refine lv_if_ne (tgt := 37) hx hb d_14_47_11 (by decide) (fun _ => ?_) (fun c9 => absurd c9 (by decide +kernel))
  refine lv_iconst (v := 0) hx hb d_14_47_37 (by decide +kernel) ?_
  refine W.widen (k := 0) (n := 0) (Nat.le_of_ble_eq_true rfl) (Nat.le_of_ble_eq_true rfl) ?_
  exact W.iret hx hb hr (fun t ht hW => qk hP hD hS [0] rfl ((fun k => k), (fun _ _ => none)) rfl rfl rfl ht) hS.2.2 d_14_47_38
set_option maxRecDepth 100000 in
set_option maxHeartbeats 4000000 in
theorem c233_B_needRange (l : Launch) (z : Zz) (hl0 : l.stackTraces = false) (x0 : Int32) (h0 : ¬ x0 < 1) (h1 : 3 < x0) : XT l z ⟨"Ballothall", "needRange", "(III)V"⟩ prog_1_method_57_code 3 none [.int x0, .int 1, .int 3] [] 6 98 1 6 "java/lang/IllegalArgumentException" := by
  refine XT.of (own := "Ballothall") (by decide +kernel) (Nat.le_of_ble_eq_true rfl) rfl (fun p e s m below meth c A ls hx hb hml hr hts hown hlocks hin hA hG hZ hP hD hS hl hnt => ?_)
  have hl : lv_has ls 3 [(0, .int x0), (1, .int 1), (2, .int 3)] := hl
  refine lv_iload_n hx hb d_1_57_0 rfl (lv_at hl 0 rfl) ?_
  refine lv_iload_n hx hb d_1_57_1 rfl (lv_at hl 1 rfl) ?_
  refine lv_icmp_lt (tgt := 10) hx hb d_1_57_2 (by decide) (fun c9 => absurd c9 h0) (fun _ => ?_)
  refine lv_iload_n hx hb d_1_57_5 rfl (lv_at hl 0 rfl) ?_
  refine lv_iload_n hx hb d_1_57_6 rfl (lv_at hl 2 rfl) ?_
  refine lv_icmp_le (tgt := 21) hx hb d_1_57_7 (by decide) (fun c9 => absurd c9 (Int32.not_le.mpr h1)) (fun _ => ?_)
  exact x_newW (text := "out of range") hl0 hx hb hml hown hts hlocks hnt hG hZ hS hl.1 (by decide +kernel) w_877 w_21 (by decide) xa_310_a xa_310_b d_1_57_10 d_1_57_13 d_1_57_14 d_1_57_17 d_1_57_20 ⟨Nat.le_of_ble_eq_true rfl, Nat.le_of_ble_eq_true rfl, Nat.le_of_ble_eq_true rfl, Nat.le_of_ble_eq_true rfl⟩ (Nat.le_of_ble_eq_true rfl) (Nat.le_of_ble_eq_true rfl) (Nat.le_of_ble_eq_true rfl)
set_option maxRecDepth 100000 in
set_option maxHeartbeats 4000000 in
theorem c234_B_transferable (l : Launch) (z : Zz) (hl0 : l.stackTraces = false) (a0 : Nat) (x0 : Int32) (h0 : ¬ x0 < 1) (h1 : 3 < x0) : XT l z ⟨"Ballothall", "transferable", "(I)I"⟩ prog_1_method_17_code 3 (some .int) [.ref a0, .int x0] [] 7 128 1 6 "java/lang/IllegalArgumentException" := by
  refine XT.of (own := "Ballothall") (by decide +kernel) (Nat.le_of_ble_eq_true rfl) rfl (fun p e s m below meth c A ls hx hb hml hr hts hown hlocks hin hA hG hZ hP hD hS hl hnt => ?_)
  have hl : lv_has ls 3 [(0, .ref a0), (1, .int x0)] := hl
  refine lv_iload_n hx hb d_1_17_0 rfl (lv_at hl 1 rfl) ?_
  refine lv_iconst (v := 1) hx hb d_1_17_1 (by decide +kernel) ?_
  refine lv_iconst (v := 3) hx hb d_1_17_2 (by decide +kernel) ?_
  exact xS (As := [.int x0, .int 1, .int 3]) (rest := []) (wr := []) (c233_B_needRange l z hl0 x0 h0 h1) hx hb hml hown hts w_876 w_874 w_875 w_1 md_519134 ⟨Nat.le_of_ble_eq_true rfl, Nat.le_of_ble_eq_true rfl⟩ hG hZ hP hD hS hA [] [] rfl rfl rfl rfl rfl hl.1 rfl (Nat.le_of_ble_eq_true rfl) d_1_17_3 ⟨Nat.le_of_ble_eq_true rfl, Nat.le_of_ble_eq_true rfl⟩ (fun q9 ce9 H locs hP hD hS h7 h8 h9 => x_out hnt hlocks hS h7 h8 h9 (Nat.le_of_ble_eq_true rfl) (Nat.le_of_ble_eq_true rfl))
set_option maxRecDepth 100000 in
set_option maxHeartbeats 4000000 in
theorem c235_BLaw_transferable (l : Launch) (z : Zz) (hl0 : l.stackTraces = false) (a0 a1 a2 a3 a4 a5 a6 a7 a8 a9 a10 a11 a12 : Nat) (x0 : Int32) (h0 : ¬ x0 < 1) (h1 : 3 < x0) : HT l z ⟨"BallothallLaw", "transferable", "(LBallothall;I[J)I"⟩ method_17_code 4 (some .int) [(0, 9, 12, 21), (0, 9, 15, 13)] [.ref a0, .int x0, .ref a1] [(a0, .inr (11, [.ref a2, .ref a3, .ref a4, .ref a5, .ref a6, .ref a7, .ref a8, .ref a9, .ref a10, .ref a11, .int 0, .int 0, .ref a12, .int 0]))] 8 158 1 6 (fun u => some (.int 1)) (fun u => [(a0, .inr (11, [.ref a2, .ref a3, .ref a4, .ref a5, .ref a6, .ref a7, .ref a8, .ref a9, .ref a10, .ref a11, .int 0, .int 0, .ref a12, .int 0]))]) := by
  refine HT.of (own := "BallothallLaw") (by decide +kernel) (Nat.le_of_ble_eq_true rfl) rfl (fun p e s m below meth c A ls hx hb hml hr hts hown hlocks hin hA hG hZ hP hD hS hl htab => ?_)
  have hl : lv_has ls 4 [(0, .ref a0), (1, .int x0), (2, .ref a1)] := hl
  refine lv_aload_n hx hb d_L17_0 rfl (lv_at hl 2 rfl) ?_
  refine lv_iconst (v := 0) hx hb d_L17_1 (by decide +kernel) ?_
  refine lv_aload_n hx hb d_L17_2 rfl (lv_at hl 0 rfl) ?_
  refine lv_iload_n hx hb d_L17_3 rfl (lv_at hl 1 rfl) ?_
  refine xV (As := [.int x0]) (rest := [.int 0, .ref a1]) (wr := [(a0, .inr (11, [.ref a2, .ref a3, .ref a4, .ref a5, .ref a6, .ref a7, .ref a8, .ref a9, .ref a10, .ref a11, .int 0, .int 0, .ref a12, .int 0]))]) (c234_B_transferable l z hl0 a0 x0 h0 h1) hx hb hml hown hts w_1117 w_1114 w_1115 w_1116 w_1 md_ed8a19 ⟨Nat.le_of_ble_eq_true rfl, Nat.le_of_ble_eq_true rfl⟩ hG hZ hP hD hS hA 0 rfl rfl rfl [] [0] rfl rfl rfl rfl rfl hl.1 rfl (Nat.le_of_ble_eq_true rfl) d_L17_4 ⟨Nat.le_of_ble_eq_true rfl, Nat.le_of_ble_eq_true rfl⟩ (fun q0 ce9 H locs hP hD hS h7 h8 h9 => ?_)
  have hP : va_P z.1 classes [(a0, .inr (11, [.ref a2, .ref a3, .ref a4, .ref a5, .ref a6, .ref a7, .ref a8, .ref a9, .ref a10, .ref a11, .int 0, .int 0, .ref a12, .int 0]))] H := hP
  have hD : va_D A [(a0, .inr (11, [.ref a2, .ref a3, .ref a4, .ref a5, .ref a6, .ref a7, .ref a8, .ref a9, .ref a10, .ref a11, .int 0, .int 0, .ref a12, .int 0]))] := hD
  refine vx_catch hown [] ⟨0, 9, 12, 21⟩ [⟨0, 9, 15, 13⟩] (htab.trans rfl) (fun _ h9 => absurd h9 List.not_mem_nil) rfl (by decide) (hts _ w_850) (va_Nw.use rfl (hG.2.1 _ n_879 rfl)) h7 h8 h9 ?_
  refine lv_astore_n (lv' := [(3, .ref q0), (0, .ref a0), (1, .int x0), (2, .ref a1)]) hx hb d_L17_12 rfl hl (by decide) rfl (fun ls hl => ?_)
  refine lv_iconst (v := 1) hx hb d_L17_13 (by decide +kernel) ?_
  refine W.widen (k := 1) (n := 6) (Nat.le_of_ble_eq_true rfl) (Nat.le_of_ble_eq_true rfl) ?_
  refine vx_ret ?_
  exact W.iret hx hb hr (fun t ht hW => qk hP hD hS [0] rfl ((fun k => k), (fun _ _ => none)) rfl rfl rfl ht) hS.2.2 d_L17_14
set_option maxRecDepth 100000 in
set_option maxHeartbeats 4000000 in
theorem c236_BModel_isIn (l : Launch) (z : Zz) (x0 : Int32) (h0 : ¬ x0 < 1) (h1 : 3 < x0) : CT l z ⟨"BallothallModel", "isIn", "(III)Z"⟩ prog_14_method_20_code 3 (some .boolean) [.int x0, .int 1, .int 3] [] 0 0 0 0 (fun u => some (.int 0)) (fun u => []) := by
  refine CT.of (own := "BallothallModel") (by decide +kernel) (Nat.le_of_ble_eq_true rfl) rfl (fun p e s m below meth c A ls hx hb hml hr hts hown hlocks hin hA hG hZ hP hD hS hl => ?_)
  have hl : lv_has ls 3 [(0, .int x0), (1, .int 1), (2, .int 3)] := hl
  refine lv_iload_n hx hb d_14_20_0 rfl (lv_at hl 0 rfl) ?_
  refine lv_iload_n hx hb d_14_20_1 rfl (lv_at hl 1 rfl) ?_
  refine lv_icmp_lt (tgt := 14) hx hb d_14_20_2 (by decide) (fun c9 => absurd c9 h0) (fun _ => ?_)
  refine lv_iload_n hx hb d_14_20_5 rfl (lv_at hl 0 rfl) ?_
  refine lv_iload_n hx hb d_14_20_6 rfl (lv_at hl 2 rfl) ?_
  refine lv_icmp_gt (tgt := 14) hx hb d_14_20_7 (by decide) (fun _ => ?_) (fun c9 => absurd h1 c9)
  refine lv_iconst (v := 0) hx hb d_14_20_14 (by decide +kernel) ?_
  refine W.widen (k := 0) (n := 0) (Nat.le_of_ble_eq_true rfl) (Nat.le_of_ble_eq_true rfl) ?_
  exact W.zret hx hb hr rfl (fun t ht hW => qk hP hD hS [] rfl ((fun k => k), (fun _ _ => none)) rfl rfl rfl ht) hS.2.2 d_14_20_15
set_option maxRecDepth 100000 in
set_option maxHeartbeats 4000000 in
theorem c237_BModel_transferable (l : Launch) (z : Zz) (a0 a1 a2 a3 a4 : Nat) (x0 : Int32) (h0 : ¬ x0 < 1) (h1 : 3 < x0) : CT l z ⟨"BallothallModel", "transferable", "(I)I"⟩ prog_14_method_47_code 3 (some .int) [.ref a0, .int x0] [(a0, .inr (18, [.ref a1, .ref a2, .int 0, .ref a3, .int 0, .ref a4, .int 0, .null, .int 0, .null, .long 0, .int 0, .null]))] 1 30 0 0 (fun u => some (.int 0)) (fun u => [(a0, .inr (18, [.ref a1, .ref a2, .int 0, .ref a3, .int 0, .ref a4, .int 1, .null, .int 0, .null, .long 0, .int 0, .null]))]) := by
  refine CT.of (own := "BallothallModel") (by decide +kernel) (Nat.le_of_ble_eq_true rfl) rfl (fun p e s m below meth c A ls hx hb hml hr hts hown hlocks hin hA hG hZ hP hD hS hl => ?_)
  have hl : lv_has ls 3 [(0, .ref a0), (1, .int x0)] := hl
  refine lv_aload_n hx hb d_14_47_0 rfl (lv_at hl 0 rfl) ?_
  refine lv_iload_n hx hb d_14_47_1 rfl (lv_at hl 1 rfl) ?_
  refine lv_iconst (v := 1) hx hb d_14_47_2 (by decide +kernel) ?_
  refine lv_iconst (v := 3) hx hb d_14_47_3 (by decide +kernel) ?_
  refine kS (As := [.int x0, .int 1, .int 3]) (rest := [.ref a0]) (wr := [(a0, .inr (18, [.ref a1, .ref a2, .int 0, .ref a3, .int 0, .ref a4, .int 0, .null, .int 0, .null, .long 0, .int 0, .null]))]) (c236_BModel_isIn l z x0 h0 h1) hx hb hml hown hts w_1718 w_1716 w_1717 w_12 md_bca45c ⟨Nat.le_of_ble_eq_true rfl, Nat.le_of_ble_eq_true rfl⟩ hG hZ hP hD hS hA [] [0] rfl rfl rfl rfl rfl hl.1 rfl (Nat.le_of_ble_eq_true rfl) d_14_47_4 ⟨Nat.le_of_ble_eq_true rfl, Nat.le_of_ble_eq_true rfl⟩ (fun u0 H locs hP hD hS => ?_)
  have hP : va_P z.1 classes [(a0, .inr (18, [.ref a1, .ref a2, .int 0, .ref a3, .int 0, .ref a4, .int 0, .null, .int 0, .null, .long 0, .int 0, .null]))] H := hP
  have hD : va_D A [(a0, .inr (18, [.ref a1, .ref a2, .int 0, .ref a3, .int 0, .ref a4, .int 0, .null, .int 0, .null, .long 0, .int 0, .null]))] := hD
  refine W.eq (g2 := F0 m 7 ls [.int 0, .ref a0]) rfl ?_
  refine lv_iconst (v := 1) hx hb d_14_47_7 (by decide +kernel) ?_
  refine kV (As := [.int 0, .int 1]) (rest := []) (wr := []) (c31_BModel_ends l z a0 a1 a2 a3 a4) hx hb hml hown hts w_1696 w_1693 w_1695 w_s_f8f2b7 w_12 md_77b0f8 ⟨Nat.le_of_ble_eq_true rfl, Nat.le_of_ble_eq_true rfl⟩ hG hZ hP hD hS hA 0 rfl rfl rfl [0] [] rfl rfl rfl rfl rfl hl.1 rfl (Nat.le_of_ble_eq_true rfl) d_14_47_8 ⟨Nat.le_of_ble_eq_true rfl, Nat.le_of_ble_eq_true rfl⟩ (fun u1 H locs hP hD hS => ?_)
  have hP : va_P z.1 classes [(a0, .inr (18, [.ref a1, .ref a2, .int 0, .ref a3, .int 0, .ref a4, .int 1, .null, .int 0, .null, .long 0, .int 0, .null]))] H := hP
  have hD : va_D A [(a0, .inr (18, [.ref a1, .ref a2, .int 0, .ref a3, .int 0, .ref a4, .int 1, .null, .int 0, .null, .long 0, .int 0, .null]))] := hD
  refine W.eq (g2 := F0 m 11 ls [.int 1]) rfl ?_
  refine lv_if_ne (tgt := 37) hx hb d_14_47_11 (by decide) (fun _ => ?_) (fun c9 => absurd c9 (by decide +kernel))
  refine lv_iconst (v := 0) hx hb d_14_47_37 (by decide +kernel) ?_
  refine W.widen (k := 0) (n := 0) (Nat.le_of_ble_eq_true rfl) (Nat.le_of_ble_eq_true rfl) ?_
  exact W.iret hx hb hr (fun t ht hW => qk hP hD hS [0] rfl ((fun k => k), (fun _ _ => none)) rfl rfl rfl ht) hS.2.2 d_14_47_38
set_option maxRecDepth 100000 in
set_option maxHeartbeats 4000000 in
theorem c238_B_needRange (l : Launch) (z : Zz) (x0 : Int32) (h0 : ¬ x0 < 1) (h1 : ¬ 3 < x0) : CT l z ⟨"Ballothall", "needRange", "(III)V"⟩ prog_1_method_57_code 3 none [.int x0, .int 1, .int 3] [] 0 0 0 0 (fun u => none) (fun u => []) := by
  refine CT.of (own := "Ballothall") (by decide +kernel) (Nat.le_of_ble_eq_true rfl) rfl (fun p e s m below meth c A ls hx hb hml hr hts hown hlocks hin hA hG hZ hP hD hS hl => ?_)
  have hl : lv_has ls 3 [(0, .int x0), (1, .int 1), (2, .int 3)] := hl
  refine lv_iload_n hx hb d_1_57_0 rfl (lv_at hl 0 rfl) ?_
  refine lv_iload_n hx hb d_1_57_1 rfl (lv_at hl 1 rfl) ?_
  refine lv_icmp_lt (tgt := 10) hx hb d_1_57_2 (by decide) (fun c9 => absurd c9 h0) (fun _ => ?_)
  refine lv_iload_n hx hb d_1_57_5 rfl (lv_at hl 0 rfl) ?_
  refine lv_iload_n hx hb d_1_57_6 rfl (lv_at hl 2 rfl) ?_
  refine lv_icmp_le (tgt := 21) hx hb d_1_57_7 (by decide) (fun _ => ?_) (fun c9 => absurd (Int32.not_lt.mp h1) c9)
  refine W.widen (k := 0) (n := 0) (Nat.le_of_ble_eq_true rfl) (Nat.le_of_ble_eq_true rfl) ?_
  exact W.vret hx hb hr (fun t ht hW => qk hP hD hS [] rfl ((fun k => k), (fun _ _ => none)) rfl rfl rfl ht) hS.2.2 d_1_57_21
set_option maxRecDepth 100000 in
set_option maxHeartbeats 4000000 in
theorem c239_B_transferable (l : Launch) (z : Zz) (hl0 : l.stackTraces = false) (a0 a1 a2 a3 a4 a5 a6 a7 a8 a9 a10 a11 a12 a13 a14 a15 a16 a17 a18 : Nat) (x0 : Int32) (h0 : ¬ x0 < 1) (h1 : ¬ 3 < x0) : XT l z ⟨"Ballothall", "transferable", "(I)I"⟩ prog_1_method_17_code 3 (some .int) [.ref a0, .int x0] [(a0, .inr (11, [.ref a1, .ref a2, .ref a3, .ref a4, .ref a5, .ref a6, .ref a7, .ref a8, .ref a9, .ref a10, .int 0, .int 0, .ref a11, .int 0])), (a1, .inr (0, [.ref a12, .int 0, .int 0, .int 0, .ref a13, .ref a14, .ref a15, .ref a16, .ref a17, .ref a18]))] 6 98 1 6 "java/lang/IllegalStateException" := by
  refine XT.of (own := "Ballothall") (by decide +kernel) (Nat.le_of_ble_eq_true rfl) rfl (fun p e s m below meth c A ls hx hb hml hr hts hown hlocks hin hA hG hZ hP hD hS hl hnt => ?_)
  have hl : lv_has ls 3 [(0, .ref a0), (1, .int x0)] := hl
  refine lv_iload_n hx hb d_1_17_0 rfl (lv_at hl 1 rfl) ?_
  refine lv_iconst (v := 1) hx hb d_1_17_1 (by decide +kernel) ?_
  refine lv_iconst (v := 3) hx hb d_1_17_2 (by decide +kernel) ?_
  refine kS (As := [.int x0, .int 1, .int 3]) (rest := []) (wr := [(a0, .inr (11, [.ref a1, .ref a2, .ref a3, .ref a4, .ref a5, .ref a6, .ref a7, .ref a8, .ref a9, .ref a10, .int 0, .int 0, .ref a11, .int 0])), (a1, .inr (0, [.ref a12, .int 0, .int 0, .int 0, .ref a13, .ref a14, .ref a15, .ref a16, .ref a17, .ref a18]))]) (c238_B_needRange l z x0 h0 h1) hx hb hml hown hts w_876 w_874 w_875 w_1 md_519134 ⟨Nat.le_of_ble_eq_true rfl, Nat.le_of_ble_eq_true rfl⟩ hG hZ hP hD hS hA [] [0, 1] rfl rfl rfl rfl rfl hl.1 rfl (Nat.le_of_ble_eq_true rfl) d_1_17_3 ⟨Nat.le_of_ble_eq_true rfl, Nat.le_of_ble_eq_true rfl⟩ (fun u0 H locs hP hD hS => ?_)
  have hP : va_P z.1 classes [(a0, .inr (11, [.ref a1, .ref a2, .ref a3, .ref a4, .ref a5, .ref a6, .ref a7, .ref a8, .ref a9, .ref a10, .int 0, .int 0, .ref a11, .int 0])), (a1, .inr (0, [.ref a12, .int 0, .int 0, .int 0, .ref a13, .ref a14, .ref a15, .ref a16, .ref a17, .ref a18]))] H := hP
  have hD : va_D A [(a0, .inr (11, [.ref a1, .ref a2, .ref a3, .ref a4, .ref a5, .ref a6, .ref a7, .ref a8, .ref a9, .ref a10, .int 0, .int 0, .ref a11, .int 0])), (a1, .inr (0, [.ref a12, .int 0, .int 0, .int 0, .ref a13, .ref a14, .ref a15, .ref a16, .ref a17, .ref a18]))] := hD
  refine W.eq (g2 := F0 m 6 ls []) rfl ?_
  refine lv_aload_n hx hb d_1_17_6 rfl (lv_at hl 0 rfl) ?_
  refine va_get (D := z.1) (ci := 11) (v := .ref a1) (C := "Ballothall") (T := TX11) (N := 14) hx hb hts iX11 hown hG.1 hP 0 rfl rfl 0 (by decide) (hts _ w_406) (fun _ h9 => h9) rfl d_1_17_7 ?_
  refine va_getN (D := z.1) (ci := 0) (v := .int 0) (C := "Ballothall$BallotBox") (T := TX0) (N := 10) hx hb hts iX0 hown hG.1 hP 1 rfl rfl 2 (by decide) (va_Nw.use rfl (hG.2.1 _ n_57 rfl)) (fun _ h9 => h9) rfl d_1_17_10 ?_
  refine lv_if_ne (tgt := 26) hx hb d_1_17_13 (by decide) (fun c9 => absurd (by decide +kernel) c9) (fun _ => ?_)
  exact x_newS (text := "there are no candidates") hl0 hx hb hml hown hts hlocks hnt hG hZ hS hl.1 (by decide +kernel) w_772 w_17 (by decide) xa_185_a xa_185_b d_1_17_16 d_1_17_19 d_1_17_20 d_1_17_22 d_1_17_25 ⟨Nat.le_of_ble_eq_true rfl, Nat.le_of_ble_eq_true rfl, Nat.le_of_ble_eq_true rfl, Nat.le_of_ble_eq_true rfl⟩ (Nat.le_of_ble_eq_true rfl) (Nat.le_of_ble_eq_true rfl) (Nat.le_of_ble_eq_true rfl)
set_option maxRecDepth 100000 in
set_option maxHeartbeats 4000000 in
theorem c240_BLaw_transferable (l : Launch) (z : Zz) (hl0 : l.stackTraces = false) (a0 a1 a2 a3 a4 a5 a6 a7 a8 a9 a10 a11 a12 a13 a14 a15 a16 a17 a18 a19 : Nat) (x0 : Int32) (h0 : ¬ x0 < 1) (h1 : ¬ 3 < x0) : HT l z ⟨"BallothallLaw", "transferable", "(LBallothall;I[J)I"⟩ method_17_code 4 (some .int) [(0, 9, 12, 21), (0, 9, 15, 13)] [.ref a0, .int x0, .ref a1] [(a0, .inr (11, [.ref a2, .ref a3, .ref a4, .ref a5, .ref a6, .ref a7, .ref a8, .ref a9, .ref a10, .ref a11, .int 0, .int 0, .ref a12, .int 0])), (a2, .inr (0, [.ref a13, .int 0, .int 0, .int 0, .ref a14, .ref a15, .ref a16, .ref a17, .ref a18, .ref a19]))] 7 128 1 6 (fun u => some (.int 2)) (fun u => []) := by
  refine HT.of (own := "BallothallLaw") (by decide +kernel) (Nat.le_of_ble_eq_true rfl) rfl (fun p e s m below meth c A ls hx hb hml hr hts hown hlocks hin hA hG hZ hP hD hS hl htab => ?_)
  have hl : lv_has ls 4 [(0, .ref a0), (1, .int x0), (2, .ref a1)] := hl
  refine lv_aload_n hx hb d_L17_0 rfl (lv_at hl 2 rfl) ?_
  refine lv_iconst (v := 0) hx hb d_L17_1 (by decide +kernel) ?_
  refine lv_aload_n hx hb d_L17_2 rfl (lv_at hl 0 rfl) ?_
  refine lv_iload_n hx hb d_L17_3 rfl (lv_at hl 1 rfl) ?_
  refine xV (As := [.int x0]) (rest := [.int 0, .ref a1]) (wr := []) (c239_B_transferable l z hl0 a0 a2 a3 a4 a5 a6 a7 a8 a9 a10 a11 a12 a13 a14 a15 a16 a17 a18 a19 x0 h0 h1) hx hb hml hown hts w_1117 w_1114 w_1115 w_1116 w_1 md_ed8a19 ⟨Nat.le_of_ble_eq_true rfl, Nat.le_of_ble_eq_true rfl⟩ hG hZ hP hD hS hA 0 rfl rfl rfl [0, 1] [] rfl rfl rfl rfl rfl hl.1 rfl (Nat.le_of_ble_eq_true rfl) d_L17_4 ⟨Nat.le_of_ble_eq_true rfl, Nat.le_of_ble_eq_true rfl⟩ (fun q0 ce9 H locs hP hD hS h7 h8 h9 => ?_)
  have hP : va_P z.1 classes [] H := hP
  have hD : va_D A [] := hD
  refine vx_catch hown [⟨0, 9, 12, 21⟩] ⟨0, 9, 15, 13⟩ [] (htab.trans rfl) (List.forall_mem_cons.mpr ⟨Or.inr ⟨by decide, "java/lang/IllegalArgumentException", hts _ w_850, hG.2.2.2.2.2 ("java/lang/IllegalStateException", "java/lang/IllegalArgumentException") (by decide)⟩, (fun _ h9 => absurd h9 List.not_mem_nil)⟩) rfl (by decide) (hts _ w_764) (va_Nw.use rfl (hG.2.1 _ n_774 rfl)) h7 h8 h9 ?_
  refine lv_astore_n (lv' := [(3, .ref q0), (0, .ref a0), (1, .int x0), (2, .ref a1)]) hx hb d_L17_15 rfl hl (by decide) rfl (fun ls hl => ?_)
  refine lv_iconst (v := 2) hx hb d_L17_16 (by decide +kernel) ?_
  refine W.widen (k := 1) (n := 6) (Nat.le_of_ble_eq_true rfl) (Nat.le_of_ble_eq_true rfl) ?_
  refine vx_ret ?_
  exact W.iret hx hb hr (fun t ht hW => qk hP hD hS [] rfl ((fun k => k), (fun _ _ => none)) rfl rfl rfl ht) hS.2.2 d_L17_17
set_option maxRecDepth 100000 in
set_option maxHeartbeats 4000000 in
theorem c241_BModel_isIn (l : Launch) (z : Zz) (x0 : Int32) (h0 : ¬ x0 < 1) (h1 : ¬ 3 < x0) : CT l z ⟨"BallothallModel", "isIn", "(III)Z"⟩ prog_14_method_20_code 3 (some .boolean) [.int x0, .int 1, .int 3] [] 0 0 0 0 (fun u => some (.int 1)) (fun u => []) := by
  refine CT.of (own := "BallothallModel") (by decide +kernel) (Nat.le_of_ble_eq_true rfl) rfl (fun p e s m below meth c A ls hx hb hml hr hts hown hlocks hin hA hG hZ hP hD hS hl => ?_)
  have hl : lv_has ls 3 [(0, .int x0), (1, .int 1), (2, .int 3)] := hl
  refine lv_iload_n hx hb d_14_20_0 rfl (lv_at hl 0 rfl) ?_
  refine lv_iload_n hx hb d_14_20_1 rfl (lv_at hl 1 rfl) ?_
  refine lv_icmp_lt (tgt := 14) hx hb d_14_20_2 (by decide) (fun c9 => absurd c9 h0) (fun _ => ?_)
  refine lv_iload_n hx hb d_14_20_5 rfl (lv_at hl 0 rfl) ?_
  refine lv_iload_n hx hb d_14_20_6 rfl (lv_at hl 2 rfl) ?_
  refine lv_icmp_gt (tgt := 14) hx hb d_14_20_7 (by decide) (fun c9 => absurd c9 h1) (fun _ => ?_)
  refine lv_iconst (v := 1) hx hb d_14_20_10 (by decide +kernel) ?_
  refine lv_goto (tgt := 15) hx hb d_14_20_11 (by decide) ?_
  refine W.widen (k := 0) (n := 0) (Nat.le_of_ble_eq_true rfl) (Nat.le_of_ble_eq_true rfl) ?_
  exact W.zret hx hb hr rfl (fun t ht hW => qk hP hD hS [] rfl ((fun k => k), (fun _ _ => none)) rfl rfl rfl ht) hS.2.2 d_14_20_15
set_option maxRecDepth 100000 in
set_option maxHeartbeats 4000000 in
theorem c242_BModel_ends (l : Launch) (z : Zz) (a0 a1 a2 a3 a4 : Nat) : CT l z ⟨"BallothallModel", "ends", "(ZI)Z"⟩ prog_14_method_18_code 3 (some .boolean) [.ref a0, .int 0, .int 2] [(a0, .inr (18, [.ref a1, .ref a2, .int 0, .ref a3, .int 0, .ref a4, .int 0, .null, .int 0, .null, .long 0, .int 0, .null]))] 0 0 0 0 (fun u => some (.int 1)) (fun u => [(a0, .inr (18, [.ref a1, .ref a2, .int 0, .ref a3, .int 0, .ref a4, .int 2, .null, .int 0, .null, .long 0, .int 0, .null]))]) := by
  refine CT.of (own := "BallothallModel") (by decide +kernel) (Nat.le_of_ble_eq_true rfl) rfl (fun p e s m below meth c A ls hx hb hml hr hts hown hlocks hin hA hG hZ hP hD hS hl => ?_)
  have hl : lv_has ls 3 [(0, .ref a0), (1, .int 0), (2, .int 2)] := hl
  refine lv_aload_n hx hb d_14_18_0 rfl (lv_at hl 0 rfl) ?_
  refine lv_iload_n hx hb d_14_18_1 rfl (lv_at hl 1 rfl) ?_
  refine lv_if_eq (tgt := 9) hx hb d_14_18_2 (by decide) (fun _ => ?_) (fun c9 => absurd (by decide +kernel) c9)
  refine lv_iload_n hx hb d_14_18_9 rfl (lv_at hl 2 rfl) ?_
  refine va_put (D := z.1) (ci := 18) (v := .int 2) (ty := .int) (C := "BallothallModel") (T := TX18) (N := 13) hx hb hts iX18 tyX18 tyX18_ok nmX18 hown hG.1 hP hD hS 0 rfl rfl 6 (by decide) (hts _ w_1651) (fun _ h9 => h9) rfl (by decide +kernel) rfl rfl (Nat.le_of_ble_eq_true rfl) d_14_18_10 (fun H locs hP hD hS => ?_)
  have hP : va_P z.1 classes [(a0, .inr (18, [.ref a1, .ref a2, .int 0, .ref a3, .int 0, .ref a4, .int 2, .null, .int 0, .null, .long 0, .int 0, .null]))] H := hP
  have hD : va_D A [(a0, .inr (18, [.ref a1, .ref a2, .int 0, .ref a3, .int 0, .ref a4, .int 2, .null, .int 0, .null, .long 0, .int 0, .null]))] := hD
  refine lv_iload_n hx hb d_14_18_13 rfl (lv_at hl 1 rfl) ?_
  refine lv_if_ne (tgt := 21) hx hb d_14_18_14 (by decide) (fun c9 => absurd (by decide +kernel) c9) (fun _ => ?_)
  refine lv_iconst (v := 1) hx hb d_14_18_17 (by decide +kernel) ?_
  refine lv_goto (tgt := 22) hx hb d_14_18_18 (by decide) ?_
  refine W.widen (k := 0) (n := 0) (Nat.le_of_ble_eq_true rfl) (Nat.le_of_ble_eq_true rfl) ?_
  exact W.zret hx hb hr rfl (fun t ht hW => qk hP hD hS [0] rfl ((fun k => k), (fun _ _ => none)) rfl rfl rfl ht) hS.2.2 d_14_18_22
set_option maxRecDepth 100000 in
set_option maxHeartbeats 4000000 in
theorem c243_BModel_transferable (l : Launch) (z : Zz) (a0 a1 a2 a3 a4 a5 a6 a7 a8 a9 a10 a11 a12 a13 : Nat) (x0 : Int32) (h0 : ¬ x0 < 1) (h1 : ¬ 3 < x0) : CT l z ⟨"BallothallModel", "transferable", "(I)I"⟩ prog_14_method_47_code 3 (some .int) [.ref a0, .int x0] [(a0, .inr (18, [.ref a1, .ref a2, .int 0, .ref a3, .int 0, .ref a4, .int 0, .null, .int 0, .null, .long 0, .int 0, .null])), (a1, .inr (17, [.int 0, .ref a5, .ref a6, .int 0, .ref a7, .ref a8, .ref a9, .null, .null, .int 0, .ref a10, .ref a11, .ref a12, .int 0, .ref a13, .int 1]))] 1 30 0 0 (fun u => some (.int 0)) (fun u => [(a0, .inr (18, [.ref a1, .ref a2, .int 0, .ref a3, .int 0, .ref a4, .int 2, .null, .int 0, .null, .long 0, .int 0, .null])), (a1, .inr (17, [.int 0, .ref a5, .ref a6, .int 0, .ref a7, .ref a8, .ref a9, .null, .null, .int 0, .ref a10, .ref a11, .ref a12, .int 0, .ref a13, .int 1]))]) := by
  refine CT.of (own := "BallothallModel") (by decide +kernel) (Nat.le_of_ble_eq_true rfl) rfl (fun p e s m below meth c A ls hx hb hml hr hts hown hlocks hin hA hG hZ hP hD hS hl => ?_)
  have hl : lv_has ls 3 [(0, .ref a0), (1, .int x0)] := hl
  refine lv_aload_n hx hb d_14_47_0 rfl (lv_at hl 0 rfl) ?_
  refine lv_iload_n hx hb d_14_47_1 rfl (lv_at hl 1 rfl) ?_
  refine lv_iconst (v := 1) hx hb d_14_47_2 (by decide +kernel) ?_
  refine lv_iconst (v := 3) hx hb d_14_47_3 (by decide +kernel) ?_
  refine kS (As := [.int x0, .int 1, .int 3]) (rest := [.ref a0]) (wr := [(a0, .inr (18, [.ref a1, .ref a2, .int 0, .ref a3, .int 0, .ref a4, .int 0, .null, .int 0, .null, .long 0, .int 0, .null])), (a1, .inr (17, [.int 0, .ref a5, .ref a6, .int 0, .ref a7, .ref a8, .ref a9, .null, .null, .int 0, .ref a10, .ref a11, .ref a12, .int 0, .ref a13, .int 1]))]) (c241_BModel_isIn l z x0 h0 h1) hx hb hml hown hts w_1718 w_1716 w_1717 w_12 md_bca45c ⟨Nat.le_of_ble_eq_true rfl, Nat.le_of_ble_eq_true rfl⟩ hG hZ hP hD hS hA [] [0, 1] rfl rfl rfl rfl rfl hl.1 rfl (Nat.le_of_ble_eq_true rfl) d_14_47_4 ⟨Nat.le_of_ble_eq_true rfl, Nat.le_of_ble_eq_true rfl⟩ (fun u0 H locs hP hD hS => ?_)
  have hP : va_P z.1 classes [(a0, .inr (18, [.ref a1, .ref a2, .int 0, .ref a3, .int 0, .ref a4, .int 0, .null, .int 0, .null, .long 0, .int 0, .null])), (a1, .inr (17, [.int 0, .ref a5, .ref a6, .int 0, .ref a7, .ref a8, .ref a9, .null, .null, .int 0, .ref a10, .ref a11, .ref a12, .int 0, .ref a13, .int 1]))] H := hP
  have hD : va_D A [(a0, .inr (18, [.ref a1, .ref a2, .int 0, .ref a3, .int 0, .ref a4, .int 0, .null, .int 0, .null, .long 0, .int 0, .null])), (a1, .inr (17, [.int 0, .ref a5, .ref a6, .int 0, .ref a7, .ref a8, .ref a9, .null, .null, .int 0, .ref a10, .ref a11, .ref a12, .int 0, .ref a13, .int 1]))] := hD
  refine W.eq (g2 := F0 m 7 ls [.int 1, .ref a0]) rfl ?_
  refine lv_iconst (v := 1) hx hb d_14_47_7 (by decide +kernel) ?_
  refine kV (As := [.int 1, .int 1]) (rest := []) (wr := [(a1, .inr (17, [.int 0, .ref a5, .ref a6, .int 0, .ref a7, .ref a8, .ref a9, .null, .null, .int 0, .ref a10, .ref a11, .ref a12, .int 0, .ref a13, .int 1]))]) (c16_BModel_ends l z a0 a1 a2 a3 a4) hx hb hml hown hts w_1696 w_1693 w_1695 w_s_f8f2b7 w_12 md_77b0f8 ⟨Nat.le_of_ble_eq_true rfl, Nat.le_of_ble_eq_true rfl⟩ hG hZ hP hD hS hA 0 rfl rfl rfl [0] [1] rfl rfl rfl rfl rfl hl.1 rfl (Nat.le_of_ble_eq_true rfl) d_14_47_8 ⟨Nat.le_of_ble_eq_true rfl, Nat.le_of_ble_eq_true rfl⟩ (fun u1 H locs hP hD hS => ?_)
  have hP : va_P z.1 classes [(a1, .inr (17, [.int 0, .ref a5, .ref a6, .int 0, .ref a7, .ref a8, .ref a9, .null, .null, .int 0, .ref a10, .ref a11, .ref a12, .int 0, .ref a13, .int 1])), (a0, .inr (18, [.ref a1, .ref a2, .int 0, .ref a3, .int 0, .ref a4, .int 0, .null, .int 0, .null, .long 0, .int 0, .null]))] H := hP
  have hD : va_D A [(a1, .inr (17, [.int 0, .ref a5, .ref a6, .int 0, .ref a7, .ref a8, .ref a9, .null, .null, .int 0, .ref a10, .ref a11, .ref a12, .int 0, .ref a13, .int 1])), (a0, .inr (18, [.ref a1, .ref a2, .int 0, .ref a3, .int 0, .ref a4, .int 0, .null, .int 0, .null, .long 0, .int 0, .null]))] := hD
  refine W.eq (g2 := F0 m 11 ls [.int 0]) rfl ?_
  refine lv_if_ne (tgt := 37) hx hb d_14_47_11 (by decide) (fun c9 => absurd (by decide +kernel) c9) (fun _ => ?_)
  refine lv_aload_n hx hb d_14_47_14 rfl (lv_at hl 0 rfl) ?_
  refine lv_aload_n hx hb d_14_47_15 rfl (lv_at hl 0 rfl) ?_
  refine va_get (D := z.1) (ci := 18) (v := .ref a1) (C := "BallothallModel") (T := TX18) (N := 13) hx hb hts iX18 hown hG.1 hP 1 rfl rfl 0 (by decide) (hts _ w_1645) (fun _ h9 => h9) rfl d_14_47_16 ?_
  refine va_getN (D := z.1) (ci := 17) (v := .int 0) (C := "BallothallModel$State") (T := TX17) (N := 16) hx hb hts iX17 hown hG.1 hP 0 rfl rfl 0 (by decide) (va_Nw.use rfl (hG.2.1 _ n_1580 rfl)) (fun _ h9 => h9) rfl d_14_47_19 ?_
  refine lv_if_le (tgt := 29) hx hb d_14_47_22 (by decide) (fun _ => ?_) (fun c9 => absurd (by decide +kernel) c9)
  refine lv_iconst (v := 0) hx hb d_14_47_29 (by decide +kernel) ?_
  refine lv_iconst (v := 2) hx hb d_14_47_30 (by decide +kernel) ?_
  refine kV (As := [.int 0, .int 2]) (rest := []) (wr := [(a1, .inr (17, [.int 0, .ref a5, .ref a6, .int 0, .ref a7, .ref a8, .ref a9, .null, .null, .int 0, .ref a10, .ref a11, .ref a12, .int 0, .ref a13, .int 1]))]) (c242_BModel_ends l z a0 a1 a2 a3 a4) hx hb hml hown hts w_1696 w_1693 w_1695 w_s_f8f2b7 w_12 md_77b0f8 ⟨Nat.le_of_ble_eq_true rfl, Nat.le_of_ble_eq_true rfl⟩ hG hZ hP hD hS hA 1 rfl rfl rfl [1] [0] rfl rfl rfl rfl rfl hl.1 rfl (Nat.le_of_ble_eq_true rfl) d_14_47_31 ⟨Nat.le_of_ble_eq_true rfl, Nat.le_of_ble_eq_true rfl⟩ (fun u2 H locs hP hD hS => ?_)
  have hP : va_P z.1 classes [(a1, .inr (17, [.int 0, .ref a5, .ref a6, .int 0, .ref a7, .ref a8, .ref a9, .null, .null, .int 0, .ref a10, .ref a11, .ref a12, .int 0, .ref a13, .int 1])), (a0, .inr (18, [.ref a1, .ref a2, .int 0, .ref a3, .int 0, .ref a4, .int 2, .null, .int 0, .null, .long 0, .int 0, .null]))] H := hP
  have hD : va_D A [(a1, .inr (17, [.int 0, .ref a5, .ref a6, .int 0, .ref a7, .ref a8, .ref a9, .null, .null, .int 0, .ref a10, .ref a11, .ref a12, .int 0, .ref a13, .int 1])), (a0, .inr (18, [.ref a1, .ref a2, .int 0, .ref a3, .int 0, .ref a4, .int 2, .null, .int 0, .null, .long 0, .int 0, .null]))] := hD
  refine W.eq (g2 := F0 m 34 ls [.int 1]) rfl ?_
  refine lv_if_eq (tgt := 39) hx hb d_14_47_34 (by decide) (fun c9 => absurd c9 (by decide +kernel)) (fun _ => ?_)
  refine lv_iconst (v := 0) hx hb d_14_47_37 (by decide +kernel) ?_
  refine W.widen (k := 0) (n := 0) (Nat.le_of_ble_eq_true rfl) (Nat.le_of_ble_eq_true rfl) ?_
  exact W.iret hx hb hr (fun t ht hW => qk hP hD hS [1, 0] rfl ((fun k => k), (fun _ _ => none)) rfl rfl rfl ht) hS.2.2 d_14_47_38
set_option maxRecDepth 100000 in
set_option maxHeartbeats 4000000 in
theorem c244_BModel_thrown (l : Launch) (z : Zz) (a0 a1 a2 a3 a4 : Nat) : CT l z ⟨"BallothallModel", "thrown", "()I"⟩ prog_14_method_17_code 1 (some .int) [.ref a0] [(a0, .inr (18, [.ref a1, .ref a2, .int 0, .ref a3, .int 0, .ref a4, .int 2, .null, .int 0, .null, .long 0, .int 0, .null]))] 0 0 0 0 (fun u => some (.int 2)) (fun u => [(a0, .inr (18, [.ref a1, .ref a2, .int 0, .ref a3, .int 0, .ref a4, .int 2, .null, .int 0, .null, .long 0, .int 0, .null]))]) := by
  refine CT.of (own := "BallothallModel") (by decide +kernel) (Nat.le_of_ble_eq_true rfl) rfl (fun p e s m below meth c A ls hx hb hml hr hts hown hlocks hin hA hG hZ hP hD hS hl => ?_)
  have hl : lv_has ls 1 [(0, .ref a0)] := hl
  refine lv_aload_n hx hb d_14_17_0 rfl (lv_at hl 0 rfl) ?_
  refine va_get (D := z.1) (ci := 18) (v := .int 2) (C := "BallothallModel") (T := TX18) (N := 13) hx hb hts iX18 hown hG.1 hP 0 rfl rfl 6 (by decide) (hts _ w_1651) (fun _ h9 => h9) rfl d_14_17_1 ?_
  refine W.widen (k := 0) (n := 0) (Nat.le_of_ble_eq_true rfl) (Nat.le_of_ble_eq_true rfl) ?_
  exact W.iret hx hb hr (fun t ht hW => qk hP hD hS [0] rfl ((fun k => k), (fun _ _ => none)) rfl rfl rfl ht) hS.2.2 d_14_17_4
set_option maxRecDepth 100000 in
set_option maxHeartbeats 4000000 in
theorem c245_Counting_latest (l : Launch) (z : Zz) (a0 a1 a2 a3 a4 a5 a6 a7 a8 a9 a10 a11 a12 a13 : Nat) : CT l z ⟨"Ballothall$Counting", "latest", "()LBallothall$Count;"⟩ prog_5_method_2_code 1 (some (.object "Ballothall$Count")) [.ref a0] [(a0, .inr (3, [.ref a1, .ref a2, .int 0, .int 0, .ref a3, .ref a4, .ref a5, .ref a6, .ref a7, .ref a8, .ref a9, .ref a10, .ref a11, .ref a12, .ref a13])), (a2, .inl (z.2 4, 21, .inr (.inr (.inr (.inr (fun _ => none))))))] 0 0 0 0 (fun u => some (.null)) (fun u => [(a0, .inr (3, [.ref a1, .ref a2, .int 0, .int 0, .ref a3, .ref a4, .ref a5, .ref a6, .ref a7, .ref a8, .ref a9, .ref a10, .ref a11, .ref a12, .ref a13])), (a2, .inl (z.2 4, 21, .inr (.inr (.inr (.inr (fun _ => none))))))]) := by
  refine CT.of (own := "Ballothall$Counting") (by decide +kernel) (Nat.le_of_ble_eq_true rfl) rfl (fun p e s m below meth c A ls hx hb hml hr hts hown hlocks hin hA hG hZ hP hD hS hl => ?_)
  have hl : lv_has ls 1 [(0, .ref a0)] := hl
  refine lv_aload_n hx hb d_5_2_0 rfl (lv_at hl 0 rfl) ?_
  refine va_get (D := z.1) (ci := 3) (v := .ref a2) (C := "Ballothall$Counting") (T := TX3) (N := 15) hx hb hts iX3 hown hG.1 hP 0 rfl rfl 1 (by decide) (hts _ w_312) (fun _ h9 => h9) rfl d_5_2_1 ?_
  refine lv_aload_n hx hb d_5_2_4 rfl (lv_at hl 0 rfl) ?_
  refine va_get (D := z.1) (ci := 3) (v := .int 0) (C := "Ballothall$Counting") (T := TX3) (N := 15) hx hb hts iX3 hown hG.1 hP 0 rfl rfl 2 (by decide) (hts _ w_313) (fun _ h9 => h9) rfl d_5_2_5 ?_
  refine va_aldq hx hb hG.1 hP 1 4 rfl rfl (vin rfl) d_5_2_8 ?_
  refine W.eq (g2 := F0 m 9 ls [.null]) rfl ?_
  refine W.widen (k := 0) (n := 0) (Nat.le_of_ble_eq_true rfl) (Nat.le_of_ble_eq_true rfl) ?_
  exact W.aret hx hb hr (Or.inl ⟨_, rfl⟩) (Or.inl rfl) (fun t ht hW => qk hP hD hS [0, 1] rfl ((fun k => k), (fun _ _ => none)) rfl rfl rfl ht) hS.2.2 d_5_2_9
set_option maxRecDepth 100000 in
set_option maxHeartbeats 4000000 in
theorem c246_B_quota (l : Launch) (z : Zz) (a0 a1 a2 a3 a4 a5 a6 a7 a8 a9 a10 a11 a12 a13 a14 a15 a16 a17 a18 a19 a20 a21 a22 a23 : Nat) : CT l z ⟨"Ballothall", "quota", "()I"⟩ prog_1_method_18_code 2 (some .int) [.ref a0] [(a0, .inr (11, [.ref a1, .ref a2, .ref a3, .ref a4, .ref a5, .ref a6, .ref a7, .ref a8, .ref a9, .ref a10, .int 0, .int 0, .ref a11, .int 0])), (a5, .inr (3, [.ref a1, .ref a12, .int 0, .int 0, .ref a13, .ref a14, .ref a15, .ref a16, .ref a17, .ref a18, .ref a19, .ref a20, .ref a21, .ref a22, .ref a23])), (a12, .inl (z.2 4, 21, .inr (.inr (.inr (.inr (fun _ => none))))))] 1 28 0 0 (fun u => some (.int (-1))) (fun u => [(a0, .inr (11, [.ref a1, .ref a2, .ref a3, .ref a4, .ref a5, .ref a6, .ref a7, .ref a8, .ref a9, .ref a10, .int 0, .int 0, .ref a11, .int 0])), (a5, .inr (3, [.ref a1, .ref a12, .int 0, .int 0, .ref a13, .ref a14, .ref a15, .ref a16, .ref a17, .ref a18, .ref a19, .ref a20, .ref a21, .ref a22, .ref a23])), (a12, .inl (z.2 4, 21, .inr (.inr (.inr (.inr (fun _ => none))))))]) := by
  refine CT.of (own := "Ballothall") (by decide +kernel) (Nat.le_of_ble_eq_true rfl) rfl (fun p e s m below meth c A ls hx hb hml hr hts hown hlocks hin hA hG hZ hP hD hS hl => ?_)
  have hl : lv_has ls 2 [(0, .ref a0)] := hl
  refine lv_aload_n hx hb d_1_18_0 rfl (lv_at hl 0 rfl) ?_
  refine va_get (D := z.1) (ci := 11) (v := .ref a5) (C := "Ballothall") (T := TX11) (N := 14) hx hb hts iX11 hown hG.1 hP 0 rfl rfl 4 (by decide) (hts _ w_410) (fun _ h9 => h9) rfl d_1_18_1 ?_
  refine kVN (As := []) (rest := []) (wr := [(a0, .inr (11, [.ref a1, .ref a2, .ref a3, .ref a4, .ref a5, .ref a6, .ref a7, .ref a8, .ref a9, .ref a10, .int 0, .int 0, .ref a11, .int 0]))]) (c245_Counting_latest l z a5 a1 a12 a13 a14 a15 a16 a17 a18 a19 a20 a21 a22 a23) hx hb hml hown hts w_464 n_461 w_463 w_s_ad1675 w_8 md_6f7cc1 ⟨Nat.le_of_ble_eq_true rfl, Nat.le_of_ble_eq_true rfl⟩ hG hZ hP hD hS hA 1 rfl rfl rfl [1, 2] [0] rfl rfl rfl rfl rfl hl.1 rfl (Nat.le_of_ble_eq_true rfl) d_1_18_4 ⟨Nat.le_of_ble_eq_true rfl, Nat.le_of_ble_eq_true rfl⟩ (fun u0 H locs hP hD hS => ?_)
  have hP : va_P z.1 classes [(a0, .inr (11, [.ref a1, .ref a2, .ref a3, .ref a4, .ref a5, .ref a6, .ref a7, .ref a8, .ref a9, .ref a10, .int 0, .int 0, .ref a11, .int 0])), (a5, .inr (3, [.ref a1, .ref a12, .int 0, .int 0, .ref a13, .ref a14, .ref a15, .ref a16, .ref a17, .ref a18, .ref a19, .ref a20, .ref a21, .ref a22, .ref a23])), (a12, .inl (z.2 4, 21, .inr (.inr (.inr (.inr (fun _ => none))))))] H := hP
  have hD : va_D A [(a0, .inr (11, [.ref a1, .ref a2, .ref a3, .ref a4, .ref a5, .ref a6, .ref a7, .ref a8, .ref a9, .ref a10, .int 0, .int 0, .ref a11, .int 0])), (a5, .inr (3, [.ref a1, .ref a12, .int 0, .int 0, .ref a13, .ref a14, .ref a15, .ref a16, .ref a17, .ref a18, .ref a19, .ref a20, .ref a21, .ref a22, .ref a23])), (a12, .inl (z.2 4, 21, .inr (.inr (.inr (.inr (fun _ => none))))))] := hD
  refine W.eq (g2 := F0 m 7 ls [.null]) rfl ?_
  refine lv_astore_nN (lv' := [(1, .null), (0, .ref a0)]) hx hb d_1_18_7 rfl hl (by decide) rfl (fun ls hl => ?_)
  refine lv_aload_nN hx hb d_1_18_8 rfl (lv_at hl 0 rfl) ?_
  refine lv_ifnonnullN hx hb d_1_18_9 ?_
  refine lv_iconst (v := (-1)) hx hb d_1_18_12 (by decide +kernel) ?_
  refine lv_goto (tgt := 20) hx hb d_1_18_13 (by decide) ?_
  refine W.widen (k := 0) (n := 0) (Nat.le_of_ble_eq_true rfl) (Nat.le_of_ble_eq_true rfl) ?_
  exact W.iret hx hb hr (fun t ht hW => qk hP hD hS [0, 1, 2] rfl ((fun k => k), (fun _ _ => none)) rfl rfl rfl ht) hS.2.2 d_1_18_20
set_option maxRecDepth 100000 in
set_option maxHeartbeats 4000000 in
theorem c247_BModel_quota (l : Launch) (z : Zz) (a0 a1 a2 a3 a4 a5 a6 a7 a8 a9 a10 a11 a12 a13 : Nat) : CT l z ⟨"BallothallModel", "quota", "()I"⟩ prog_14_method_48_code 1 (some .int) [.ref a0] [(a0, .inr (18, [.ref a1, .ref a2, .int 0, .ref a3, .int 0, .ref a4, .int 0, .null, .int 0, .null, .long 0, .int 0, .null])), (a1, .inr (17, [.int 0, .ref a5, .ref a6, .int 0, .ref a7, .ref a8, .ref a9, .null, .null, .int 0, .ref a10, .ref a11, .ref a12, .int 0, .ref a13, .int 1]))] 0 0 0 0 (fun u => some (.int (-1))) (fun u => [(a0, .inr (18, [.ref a1, .ref a2, .int 0, .ref a3, .int 0, .ref a4, .int 0, .null, .int 0, .null, .long 0, .int 0, .null])), (a1, .inr (17, [.int 0, .ref a5, .ref a6, .int 0, .ref a7, .ref a8, .ref a9, .null, .null, .int 0, .ref a10, .ref a11, .ref a12, .int 0, .ref a13, .int 1]))]) := by
  refine CT.of (own := "BallothallModel") (by decide +kernel) (Nat.le_of_ble_eq_true rfl) rfl (fun p e s m below meth c A ls hx hb hml hr hts hown hlocks hin hA hG hZ hP hD hS hl => ?_)
  have hl : lv_has ls 1 [(0, .ref a0)] := hl
  refine lv_aload_n hx hb d_14_48_0 rfl (lv_at hl 0 rfl) ?_
  refine lv_iconst (v := 0) hx hb d_14_48_1 (by decide +kernel) ?_
  refine va_put (D := z.1) (ci := 18) (v := .int 0) (ty := .int) (C := "BallothallModel") (T := TX18) (N := 13) hx hb hts iX18 tyX18 tyX18_ok nmX18 hown hG.1 hP hD hS 0 rfl rfl 6 (by decide) (hts _ w_1651) (fun _ h9 => h9) rfl (by decide +kernel) rfl rfl (Nat.le_of_ble_eq_true rfl) d_14_48_2 (fun H locs hP hD hS => ?_)
  have hP : va_P z.1 classes [(a0, .inr (18, [.ref a1, .ref a2, .int 0, .ref a3, .int 0, .ref a4, .int 0, .null, .int 0, .null, .long 0, .int 0, .null])), (a1, .inr (17, [.int 0, .ref a5, .ref a6, .int 0, .ref a7, .ref a8, .ref a9, .null, .null, .int 0, .ref a10, .ref a11, .ref a12, .int 0, .ref a13, .int 1]))] H := hP
  have hD : va_D A [(a0, .inr (18, [.ref a1, .ref a2, .int 0, .ref a3, .int 0, .ref a4, .int 0, .null, .int 0, .null, .long 0, .int 0, .null])), (a1, .inr (17, [.int 0, .ref a5, .ref a6, .int 0, .ref a7, .ref a8, .ref a9, .null, .null, .int 0, .ref a10, .ref a11, .ref a12, .int 0, .ref a13, .int 1]))] := hD
  refine lv_aload_n hx hb d_14_48_5 rfl (lv_at hl 0 rfl) ?_
  refine va_get (D := z.1) (ci := 18) (v := .ref a1) (C := "BallothallModel") (T := TX18) (N := 13) hx hb hts iX18 hown hG.1 hP 0 rfl rfl 0 (by decide) (hts _ w_1645) (fun _ h9 => h9) rfl d_14_48_6 ?_
  refine va_getN (D := z.1) (ci := 17) (v := .null) (C := "BallothallModel$State") (T := TX17) (N := 16) hx hb hts iX17 hown hG.1 hP 1 rfl rfl 8 (by decide) (va_Nw.use rfl (hG.2.1 _ n_1596 rfl)) (fun _ h9 => h9) rfl d_14_48_9 ?_
  refine lv_ifnonnullN hx hb d_14_48_12 ?_
  refine lv_iconst (v := (-1)) hx hb d_14_48_15 (by decide +kernel) ?_
  refine lv_goto (tgt := 29) hx hb d_14_48_16 (by decide) ?_
  refine W.widen (k := 0) (n := 0) (Nat.le_of_ble_eq_true rfl) (Nat.le_of_ble_eq_true rfl) ?_
  exact W.iret hx hb hr (fun t ht hW => qk hP hD hS [0, 1] rfl ((fun k => k), (fun _ _ => none)) rfl rfl rfl ht) hS.2.2 d_14_48_29
set_option maxRecDepth 100000 in
set_option maxHeartbeats 4000000 in
theorem c248_B_electedAt (l : Launch) (z : Zz) (hl0 : l.stackTraces = false) (a0 a1 a2 a3 a4 a5 a6 a7 a8 a9 a10 a11 a12 a13 a14 a15 a16 a17 a18 a19 a20 a21 a22 a23 : Nat) (x0 : Int32) : XT l z ⟨"Ballothall", "electedAt", "(I)I"⟩ prog_1_method_19_code 3 (some .int) [.ref a0, .int x0] [(a0, .inr (11, [.ref a1, .ref a2, .ref a3, .ref a4, .ref a5, .ref a6, .ref a7, .ref a8, .ref a9, .ref a10, .int 0, .int 0, .ref a11, .int 0])), (a5, .inr (3, [.ref a1, .ref a12, .int 0, .int 0, .ref a13, .ref a14, .ref a15, .ref a16, .ref a17, .ref a18, .ref a19, .ref a20, .ref a21, .ref a22, .ref a23])), (a12, .inl (z.2 4, 21, .inr (.inr (.inr (.inr (fun _ => none))))))] 6 98 1 6 "java/util/NoSuchElementException" := by
  refine XT.of (own := "Ballothall") (by decide +kernel) (Nat.le_of_ble_eq_true rfl) rfl (fun p e s m below meth c A ls hx hb hml hr hts hown hlocks hin hA hG hZ hP hD hS hl hnt => ?_)
  have hl : lv_has ls 3 [(0, .ref a0), (1, .int x0)] := hl
  refine lv_aload_n hx hb d_1_19_0 rfl (lv_at hl 0 rfl) ?_
  refine va_get (D := z.1) (ci := 11) (v := .ref a5) (C := "Ballothall") (T := TX11) (N := 14) hx hb hts iX11 hown hG.1 hP 0 rfl rfl 4 (by decide) (hts _ w_410) (fun _ h9 => h9) rfl d_1_19_1 ?_
  refine kVN (As := []) (rest := []) (wr := [(a0, .inr (11, [.ref a1, .ref a2, .ref a3, .ref a4, .ref a5, .ref a6, .ref a7, .ref a8, .ref a9, .ref a10, .int 0, .int 0, .ref a11, .int 0]))]) (c245_Counting_latest l z a5 a1 a12 a13 a14 a15 a16 a17 a18 a19 a20 a21 a22 a23) hx hb hml hown hts w_464 n_461 w_463 w_s_ad1675 w_8 md_6f7cc1 ⟨Nat.le_of_ble_eq_true rfl, Nat.le_of_ble_eq_true rfl⟩ hG hZ hP hD hS hA 1 rfl rfl rfl [1, 2] [0] rfl rfl rfl rfl rfl hl.1 rfl (Nat.le_of_ble_eq_true rfl) d_1_19_4 ⟨Nat.le_of_ble_eq_true rfl, Nat.le_of_ble_eq_true rfl⟩ (fun u0 H locs hP hD hS => ?_)
  have hP : va_P z.1 classes [(a0, .inr (11, [.ref a1, .ref a2, .ref a3, .ref a4, .ref a5, .ref a6, .ref a7, .ref a8, .ref a9, .ref a10, .int 0, .int 0, .ref a11, .int 0])), (a5, .inr (3, [.ref a1, .ref a12, .int 0, .int 0, .ref a13, .ref a14, .ref a15, .ref a16, .ref a17, .ref a18, .ref a19, .ref a20, .ref a21, .ref a22, .ref a23])), (a12, .inl (z.2 4, 21, .inr (.inr (.inr (.inr (fun _ => none))))))] H := hP
  have hD : va_D A [(a0, .inr (11, [.ref a1, .ref a2, .ref a3, .ref a4, .ref a5, .ref a6, .ref a7, .ref a8, .ref a9, .ref a10, .int 0, .int 0, .ref a11, .int 0])), (a5, .inr (3, [.ref a1, .ref a12, .int 0, .int 0, .ref a13, .ref a14, .ref a15, .ref a16, .ref a17, .ref a18, .ref a19, .ref a20, .ref a21, .ref a22, .ref a23])), (a12, .inl (z.2 4, 21, .inr (.inr (.inr (.inr (fun _ => none))))))] := hD
  refine W.eq (g2 := F0 m 7 ls [.null]) rfl ?_
  refine lv_astore_nN (lv' := [(2, .null), (0, .ref a0), (1, .int x0)]) hx hb d_1_19_7 rfl hl (by decide) rfl (fun ls hl => ?_)
  refine lv_aload_nN hx hb d_1_19_8 rfl (lv_at hl 0 rfl) ?_
  refine lv_ifnullN (tgt := 24) hx hb d_1_19_9 (by decide) ?_
  exact x_newNS (text := "nobody was elected in this place") hl0 hx hb hml hown hts hlocks hnt hG hZ hS hl.1 (by decide +kernel) w_1083 w_26 (by decide) d_ns_0 d_ns_1 d_ns_2 d_ns_5 xa_206_a xa_206_b d_1_19_24 d_1_19_27 d_1_19_28 d_1_19_30 d_1_19_33 ⟨Nat.le_of_ble_eq_true rfl, Nat.le_of_ble_eq_true rfl, Nat.le_of_ble_eq_true rfl, Nat.le_of_ble_eq_true rfl⟩ (Nat.le_of_ble_eq_true rfl) (Nat.le_of_ble_eq_true rfl) (Nat.le_of_ble_eq_true rfl)
set_option maxRecDepth 100000 in
set_option maxHeartbeats 4000000 in
theorem c249_BLaw_electedAt (l : Launch) (z : Zz) (hl0 : l.stackTraces = false) (a0 a1 a2 a3 a4 a5 a6 a7 a8 a9 a10 a11 a12 a13 a14 a15 a16 a17 a18 a19 a20 a21 a22 a23 a24 : Nat) (x0 : Int32) : HT l z ⟨"BallothallLaw", "electedAt", "(LBallothall;I[J)I"⟩ method_18_code 4 (some .int) [(0, 9, 12, 61)] [.ref a0, .int x0, .ref a1] [(a0, .inr (11, [.ref a2, .ref a3, .ref a4, .ref a5, .ref a6, .ref a7, .ref a8, .ref a9, .ref a10, .ref a11, .int 0, .int 0, .ref a12, .int 0])), (a6, .inr (3, [.ref a2, .ref a13, .int 0, .int 0, .ref a14, .ref a15, .ref a16, .ref a17, .ref a18, .ref a19, .ref a20, .ref a21, .ref a22, .ref a23, .ref a24])), (a13, .inl (z.2 4, 21, .inr (.inr (.inr (.inr (fun _ => none))))))] 7 128 1 6 (fun u => some (.int 1)) (fun u => []) := by
  refine HT.of (own := "BallothallLaw") (by decide +kernel) (Nat.le_of_ble_eq_true rfl) rfl (fun p e s m below meth c A ls hx hb hml hr hts hown hlocks hin hA hG hZ hP hD hS hl htab => ?_)
  have hl : lv_has ls 4 [(0, .ref a0), (1, .int x0), (2, .ref a1)] := hl
  refine lv_aload_n hx hb d_L18_0 rfl (lv_at hl 2 rfl) ?_
  refine lv_iconst (v := 0) hx hb d_L18_1 (by decide +kernel) ?_
  refine lv_aload_n hx hb d_L18_2 rfl (lv_at hl 0 rfl) ?_
  refine lv_iload_n hx hb d_L18_3 rfl (lv_at hl 1 rfl) ?_
  refine xV (As := [.int x0]) (rest := [.int 0, .ref a1]) (wr := []) (c248_B_electedAt l z hl0 a0 a2 a3 a4 a5 a6 a7 a8 a9 a10 a11 a12 a13 a14 a15 a16 a17 a18 a19 a20 a21 a22 a23 a24 x0) hx hb hml hown hts w_1283 w_1280 w_1281 w_1282 w_1 md_db4417 ⟨Nat.le_of_ble_eq_true rfl, Nat.le_of_ble_eq_true rfl⟩ hG hZ hP hD hS hA 0 rfl rfl rfl [0, 1, 2] [] rfl rfl rfl rfl rfl hl.1 rfl (Nat.le_of_ble_eq_true rfl) d_L18_4 ⟨Nat.le_of_ble_eq_true rfl, Nat.le_of_ble_eq_true rfl⟩ (fun q0 ce9 H locs hP hD hS h7 h8 h9 => ?_)
  have hP : va_P z.1 classes [] H := hP
  have hD : va_D A [] := hD
  refine vx_catch hown [] ⟨0, 9, 12, 61⟩ [] (htab.trans rfl) (fun _ h9 => absurd h9 List.not_mem_nil) rfl (by decide) (hts _ w_1075) (va_Nw.use rfl (hG.2.1 _ n_1085 rfl)) h7 h8 h9 ?_
  refine lv_astore_n (lv' := [(3, .ref q0), (0, .ref a0), (1, .int x0), (2, .ref a1)]) hx hb d_L18_12 rfl hl (by decide) rfl (fun ls hl => ?_)
  refine lv_iconst (v := 1) hx hb d_L18_13 (by decide +kernel) ?_
  refine W.widen (k := 1) (n := 6) (Nat.le_of_ble_eq_true rfl) (Nat.le_of_ble_eq_true rfl) ?_
  refine vx_ret ?_
  exact W.iret hx hb hr (fun t ht hW => qk hP hD hS [] rfl ((fun k => k), (fun _ _ => none)) rfl rfl rfl ht) hS.2.2 d_L18_14
set_option maxRecDepth 100000 in
set_option maxHeartbeats 4000000 in
theorem c250_BModel_electedAt (l : Launch) (z : Zz) (a0 a1 a2 a3 a4 a5 a6 a7 a8 a9 a10 a11 a12 a13 : Nat) (x0 : Int32) : CT l z ⟨"BallothallModel", "electedAt", "(I)I"⟩ prog_14_method_49_code 2 (some .int) [.ref a0, .int x0] [(a0, .inr (18, [.ref a1, .ref a2, .int 0, .ref a3, .int 0, .ref a4, .int 0, .null, .int 0, .null, .long 0, .int 0, .null])), (a1, .inr (17, [.int 0, .ref a5, .ref a6, .int 0, .ref a7, .ref a8, .ref a9, .null, .null, .int 0, .ref a10, .ref a11, .ref a12, .int 0, .ref a13, .int 1]))] 1 30 0 0 (fun u => some (.int 0)) (fun u => [(a0, .inr (18, [.ref a1, .ref a2, .int 0, .ref a3, .int 0, .ref a4, .int 1, .null, .int 0, .null, .long 0, .int 0, .null])), (a1, .inr (17, [.int 0, .ref a5, .ref a6, .int 0, .ref a7, .ref a8, .ref a9, .null, .null, .int 0, .ref a10, .ref a11, .ref a12, .int 0, .ref a13, .int 1]))]) := by
  refine CT.of (own := "BallothallModel") (by decide +kernel) (Nat.le_of_ble_eq_true rfl) rfl (fun p e s m below meth c A ls hx hb hml hr hts hown hlocks hin hA hG hZ hP hD hS hl => ?_)
  have hl : lv_has ls 2 [(0, .ref a0), (1, .int x0)] := hl
  refine lv_aload_n hx hb d_14_49_0 rfl (lv_at hl 0 rfl) ?_
  refine lv_aload_n hx hb d_14_49_1 rfl (lv_at hl 0 rfl) ?_
  refine va_get (D := z.1) (ci := 18) (v := .ref a1) (C := "BallothallModel") (T := TX18) (N := 13) hx hb hts iX18 hown hG.1 hP 0 rfl rfl 0 (by decide) (hts _ w_1645) (fun _ h9 => h9) rfl d_14_49_2 ?_
  refine va_getN (D := z.1) (ci := 17) (v := .null) (C := "BallothallModel$State") (T := TX17) (N := 16) hx hb hts iX17 hown hG.1 hP 1 rfl rfl 8 (by decide) (va_Nw.use rfl (hG.2.1 _ n_1596 rfl)) (fun _ h9 => h9) rfl d_14_49_5 ?_
  refine lv_ifnullN (tgt := 35) hx hb d_14_49_8 (by decide) ?_
  refine lv_iconst (v := 0) hx hb d_14_49_35 (by decide +kernel) ?_
  refine lv_iconst (v := 1) hx hb d_14_49_36 (by decide +kernel) ?_
  refine kV (As := [.int 0, .int 1]) (rest := []) (wr := [(a1, .inr (17, [.int 0, .ref a5, .ref a6, .int 0, .ref a7, .ref a8, .ref a9, .null, .null, .int 0, .ref a10, .ref a11, .ref a12, .int 0, .ref a13, .int 1]))]) (c31_BModel_ends l z a0 a1 a2 a3 a4) hx hb hml hown hts w_1696 w_1693 w_1695 w_s_f8f2b7 w_12 md_77b0f8 ⟨Nat.le_of_ble_eq_true rfl, Nat.le_of_ble_eq_true rfl⟩ hG hZ hP hD hS hA 0 rfl rfl rfl [0] [1] rfl rfl rfl rfl rfl hl.1 rfl (Nat.le_of_ble_eq_true rfl) d_14_49_37 ⟨Nat.le_of_ble_eq_true rfl, Nat.le_of_ble_eq_true rfl⟩ (fun u0 H locs hP hD hS => ?_)
  have hP : va_P z.1 classes [(a1, .inr (17, [.int 0, .ref a5, .ref a6, .int 0, .ref a7, .ref a8, .ref a9, .null, .null, .int 0, .ref a10, .ref a11, .ref a12, .int 0, .ref a13, .int 1])), (a0, .inr (18, [.ref a1, .ref a2, .int 0, .ref a3, .int 0, .ref a4, .int 1, .null, .int 0, .null, .long 0, .int 0, .null]))] H := hP
  have hD : va_D A [(a1, .inr (17, [.int 0, .ref a5, .ref a6, .int 0, .ref a7, .ref a8, .ref a9, .null, .null, .int 0, .ref a10, .ref a11, .ref a12, .int 0, .ref a13, .int 1])), (a0, .inr (18, [.ref a1, .ref a2, .int 0, .ref a3, .int 0, .ref a4, .int 1, .null, .int 0, .null, .long 0, .int 0, .null]))] := hD
  refine W.eq (g2 := F0 m 40 ls [.int 1]) rfl ?_
  refine lv_if_eq (tgt := 47) hx hb d_14_49_40 (by decide) (fun c9 => absurd c9 (by decide +kernel)) (fun _ => ?_)
  refine lv_iconst (v := 0) hx hb d_14_49_43 (by decide +kernel) ?_
  refine lv_goto (tgt := 59) hx hb d_14_49_44 (by decide) ?_
  refine W.widen (k := 0) (n := 0) (Nat.le_of_ble_eq_true rfl) (Nat.le_of_ble_eq_true rfl) ?_
  exact W.iret hx hb hr (fun t ht hW => qk hP hD hS [1, 0] rfl ((fun k => k), (fun _ _ => none)) rfl rfl rfl ht) hS.2.2 d_14_49_59
set_option maxRecDepth 100000 in
set_option maxHeartbeats 4000000 in
theorem c251_B_excludedAt (l : Launch) (z : Zz) (hl0 : l.stackTraces = false) (a0 a1 a2 a3 a4 a5 a6 a7 a8 a9 a10 a11 a12 a13 a14 a15 a16 a17 a18 a19 a20 a21 a22 a23 : Nat) (x0 : Int32) : XT l z ⟨"Ballothall", "excludedAt", "(I)I"⟩ prog_1_method_20_code 3 (some .int) [.ref a0, .int x0] [(a0, .inr (11, [.ref a1, .ref a2, .ref a3, .ref a4, .ref a5, .ref a6, .ref a7, .ref a8, .ref a9, .ref a10, .int 0, .int 0, .ref a11, .int 0])), (a5, .inr (3, [.ref a1, .ref a12, .int 0, .int 0, .ref a13, .ref a14, .ref a15, .ref a16, .ref a17, .ref a18, .ref a19, .ref a20, .ref a21, .ref a22, .ref a23])), (a12, .inl (z.2 4, 21, .inr (.inr (.inr (.inr (fun _ => none))))))] 6 98 1 6 "java/util/NoSuchElementException" := by
  refine XT.of (own := "Ballothall") (by decide +kernel) (Nat.le_of_ble_eq_true rfl) rfl (fun p e s m below meth c A ls hx hb hml hr hts hown hlocks hin hA hG hZ hP hD hS hl hnt => ?_)
  have hl : lv_has ls 3 [(0, .ref a0), (1, .int x0)] := hl
  refine lv_aload_n hx hb d_1_20_0 rfl (lv_at hl 0 rfl) ?_
  refine va_get (D := z.1) (ci := 11) (v := .ref a5) (C := "Ballothall") (T := TX11) (N := 14) hx hb hts iX11 hown hG.1 hP 0 rfl rfl 4 (by decide) (hts _ w_410) (fun _ h9 => h9) rfl d_1_20_1 ?_
  refine kVN (As := []) (rest := []) (wr := [(a0, .inr (11, [.ref a1, .ref a2, .ref a3, .ref a4, .ref a5, .ref a6, .ref a7, .ref a8, .ref a9, .ref a10, .int 0, .int 0, .ref a11, .int 0]))]) (c245_Counting_latest l z a5 a1 a12 a13 a14 a15 a16 a17 a18 a19 a20 a21 a22 a23) hx hb hml hown hts w_464 n_461 w_463 w_s_ad1675 w_8 md_6f7cc1 ⟨Nat.le_of_ble_eq_true rfl, Nat.le_of_ble_eq_true rfl⟩ hG hZ hP hD hS hA 1 rfl rfl rfl [1, 2] [0] rfl rfl rfl rfl rfl hl.1 rfl (Nat.le_of_ble_eq_true rfl) d_1_20_4 ⟨Nat.le_of_ble_eq_true rfl, Nat.le_of_ble_eq_true rfl⟩ (fun u0 H locs hP hD hS => ?_)
  have hP : va_P z.1 classes [(a0, .inr (11, [.ref a1, .ref a2, .ref a3, .ref a4, .ref a5, .ref a6, .ref a7, .ref a8, .ref a9, .ref a10, .int 0, .int 0, .ref a11, .int 0])), (a5, .inr (3, [.ref a1, .ref a12, .int 0, .int 0, .ref a13, .ref a14, .ref a15, .ref a16, .ref a17, .ref a18, .ref a19, .ref a20, .ref a21, .ref a22, .ref a23])), (a12, .inl (z.2 4, 21, .inr (.inr (.inr (.inr (fun _ => none))))))] H := hP
  have hD : va_D A [(a0, .inr (11, [.ref a1, .ref a2, .ref a3, .ref a4, .ref a5, .ref a6, .ref a7, .ref a8, .ref a9, .ref a10, .int 0, .int 0, .ref a11, .int 0])), (a5, .inr (3, [.ref a1, .ref a12, .int 0, .int 0, .ref a13, .ref a14, .ref a15, .ref a16, .ref a17, .ref a18, .ref a19, .ref a20, .ref a21, .ref a22, .ref a23])), (a12, .inl (z.2 4, 21, .inr (.inr (.inr (.inr (fun _ => none))))))] := hD
  refine W.eq (g2 := F0 m 7 ls [.null]) rfl ?_
  refine lv_astore_nN (lv' := [(2, .null), (0, .ref a0), (1, .int x0)]) hx hb d_1_20_7 rfl hl (by decide) rfl (fun ls hl => ?_)
  refine lv_aload_nN hx hb d_1_20_8 rfl (lv_at hl 0 rfl) ?_
  refine lv_ifnullN (tgt := 24) hx hb d_1_20_9 (by decide) ?_
  exact x_newNS (text := "nobody was excluded in this place") hl0 hx hb hml hown hts hlocks hnt hG hZ hS hl.1 (by decide +kernel) w_1083 w_26 (by decide) d_ns_0 d_ns_1 d_ns_2 d_ns_5 xa_206_a xa_206_b d_1_20_24 d_1_20_27 d_1_20_28 d_1_20_30 d_1_20_33 ⟨Nat.le_of_ble_eq_true rfl, Nat.le_of_ble_eq_true rfl, Nat.le_of_ble_eq_true rfl, Nat.le_of_ble_eq_true rfl⟩ (Nat.le_of_ble_eq_true rfl) (Nat.le_of_ble_eq_true rfl) (Nat.le_of_ble_eq_true rfl)
set_option maxRecDepth 100000 in
set_option maxHeartbeats 4000000 in
theorem c252_BLaw_excludedAt (l : Launch) (z : Zz) (hl0 : l.stackTraces = false) (a0 a1 a2 a3 a4 a5 a6 a7 a8 a9 a10 a11 a12 a13 a14 a15 a16 a17 a18 a19 a20 a21 a22 a23 a24 : Nat) (x0 : Int32) : HT l z ⟨"BallothallLaw", "excludedAt", "(LBallothall;I[J)I"⟩ method_19_code 4 (some .int) [(0, 9, 12, 61)] [.ref a0, .int x0, .ref a1] [(a0, .inr (11, [.ref a2, .ref a3, .ref a4, .ref a5, .ref a6, .ref a7, .ref a8, .ref a9, .ref a10, .ref a11, .int 0, .int 0, .ref a12, .int 0])), (a6, .inr (3, [.ref a2, .ref a13, .int 0, .int 0, .ref a14, .ref a15, .ref a16, .ref a17, .ref a18, .ref a19, .ref a20, .ref a21, .ref a22, .ref a23, .ref a24])), (a13, .inl (z.2 4, 21, .inr (.inr (.inr (.inr (fun _ => none))))))] 7 128 1 6 (fun u => some (.int 1)) (fun u => []) := by
  refine HT.of (own := "BallothallLaw") (by decide +kernel) (Nat.le_of_ble_eq_true rfl) rfl (fun p e s m below meth c A ls hx hb hml hr hts hown hlocks hin hA hG hZ hP hD hS hl htab => ?_)
  have hl : lv_has ls 4 [(0, .ref a0), (1, .int x0), (2, .ref a1)] := hl
  refine lv_aload_n hx hb d_L19_0 rfl (lv_at hl 2 rfl) ?_
  refine lv_iconst (v := 0) hx hb d_L19_1 (by decide +kernel) ?_
  refine lv_aload_n hx hb d_L19_2 rfl (lv_at hl 0 rfl) ?_
  refine lv_iload_n hx hb d_L19_3 rfl (lv_at hl 1 rfl) ?_
  refine xV (As := [.int x0]) (rest := [.int 0, .ref a1]) (wr := []) (c251_B_excludedAt l z hl0 a0 a2 a3 a4 a5 a6 a7 a8 a9 a10 a11 a12 a13 a14 a15 a16 a17 a18 a19 a20 a21 a22 a23 a24 x0) hx hb hml hown hts w_1291 w_1288 w_1289 w_1290 w_1 md_a00789 ⟨Nat.le_of_ble_eq_true rfl, Nat.le_of_ble_eq_true rfl⟩ hG hZ hP hD hS hA 0 rfl rfl rfl [0, 1, 2] [] rfl rfl rfl rfl rfl hl.1 rfl (Nat.le_of_ble_eq_true rfl) d_L19_4 ⟨Nat.le_of_ble_eq_true rfl, Nat.le_of_ble_eq_true rfl⟩ (fun q0 ce9 H locs hP hD hS h7 h8 h9 => ?_)
  have hP : va_P z.1 classes [] H := hP
  have hD : va_D A [] := hD
  refine vx_catch hown [] ⟨0, 9, 12, 61⟩ [] (htab.trans rfl) (fun _ h9 => absurd h9 List.not_mem_nil) rfl (by decide) (hts _ w_1075) (va_Nw.use rfl (hG.2.1 _ n_1085 rfl)) h7 h8 h9 ?_
  refine lv_astore_n (lv' := [(3, .ref q0), (0, .ref a0), (1, .int x0), (2, .ref a1)]) hx hb d_L19_12 rfl hl (by decide) rfl (fun ls hl => ?_)
  refine lv_iconst (v := 1) hx hb d_L19_13 (by decide +kernel) ?_
  refine W.widen (k := 1) (n := 6) (Nat.le_of_ble_eq_true rfl) (Nat.le_of_ble_eq_true rfl) ?_
  refine vx_ret ?_
  exact W.iret hx hb hr (fun t ht hW => qk hP hD hS [] rfl ((fun k => k), (fun _ _ => none)) rfl rfl rfl ht) hS.2.2 d_L19_14
set_option maxRecDepth 100000 in
set_option maxHeartbeats 4000000 in
theorem c253_BModel_excludedAt (l : Launch) (z : Zz) (a0 a1 a2 a3 a4 a5 a6 a7 a8 a9 a10 a11 a12 a13 : Nat) (x0 : Int32) : CT l z ⟨"BallothallModel", "excludedAt", "(I)I"⟩ prog_14_method_50_code 2 (some .int) [.ref a0, .int x0] [(a0, .inr (18, [.ref a1, .ref a2, .int 0, .ref a3, .int 0, .ref a4, .int 0, .null, .int 0, .null, .long 0, .int 0, .null])), (a1, .inr (17, [.int 0, .ref a5, .ref a6, .int 0, .ref a7, .ref a8, .ref a9, .null, .null, .int 0, .ref a10, .ref a11, .ref a12, .int 0, .ref a13, .int 1]))] 1 30 0 0 (fun u => some (.int 0)) (fun u => [(a0, .inr (18, [.ref a1, .ref a2, .int 0, .ref a3, .int 0, .ref a4, .int 1, .null, .int 0, .null, .long 0, .int 0, .null])), (a1, .inr (17, [.int 0, .ref a5, .ref a6, .int 0, .ref a7, .ref a8, .ref a9, .null, .null, .int 0, .ref a10, .ref a11, .ref a12, .int 0, .ref a13, .int 1]))]) := by
  refine CT.of (own := "BallothallModel") (by decide +kernel) (Nat.le_of_ble_eq_true rfl) rfl (fun p e s m below meth c A ls hx hb hml hr hts hown hlocks hin hA hG hZ hP hD hS hl => ?_)
  have hl : lv_has ls 2 [(0, .ref a0), (1, .int x0)] := hl
  refine lv_aload_n hx hb d_14_50_0 rfl (lv_at hl 0 rfl) ?_
  refine lv_aload_n hx hb d_14_50_1 rfl (lv_at hl 0 rfl) ?_
  refine va_get (D := z.1) (ci := 18) (v := .ref a1) (C := "BallothallModel") (T := TX18) (N := 13) hx hb hts iX18 hown hG.1 hP 0 rfl rfl 0 (by decide) (hts _ w_1645) (fun _ h9 => h9) rfl d_14_50_2 ?_
  refine va_getN (D := z.1) (ci := 17) (v := .null) (C := "BallothallModel$State") (T := TX17) (N := 16) hx hb hts iX17 hown hG.1 hP 1 rfl rfl 8 (by decide) (va_Nw.use rfl (hG.2.1 _ n_1596 rfl)) (fun _ h9 => h9) rfl d_14_50_5 ?_
  refine lv_ifnullN (tgt := 35) hx hb d_14_50_8 (by decide) ?_
  refine lv_iconst (v := 0) hx hb d_14_50_35 (by decide +kernel) ?_
  refine lv_iconst (v := 1) hx hb d_14_50_36 (by decide +kernel) ?_
  refine kV (As := [.int 0, .int 1]) (rest := []) (wr := [(a1, .inr (17, [.int 0, .ref a5, .ref a6, .int 0, .ref a7, .ref a8, .ref a9, .null, .null, .int 0, .ref a10, .ref a11, .ref a12, .int 0, .ref a13, .int 1]))]) (c31_BModel_ends l z a0 a1 a2 a3 a4) hx hb hml hown hts w_1696 w_1693 w_1695 w_s_f8f2b7 w_12 md_77b0f8 ⟨Nat.le_of_ble_eq_true rfl, Nat.le_of_ble_eq_true rfl⟩ hG hZ hP hD hS hA 0 rfl rfl rfl [0] [1] rfl rfl rfl rfl rfl hl.1 rfl (Nat.le_of_ble_eq_true rfl) d_14_50_37 ⟨Nat.le_of_ble_eq_true rfl, Nat.le_of_ble_eq_true rfl⟩ (fun u0 H locs hP hD hS => ?_)
  have hP : va_P z.1 classes [(a1, .inr (17, [.int 0, .ref a5, .ref a6, .int 0, .ref a7, .ref a8, .ref a9, .null, .null, .int 0, .ref a10, .ref a11, .ref a12, .int 0, .ref a13, .int 1])), (a0, .inr (18, [.ref a1, .ref a2, .int 0, .ref a3, .int 0, .ref a4, .int 1, .null, .int 0, .null, .long 0, .int 0, .null]))] H := hP
  have hD : va_D A [(a1, .inr (17, [.int 0, .ref a5, .ref a6, .int 0, .ref a7, .ref a8, .ref a9, .null, .null, .int 0, .ref a10, .ref a11, .ref a12, .int 0, .ref a13, .int 1])), (a0, .inr (18, [.ref a1, .ref a2, .int 0, .ref a3, .int 0, .ref a4, .int 1, .null, .int 0, .null, .long 0, .int 0, .null]))] := hD
  refine W.eq (g2 := F0 m 40 ls [.int 1]) rfl ?_
  refine lv_if_eq (tgt := 47) hx hb d_14_50_40 (by decide) (fun c9 => absurd c9 (by decide +kernel)) (fun _ => ?_)
  refine lv_iconst (v := 0) hx hb d_14_50_43 (by decide +kernel) ?_
  refine lv_goto (tgt := 59) hx hb d_14_50_44 (by decide) ?_
  refine W.widen (k := 0) (n := 0) (Nat.le_of_ble_eq_true rfl) (Nat.le_of_ble_eq_true rfl) ?_
  exact W.iret hx hb hr (fun t ht hW => qk hP hD hS [1, 0] rfl ((fun k => k), (fun _ _ => none)) rfl rfl rfl ht) hS.2.2 d_14_50_59
set_option maxRecDepth 100000 in
set_option maxHeartbeats 4000000 in
theorem c254_B_steps (l : Launch) (z : Zz) (a0 a1 a2 a3 a4 a5 a6 a7 a8 a9 a10 a11 a12 a13 a14 a15 a16 a17 a18 a19 a20 a21 a22 a23 : Nat) : CT l z ⟨"Ballothall", "steps", "()I"⟩ prog_1_method_21_code 2 (some .int) [.ref a0] [(a0, .inr (11, [.ref a1, .ref a2, .ref a3, .ref a4, .ref a5, .ref a6, .ref a7, .ref a8, .ref a9, .ref a10, .int 0, .int 0, .ref a11, .int 0])), (a5, .inr (3, [.ref a1, .ref a12, .int 0, .int 0, .ref a13, .ref a14, .ref a15, .ref a16, .ref a17, .ref a18, .ref a19, .ref a20, .ref a21, .ref a22, .ref a23])), (a12, .inl (z.2 4, 21, .inr (.inr (.inr (.inr (fun _ => none))))))] 1 28 0 0 (fun u => some (.int 0)) (fun u => [(a0, .inr (11, [.ref a1, .ref a2, .ref a3, .ref a4, .ref a5, .ref a6, .ref a7, .ref a8, .ref a9, .ref a10, .int 0, .int 0, .ref a11, .int 0])), (a5, .inr (3, [.ref a1, .ref a12, .int 0, .int 0, .ref a13, .ref a14, .ref a15, .ref a16, .ref a17, .ref a18, .ref a19, .ref a20, .ref a21, .ref a22, .ref a23])), (a12, .inl (z.2 4, 21, .inr (.inr (.inr (.inr (fun _ => none))))))]) := by
  refine CT.of (own := "Ballothall") (by decide +kernel) (Nat.le_of_ble_eq_true rfl) rfl (fun p e s m below meth c A ls hx hb hml hr hts hown hlocks hin hA hG hZ hP hD hS hl => ?_)
  have hl : lv_has ls 2 [(0, .ref a0)] := hl
  refine lv_aload_n hx hb d_1_21_0 rfl (lv_at hl 0 rfl) ?_
  refine va_get (D := z.1) (ci := 11) (v := .ref a5) (C := "Ballothall") (T := TX11) (N := 14) hx hb hts iX11 hown hG.1 hP 0 rfl rfl 4 (by decide) (hts _ w_410) (fun _ h9 => h9) rfl d_1_21_1 ?_
  refine kVN (As := []) (rest := []) (wr := [(a0, .inr (11, [.ref a1, .ref a2, .ref a3, .ref a4, .ref a5, .ref a6, .ref a7, .ref a8, .ref a9, .ref a10, .int 0, .int 0, .ref a11, .int 0]))]) (c245_Counting_latest l z a5 a1 a12 a13 a14 a15 a16 a17 a18 a19 a20 a21 a22 a23) hx hb hml hown hts w_464 n_461 w_463 w_s_ad1675 w_8 md_6f7cc1 ⟨Nat.le_of_ble_eq_true rfl, Nat.le_of_ble_eq_true rfl⟩ hG hZ hP hD hS hA 1 rfl rfl rfl [1, 2] [0] rfl rfl rfl rfl rfl hl.1 rfl (Nat.le_of_ble_eq_true rfl) d_1_21_4 ⟨Nat.le_of_ble_eq_true rfl, Nat.le_of_ble_eq_true rfl⟩ (fun u0 H locs hP hD hS => ?_)
  have hP : va_P z.1 classes [(a0, .inr (11, [.ref a1, .ref a2, .ref a3, .ref a4, .ref a5, .ref a6, .ref a7, .ref a8, .ref a9, .ref a10, .int 0, .int 0, .ref a11, .int 0])), (a5, .inr (3, [.ref a1, .ref a12, .int 0, .int 0, .ref a13, .ref a14, .ref a15, .ref a16, .ref a17, .ref a18, .ref a19, .ref a20, .ref a21, .ref a22, .ref a23])), (a12, .inl (z.2 4, 21, .inr (.inr (.inr (.inr (fun _ => none))))))] H := hP
  have hD : va_D A [(a0, .inr (11, [.ref a1, .ref a2, .ref a3, .ref a4, .ref a5, .ref a6, .ref a7, .ref a8, .ref a9, .ref a10, .int 0, .int 0, .ref a11, .int 0])), (a5, .inr (3, [.ref a1, .ref a12, .int 0, .int 0, .ref a13, .ref a14, .ref a15, .ref a16, .ref a17, .ref a18, .ref a19, .ref a20, .ref a21, .ref a22, .ref a23])), (a12, .inl (z.2 4, 21, .inr (.inr (.inr (.inr (fun _ => none))))))] := hD
  refine W.eq (g2 := F0 m 7 ls [.null]) rfl ?_
  refine lv_astore_nN (lv' := [(1, .null), (0, .ref a0)]) hx hb d_1_21_7 rfl hl (by decide) rfl (fun ls hl => ?_)
  refine lv_aload_nN hx hb d_1_21_8 rfl (lv_at hl 0 rfl) ?_
  refine lv_ifnonnullN hx hb d_1_21_9 ?_
  refine lv_iconst (v := 0) hx hb d_1_21_12 (by decide +kernel) ?_
  refine lv_goto (tgt := 25) hx hb d_1_21_13 (by decide) ?_
  refine W.widen (k := 0) (n := 0) (Nat.le_of_ble_eq_true rfl) (Nat.le_of_ble_eq_true rfl) ?_
  exact W.iret hx hb hr (fun t ht hW => qk hP hD hS [0, 1, 2] rfl ((fun k => k), (fun _ _ => none)) rfl rfl rfl ht) hS.2.2 d_1_21_25
