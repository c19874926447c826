set_option maxRecDepth 100000 in
set_option maxHeartbeats 4000000 in
theorem L0_0 (l : Launch) (hl0 : l.stackTraces = false) (z : Zz) {p : Program} {e : Env} {s : State} {m : MethodId} {below : List Frame} {meth : Method} {c : Code} {A : Nat → Prop} {b : Nat} {xs : Nat → Int32} {Q : State → Prop} (hx : p.tables.exec = Jvm.exec) (hb : c.code = code) (hml : c.maxLocals = 9) (hts : ∀ w ∈ WG, w.before #[Value.ref b] s = true) (hown : s.vm.findClass "BallothallLaw" = some m.cls) (hA : ∀ q, s.heap.size ≤ q → A q) (hG : KG z s) (hZ : XZ A s) (hX : va_X b 4 xs s s.heap) (hbl : b < s.heap.size) (hbA : ¬ A b) (ht : ∀ (H : Heap) (locs : List Loc) (ls : Array Slot), va_S A s.heap H locs → lv_has ls 9 [(0, .ref b), (5, .int 0)] → W p l e room_1 s m #[Value.ref b] below meth c H locs 600002 7302232 Q (F0 m 3072 ls [])) (a0 : Nat) (a1 : Nat) (a2 : Nat) (a3 : Nat) (a4 : Nat) (a5 : Nat) (a6 : Nat) (a7 : Nat) (a8 : Nat) (a9 : Nat) (a10 : Nat) (a11 : Nat) (a12 : Nat) (a13 : Nat) (a14 : Nat) (a15 : Nat) (a16 : Nat) (a17 : Nat) (a18 : Nat) (a19 : Nat) (a20 : Nat) (a21 : Nat) (a22 : Nat) (a23 : Nat) (a24 : Nat) (a25 : Nat) (a26 : Nat) (a27 : Nat) (a28 : Nat) (a29 : Nat) (a30 : Nat) (a31 : Nat) (a32 : Nat) (a33 : Nat) (a34 : Nat) (H : Heap) (locs : List Loc) (ls : Array Slot) (hP : va_P z.1 classes [(a0, .inr (11, [.ref a4, .ref a5, .ref a6, .ref a7, .ref a8, .ref a9, .ref a10, .ref a11, .ref a12, .ref a13, .int 0, .int 0, .ref a14, .int 0])), (a4, .inr (0, [.ref a15, .int 0, .int 0, .int 0, .ref a16, .ref a17, .ref a18, .ref a19, .ref a20, .ref a21])), (a16, .inl (z.2 0, 8, .inl (fun _ => 0))), (a11, .inl (z.2 0, 20, .inl (fun _ => 0))), (a12, .inl (z.2 0, 20, .inl (fun _ => 0))), (a13, .inl (z.2 0, 20, .inl (fun _ => 0))), (a2, .inl (z.2 1, 1, .inr (.inl (fun _ => 0)))), (a1, .inr (18, [.ref a22, .ref a23, .int 0, .ref a24, .int 0, .ref a25, .int 0, .null, .int 0, .null, .long 0, .int 0, .null])), (a22, .inr (17, [.int 0, .ref a26, .ref a27, .int 0, .ref a28, .ref a29, .ref a30, .null, .null, .int 0, .ref a31, .ref a32, .ref a33, .int 0, .ref a34, .int 1])), (a26, .inl (z.2 0, 8, .inl (fun _ => 0))), (a28, .inl (z.2 0, 8, .inl (fun _ => 0))), (a29, .inl (z.2 0, 8, .inl (fun _ => 0))), (a30, .inl (z.2 0, 8, .inl (fun _ => 0))), (a31, .inl (z.2 0, 16, .inl (fun _ => 0))), (a32, .inl (z.2 0, 16, .inl (fun _ => 0))), (a33, .inl (z.2 0, 16, .inl (fun _ => 0))), (a34, .inl (z.2 0, 12, .inl (fun _ => 0))), (a23, .inl (z.2 6, 20, .inr (.inr (.inr (.inr (fun _ => none))))))] H) (hD : va_D A [(a0, .inr (11, [.ref a4, .ref a5, .ref a6, .ref a7, .ref a8, .ref a9, .ref a10, .ref a11, .ref a12, .ref a13, .int 0, .int 0, .ref a14, .int 0])), (a4, .inr (0, [.ref a15, .int 0, .int 0, .int 0, .ref a16, .ref a17, .ref a18, .ref a19, .ref a20, .ref a21])), (a16, .inl (z.2 0, 8, .inl (fun _ => 0))), (a11, .inl (z.2 0, 20, .inl (fun _ => 0))), (a12, .inl (z.2 0, 20, .inl (fun _ => 0))), (a13, .inl (z.2 0, 20, .inl (fun _ => 0))), (a2, .inl (z.2 1, 1, .inr (.inl (fun _ => 0)))), (a1, .inr (18, [.ref a22, .ref a23, .int 0, .ref a24, .int 0, .ref a25, .int 0, .null, .int 0, .null, .long 0, .int 0, .null])), (a22, .inr (17, [.int 0, .ref a26, .ref a27, .int 0, .ref a28, .ref a29, .ref a30, .null, .null, .int 0, .ref a31, .ref a32, .ref a33, .int 0, .ref a34, .int 1])), (a26, .inl (z.2 0, 8, .inl (fun _ => 0))), (a28, .inl (z.2 0, 8, .inl (fun _ => 0))), (a29, .inl (z.2 0, 8, .inl (fun _ => 0))), (a30, .inl (z.2 0, 8, .inl (fun _ => 0))), (a31, .inl (z.2 0, 16, .inl (fun _ => 0))), (a32, .inl (z.2 0, 16, .inl (fun _ => 0))), (a33, .inl (z.2 0, 16, .inl (fun _ => 0))), (a34, .inl (z.2 0, 12, .inl (fun _ => 0))), (a23, .inl (z.2 6, 20, .inr (.inr (.inr (.inr (fun _ => none))))))]) (hS : va_S A s.heap H locs) (hl : lv_has ls 9 [(0, .ref b), (1, .ref a0), (2, .ref a1), (3, .ref a2), (4, .ref a3), (5, .int 0)]) : W p l e room_1 s m #[Value.ref b] below meth c H locs 265 8866 Q (F0 m 44 ls [.int 0]) := by
  refine lv_tableIn (tgt := 272) hx hb d_law_44 (by decide +kernel) (by decide +kernel) rfl (by decide) ?_
  refine lv_aload_n hx hb d_law_272 rfl (lv_at hl 1 rfl) ?_
  refine lv_aload_n hx hb d_law_273 rfl (lv_at hl 3 rfl) ?_
  refine kH (As := [.ref a0, .ref a2]) (rest := []) (wr := [(a1, .inr (18, [.ref a22, .ref a23, .int 0, .ref a24, .int 0, .ref a25, .int 0, .null, .int 0, .null, .long 0, .int 0, .null])), (a22, .inr (17, [.int 0, .ref a26, .ref a27, .int 0, .ref a28, .ref a29, .ref a30, .null, .null, .int 0, .ref a31, .ref a32, .ref a33, .int 0, .ref a34, .int 1])), (a26, .inl (z.2 0, 8, .inl (fun _ => 0))), (a28, .inl (z.2 0, 8, .inl (fun _ => 0))), (a29, .inl (z.2 0, 8, .inl (fun _ => 0))), (a30, .inl (z.2 0, 8, .inl (fun _ => 0))), (a31, .inl (z.2 0, 16, .inl (fun _ => 0))), (a32, .inl (z.2 0, 16, .inl (fun _ => 0))), (a33, .inl (z.2 0, 16, .inl (fun _ => 0))), (a34, .inl (z.2 0, 12, .inl (fun _ => 0))), (a23, .inl (z.2 6, 20, .inr (.inr (.inr (.inr (fun _ => none))))))]) (c20_BLaw_candidate l z a0 a2 a4 a5 a6 a7 a8 a9 a10 a11 a12 a13 a14 a15 a16 a17 a18 a19 a20 a21) hx hb hml hown hts w_763 w_761 w_762 w_0 md_688361 ⟨Nat.le_of_ble_eq_true rfl, Nat.le_of_ble_eq_true rfl⟩ hG hZ hP hD hS hA [0, 1, 2, 3, 4, 5, 6] [7, 8, 9, 10, 11, 12, 13, 14, 15, 16, 17] rfl rfl rfl rfl rfl hl.1 rfl (Nat.le_of_ble_eq_true rfl) d_law_274 ⟨Nat.le_of_ble_eq_true rfl, Nat.le_of_ble_eq_true rfl⟩ (fun u0 H locs hP hD hS => ?_)
  have hP : va_P z.1 classes [(a1, .inr (18, [.ref a22, .ref a23, .int 0, .ref a24, .int 0, .ref a25, .int 0, .null, .int 0, .null, .long 0, .int 0, .null])), (a22, .inr (17, [.int 0, .ref a26, .ref a27, .int 0, .ref a28, .ref a29, .ref a30, .null, .null, .int 0, .ref a31, .ref a32, .ref a33, .int 0, .ref a34, .int 1])), (a26, .inl (z.2 0, 8, .inl (fun _ => 0))), (a28, .inl (z.2 0, 8, .inl (fun _ => 0))), (a29, .inl (z.2 0, 8, .inl (fun _ => 0))), (a30, .inl (z.2 0, 8, .inl (fun _ => 0))), (a31, .inl (z.2 0, 16, .inl (fun _ => 0))), (a32, .inl (z.2 0, 16, .inl (fun _ => 0))), (a33, .inl (z.2 0, 16, .inl (fun _ => 0))), (a34, .inl (z.2 0, 12, .inl (fun _ => 0))), (a23, .inl (z.2 6, 20, .inr (.inr (.inr (.inr (fun _ => none)))))), (a0, .inr (11, [.ref a4, .ref a5, .ref a6, .ref a7, .ref a8, .ref a9, .ref a10, .ref a11, .ref a12, .ref a13, .int 1, .int 1, .ref a14, .int 0])), (a4, .inr (0, [.ref a15, .int 0, .int 1, .int 0, .ref a16, .ref a17, .ref a18, .ref a19, .ref a20, .ref a21])), (a16, .inl (z.2 0, 8, .inl (fun _ => 0))), (a11, .inl (z.2 0, 20, .inl (fun _ => 0))), (a12, .inl (z.2 0, 20, .inl (fun _ => 0))), (a13, .inl (z.2 0, 20, .inl (fun _ => 0))), (a2, .inl (z.2 1, 1, .inr (.inl (fun _ => 0))))] H := hP
  have hD : va_D A [(a1, .inr (18, [.ref a22, .ref a23, .int 0, .ref a24, .int 0, .ref a25, .int 0, .null, .int 0, .null, .long 0, .int 0, .null])), (a22, .inr (17, [.int 0, .ref a26, .ref a27, .int 0, .ref a28, .ref a29, .ref a30, .null, .null, .int 0, .ref a31, .ref a32, .ref a33, .int 0, .ref a34, .int 1])), (a26, .inl (z.2 0, 8, .inl (fun _ => 0))), (a28, .inl (z.2 0, 8, .inl (fun _ => 0))), (a29, .inl (z.2 0, 8, .inl (fun _ => 0))), (a30, .inl (z.2 0, 8, .inl (fun _ => 0))), (a31, .inl (z.2 0, 16, .inl (fun _ => 0))), (a32, .inl (z.2 0, 16, .inl (fun _ => 0))), (a33, .inl (z.2 0, 16, .inl (fun _ => 0))), (a34, .inl (z.2 0, 12, .inl (fun _ => 0))), (a23, .inl (z.2 6, 20, .inr (.inr (.inr (.inr (fun _ => none)))))), (a0, .inr (11, [.ref a4, .ref a5, .ref a6, .ref a7, .ref a8, .ref a9, .ref a10, .ref a11, .ref a12, .ref a13, .int 1, .int 1, .ref a14, .int 0])), (a4, .inr (0, [.ref a15, .int 0, .int 1, .int 0, .ref a16, .ref a17, .ref a18, .ref a19, .ref a20, .ref a21])), (a16, .inl (z.2 0, 8, .inl (fun _ => 0))), (a11, .inl (z.2 0, 20, .inl (fun _ => 0))), (a12, .inl (z.2 0, 20, .inl (fun _ => 0))), (a13, .inl (z.2 0, 20, .inl (fun _ => 0))), (a2, .inl (z.2 1, 1, .inr (.inl (fun _ => 0))))] := hD
  refine W.eq (g2 := F0 m 277 ls [.int 0]) rfl ?_
  refine lv_istore (lv' := [(6, .int 0), (0, .ref b), (1, .ref a0), (2, .ref a1), (3, .ref a2), (4, .ref a3), (5, .int 0)]) hx hb d_law_277 hl (by decide) rfl (fun ls hl => ?_)
  refine lv_aload_n hx hb d_law_279 rfl (lv_at hl 3 rfl) ?_
  refine kV (As := []) (rest := []) (wr := [(a0, .inr (11, [.ref a4, .ref a5, .ref a6, .ref a7, .ref a8, .ref a9, .ref a10, .ref a11, .ref a12, .ref a13, .int 1, .int 1, .ref a14, .int 0])), (a4, .inr (0, [.ref a15, .int 0, .int 1, .int 0, .ref a16, .ref a17, .ref a18, .ref a19, .ref a20, .ref a21])), (a16, .inl (z.2 0, 8, .inl (fun _ => 0))), (a11, .inl (z.2 0, 20, .inl (fun _ => 0))), (a12, .inl (z.2 0, 20, .inl (fun _ => 0))), (a13, .inl (z.2 0, 20, .inl (fun _ => 0))), (a2, .inl (z.2 1, 1, .inr (.inl (fun _ => 0))))]) (c24_BModel_candidate l z a1 a22 a23 a24 a25 a26 a27 a28 a29 a30 a31 a32 a33 a34) hx hb hml hown hts w_1692 w_1689 w_1690 w_1691 w_12 md_42013e ⟨Nat.le_of_ble_eq_true rfl, Nat.le_of_ble_eq_true rfl⟩ hG hZ hP hD hS hA 0 rfl rfl rfl [0, 1, 2, 3, 4, 5, 6, 7, 8, 9, 10] [11, 12, 13, 14, 15, 16, 17] rfl rfl rfl rfl rfl hl.1 rfl (Nat.le_of_ble_eq_true rfl) d_law_280 ⟨Nat.le_of_ble_eq_true rfl, Nat.le_of_ble_eq_true rfl⟩ (fun u1 H locs hP hD hS => ?_)
  have hP : va_P z.1 classes [(a0, .inr (11, [.ref a4, .ref a5, .ref a6, .ref a7, .ref a8, .ref a9, .ref a10, .ref a11, .ref a12, .ref a13, .int 1, .int 1, .ref a14, .int 0])), (a4, .inr (0, [.ref a15, .int 0, .int 1, .int 0, .ref a16, .ref a17, .ref a18, .ref a19, .ref a20, .ref a21])), (a16, .inl (z.2 0, 8, .inl (fun _ => 0))), (a11, .inl (z.2 0, 20, .inl (fun _ => 0))), (a12, .inl (z.2 0, 20, .inl (fun _ => 0))), (a13, .inl (z.2 0, 20, .inl (fun _ => 0))), (a2, .inl (z.2 1, 1, .inr (.inl (fun _ => 0)))), (a1, .inr (18, [.ref a22, .ref a23, .int 1, .ref a24, .int 0, .ref a25, .int 0, .null, .int 0, .null, .long 0, .int 0, .null])), (a22, .inr (17, [.int 1, .ref a26, .ref a27, .int 0, .ref a28, .ref a29, .ref a30, .null, .null, .int 0, .ref a31, .ref a32, .ref a33, .int 0, .ref a34, .int 1])), (a26, .inl (z.2 0, 8, .inl (fun _ => 0))), (a28, .inl (z.2 0, 8, .inl (fun _ => 0))), (a29, .inl (z.2 0, 8, .inl (fun _ => 0))), (a30, .inl (z.2 0, 8, .inl (fun _ => 0))), (a31, .inl (z.2 0, 16, .inl (fun _ => 0))), (a32, .inl (z.2 0, 16, .inl (fun _ => 0))), (a33, .inl (z.2 0, 16, .inl (fun _ => 0))), (a34, .inl (z.2 0, 12, .inl (fun _ => 0))), (a23, .inl (z.2 6, 20, .inr (.inr (.inr (.inr (va_up (fun _ => none) 0 (some (u1.1 0))))))))] H := hP
  have hD : va_D A [(a0, .inr (11, [.ref a4, .ref a5, .ref a6, .ref a7, .ref a8, .ref a9, .ref a10, .ref a11, .ref a12, .ref a13, .int 1, .int 1, .ref a14, .int 0])), (a4, .inr (0, [.ref a15, .int 0, .int 1, .int 0, .ref a16, .ref a17, .ref a18, .ref a19, .ref a20, .ref a21])), (a16, .inl (z.2 0, 8, .inl (fun _ => 0))), (a11, .inl (z.2 0, 20, .inl (fun _ => 0))), (a12, .inl (z.2 0, 20, .inl (fun _ => 0))), (a13, .inl (z.2 0, 20, .inl (fun _ => 0))), (a2, .inl (z.2 1, 1, .inr (.inl (fun _ => 0)))), (a1, .inr (18, [.ref a22, .ref a23, .int 1, .ref a24, .int 0, .ref a25, .int 0, .null, .int 0, .null, .long 0, .int 0, .null])), (a22, .inr (17, [.int 1, .ref a26, .ref a27, .int 0, .ref a28, .ref a29, .ref a30, .null, .null, .int 0, .ref a31, .ref a32, .ref a33, .int 0, .ref a34, .int 1])), (a26, .inl (z.2 0, 8, .inl (fun _ => 0))), (a28, .inl (z.2 0, 8, .inl (fun _ => 0))), (a29, .inl (z.2 0, 8, .inl (fun _ => 0))), (a30, .inl (z.2 0, 8, .inl (fun _ => 0))), (a31, .inl (z.2 0, 16, .inl (fun _ => 0))), (a32, .inl (z.2 0, 16, .inl (fun _ => 0))), (a33, .inl (z.2 0, 16, .inl (fun _ => 0))), (a34, .inl (z.2 0, 12, .inl (fun _ => 0))), (a23, .inl (z.2 6, 20, .inr (.inr (.inr (.inr (va_up (fun _ => none) 0 (some (u1.1 0))))))))] := hD
  refine W.eq (g2 := F0 m 283 ls [.int 0]) rfl ?_
  refine lv_istore (lv' := [(7, .int 0), (6, .int 0), (0, .ref b), (1, .ref a0), (2, .ref a1), (3, .ref a2), (4, .ref a3), (5, .int 0)]) hx hb d_law_283 hl (by decide) rfl (fun ls hl => ?_)
  refine lv_aload_n hx hb d_law_285 rfl (lv_at hl 4 rfl) ?_
  refine kV (As := []) (rest := []) (wr := [(a0, .inr (11, [.ref a4, .ref a5, .ref a6, .ref a7, .ref a8, .ref a9, .ref a10, .ref a11, .ref a12, .ref a13, .int 1, .int 1, .ref a14, .int 0])), (a4, .inr (0, [.ref a15, .int 0, .int 1, .int 0, .ref a16, .ref a17, .ref a18, .ref a19, .ref a20, .ref a21])), (a16, .inl (z.2 0, 8, .inl (fun _ => 0))), (a11, .inl (z.2 0, 20, .inl (fun _ => 0))), (a12, .inl (z.2 0, 20, .inl (fun _ => 0))), (a13, .inl (z.2 0, 20, .inl (fun _ => 0))), (a2, .inl (z.2 1, 1, .inr (.inl (fun _ => 0)))), (a22, .inr (17, [.int 1, .ref a26, .ref a27, .int 0, .ref a28, .ref a29, .ref a30, .null, .null, .int 0, .ref a31, .ref a32, .ref a33, .int 0, .ref a34, .int 1])), (a26, .inl (z.2 0, 8, .inl (fun _ => 0))), (a28, .inl (z.2 0, 8, .inl (fun _ => 0))), (a29, .inl (z.2 0, 8, .inl (fun _ => 0))), (a30, .inl (z.2 0, 8, .inl (fun _ => 0))), (a31, .inl (z.2 0, 16, .inl (fun _ => 0))), (a32, .inl (z.2 0, 16, .inl (fun _ => 0))), (a33, .inl (z.2 0, 16, .inl (fun _ => 0))), (a34, .inl (z.2 0, 12, .inl (fun _ => 0))), (a23, .inl (z.2 6, 20, .inr (.inr (.inr (.inr (va_up (fun _ => none) 0 (some (u1.1 0))))))))]) (c25_BModel_thrown l z a1 a22 a23 a24 a25) hx hb hml hown hts w_1688 w_1685 w_1686 w_1687 w_12 md_c48e0f ⟨Nat.le_of_ble_eq_true rfl, Nat.le_of_ble_eq_true rfl⟩ hG hZ hP hD hS hA 7 rfl rfl rfl [7] [0, 1, 2, 3, 4, 5, 6, 8, 9, 10, 11, 12, 13, 14, 15, 16, 17] rfl rfl rfl rfl rfl hl.1 rfl (Nat.le_of_ble_eq_true rfl) d_law_286 ⟨Nat.le_of_ble_eq_true rfl, Nat.le_of_ble_eq_true rfl⟩ (fun u2 H locs hP hD hS => ?_)
  have hP : va_P z.1 classes [(a0, .inr (11, [.ref a4, .ref a5, .ref a6, .ref a7, .ref a8, .ref a9, .ref a10, .ref a11, .ref a12, .ref a13, .int 1, .int 1, .ref a14, .int 0])), (a4, .inr (0, [.ref a15, .int 0, .int 1, .int 0, .ref a16, .ref a17, .ref a18, .ref a19, .ref a20, .ref a21])), (a16, .inl (z.2 0, 8, .inl (fun _ => 0))), (a11, .inl (z.2 0, 20, .inl (fun _ => 0))), (a12, .inl (z.2 0, 20, .inl (fun _ => 0))), (a13, .inl (z.2 0, 20, .inl (fun _ => 0))), (a2, .inl (z.2 1, 1, .inr (.inl (fun _ => 0)))), (a22, .inr (17, [.int 1, .ref a26, .ref a27, .int 0, .ref a28, .ref a29, .ref a30, .null, .null, .int 0, .ref a31, .ref a32, .ref a33, .int 0, .ref a34, .int 1])), (a26, .inl (z.2 0, 8, .inl (fun _ => 0))), (a28, .inl (z.2 0, 8, .inl (fun _ => 0))), (a29, .inl (z.2 0, 8, .inl (fun _ => 0))), (a30, .inl (z.2 0, 8, .inl (fun _ => 0))), (a31, .inl (z.2 0, 16, .inl (fun _ => 0))), (a32, .inl (z.2 0, 16, .inl (fun _ => 0))), (a33, .inl (z.2 0, 16, .inl (fun _ => 0))), (a34, .inl (z.2 0, 12, .inl (fun _ => 0))), (a23, .inl (z.2 6, 20, .inr (.inr (.inr (.inr (va_up (fun _ => none) 0 (some (u1.1 0)))))))), (a1, .inr (18, [.ref a22, .ref a23, .int 1, .ref a24, .int 0, .ref a25, .int 0, .null, .int 0, .null, .long 0, .int 0, .null]))] H := hP
  have hD : va_D A [(a0, .inr (11, [.ref a4, .ref a5, .ref a6, .ref a7, .ref a8, .ref a9, .ref a10, .ref a11, .ref a12, .ref a13, .int 1, .int 1, .ref a14, .int 0])), (a4, .inr (0, [.ref a15, .int 0, .int 1, .int 0, .ref a16, .ref a17, .ref a18, .ref a19, .ref a20, .ref a21])), (a16, .inl (z.2 0, 8, .inl (fun _ => 0))), (a11, .inl (z.2 0, 20, .inl (fun _ => 0))), (a12, .inl (z.2 0, 20, .inl (fun _ => 0))), (a13, .inl (z.2 0, 20, .inl (fun _ => 0))), (a2, .inl (z.2 1, 1, .inr (.inl (fun _ => 0)))), (a22, .inr (17, [.int 1, .ref a26, .ref a27, .int 0, .ref a28, .ref a29, .ref a30, .null, .null, .int 0, .ref a31, .ref a32, .ref a33, .int 0, .ref a34, .int 1])), (a26, .inl (z.2 0, 8, .inl (fun _ => 0))), (a28, .inl (z.2 0, 8, .inl (fun _ => 0))), (a29, .inl (z.2 0, 8, .inl (fun _ => 0))), (a30, .inl (z.2 0, 8, .inl (fun _ => 0))), (a31, .inl (z.2 0, 16, .inl (fun _ => 0))), (a32, .inl (z.2 0, 16, .inl (fun _ => 0))), (a33, .inl (z.2 0, 16, .inl (fun _ => 0))), (a34, .inl (z.2 0, 12, .inl (fun _ => 0))), (a23, .inl (z.2 6, 20, .inr (.inr (.inr (.inr (va_up (fun _ => none) 0 (some (u1.1 0)))))))), (a1, .inr (18, [.ref a22, .ref a23, .int 1, .ref a24, .int 0, .ref a25, .int 0, .null, .int 0, .null, .long 0, .int 0, .null]))] := hD
  refine W.eq (g2 := F0 m 289 ls [.int 0]) rfl ?_
  refine lv_iload hx hb d_law_289 (lv_at hl 1 rfl) ?_
  refine lv_icmp_eq (tgt := 296) hx hb d_law_291 (by decide) (fun _ => ?_) (fun c9 => absurd (by decide +kernel) c9)
  refine lv_iload hx hb d_law_296 (lv_at hl 1 rfl) ?_
  refine lv_if_ne (tgt := 313) hx hb d_law_298 (by decide) (fun c9 => absurd (by decide +kernel) c9) (fun _ => ?_)
  refine lv_aload_n hx hb d_law_301 rfl (lv_at hl 5 rfl) ?_
  refine lv_iconst (v := 0) hx hb d_law_302 (by decide +kernel) ?_
  refine va_lald hx hb hG.1 hP 6 1 rfl rfl (vin rfl) d_law_303 ?_
  refine nrmL (x1 := 0) rfl ?_
  refine lv_iload hx hb d_law_304 (lv_at hl 0 rfl) ?_
  refine lv_i2l (v := 0) hx hb d_law_306 (by decide +kernel) ?_
  refine W.lcmp hx hb d_law_307 ?_
  refine nrm (x1 := 0) (by decide +kernel) ?_
  refine lv_if_eq (tgt := 313) hx hb d_law_308 (by decide) (fun _ => ?_) (fun c9 => absurd (by decide +kernel) c9)
  refine lv_goto (tgt := 3072) hx hb d_law_313 (by decide) ?_
  refine W.widen (k := 600002) (n := 7302232) (Nat.le_of_ble_eq_true rfl) (Nat.le_of_ble_eq_true rfl) ?_
  exact ht H locs ls hS (lv_sub hl [2, 7] rfl)
set_option maxRecDepth 100000 in
set_option maxHeartbeats 4000000 in
theorem L1_0 (l : Launch) (hl0 : l.stackTraces = false) (z : Zz) {p : Program} {e : Env} {s : State} {m : MethodId} {below : List Frame} {meth : Method} {c : Code} {A : Nat → Prop} {b : Nat} {xs : Nat → Int32} {Q : State → Prop} (hx : p.tables.exec = Jvm.exec) (hb : c.code = code) (hml : c.maxLocals = 9) (hts : ∀ w ∈ WG, w.before #[Value.ref b] s = true) (hown : s.vm.findClass "BallothallLaw" = some m.cls) (hA : ∀ q, s.heap.size ≤ q → A q) (hG : KG z s) (hZ : XZ A s) (hX : va_X b 4 xs s s.heap) (hbl : b < s.heap.size) (hbA : ¬ A b) (ht : ∀ (H : Heap) (locs : List Loc) (ls : Array Slot), va_S A s.heap H locs → lv_has ls 9 [(0, .ref b), (5, .int 0)] → W p l e room_1 s m #[Value.ref b] below meth c H locs 600002 7302232 Q (F0 m 3072 ls [])) (a0 : Nat) (a1 : Nat) (a2 : Nat) (a3 : Nat) (a4 : Nat) (a5 : Nat) (a6 : Nat) (a7 : Nat) (a8 : Nat) (a9 : Nat) (a10 : Nat) (a11 : Nat) (a12 : Nat) (a13 : Nat) (a14 : Nat) (a15 : Nat) (a16 : Nat) (a17 : Nat) (a18 : Nat) (a19 : Nat) (a20 : Nat) (a21 : Nat) (a22 : Nat) (a23 : Nat) (a24 : Nat) (a25 : Nat) (a26 : Nat) (a27 : Nat) (a28 : Nat) (a29 : Nat) (a30 : Nat) (a31 : Nat) (a32 : Nat) (a33 : Nat) (a34 : Nat) (h0 : (xs 1) = 0) (h1 : (xs 2) < 0) (H : Heap) (locs : List Loc) (ls : Array Slot) (hP : va_P z.1 classes [(a0, .inr (11, [.ref a4, .ref a5, .ref a6, .ref a7, .ref a8, .ref a9, .ref a10, .ref a11, .ref a12, .ref a13, .int 0, .int 0, .ref a14, .int 0])), (a4, .inr (0, [.ref a15, .int 0, .int 0, .int 0, .ref a16, .ref a17, .ref a18, .ref a19, .ref a20, .ref a21])), (a1, .inr (18, [.ref a22, .ref a23, .int 0, .ref a24, .int 0, .ref a25, .int 0, .null, .int 0, .null, .long 0, .int 0, .null])), (a22, .inr (17, [.int 0, .ref a26, .ref a27, .int 0, .ref a28, .ref a29, .ref a30, .null, .null, .int 0, .ref a31, .ref a32, .ref a33, .int 0, .ref a34, .int 1]))] H) (hD : va_D A [(a0, .inr (11, [.ref a4, .ref a5, .ref a6, .ref a7, .ref a8, .ref a9, .ref a10, .ref a11, .ref a12, .ref a13, .int 0, .int 0, .ref a14, .int 0])), (a4, .inr (0, [.ref a15, .int 0, .int 0, .int 0, .ref a16, .ref a17, .ref a18, .ref a19, .ref a20, .ref a21])), (a1, .inr (18, [.ref a22, .ref a23, .int 0, .ref a24, .int 0, .ref a25, .int 0, .null, .int 0, .null, .long 0, .int 0, .null])), (a22, .inr (17, [.int 0, .ref a26, .ref a27, .int 0, .ref a28, .ref a29, .ref a30, .null, .null, .int 0, .ref a31, .ref a32, .ref a33, .int 0, .ref a34, .int 1]))]) (hS : va_S A s.heap H locs) (hl : lv_has ls 9 [(0, .ref b), (1, .ref a0), (2, .ref a1), (3, .ref a2), (4, .ref a3), (5, .int 0)]) : W p l e room_1 s m #[Value.ref b] below meth c H locs 265 8866 Q (F0 m 44 ls [.int 1]) := by
  refine lv_tableIn (tgt := 316) hx hb d_law_44 (by decide +kernel) (by decide +kernel) rfl (by decide) ?_
  refine lv_aload_n hx hb d_law_316 rfl (lv_at hl 1 rfl) ?_
  refine lv_aload_n hx hb d_law_317 rfl (lv_at hl 0 rfl) ?_
  refine lv_iload hx hb d_law_318 (lv_at hl 5 rfl) ?_
  refine lv_iconst (v := 1) hx hb d_law_320 (by decide +kernel) ?_
  refine lv_iadd hx hb d_law_321 ?_
  refine nrm (x1 := 1) (by decide +kernel) ?_
  refine va_sld hx hb hX hbl hbA hS (hin4 (i := 1) rfl) d_law_322 ?_
  refine nrm (x1 := xs 1) rfl ?_
  refine lv_if_eq (tgt := 330) hx hb d_law_323 (by decide) (fun _ => ?_) (fun c9 => absurd h0 c9)
  refine lv_iconst (v := 0) hx hb d_law_330 (by decide +kernel) ?_
  refine lv_aload_n hx hb d_law_331 rfl (lv_at hl 0 rfl) ?_
  refine lv_iload hx hb d_law_332 (lv_at hl 5 rfl) ?_
  refine lv_iconst (v := 2) hx hb d_law_334 (by decide +kernel) ?_
  refine lv_iadd hx hb d_law_335 ?_
  refine nrm (x1 := 2) (by decide +kernel) ?_
  refine va_sld hx hb hX hbl hbA hS (hin4 (i := 2) rfl) d_law_336 ?_
  refine nrm (x1 := xs 2) rfl ?_
  refine lv_aload_n hx hb d_law_337 rfl (lv_at hl 0 rfl) ?_
  refine lv_iload hx hb d_law_338 (lv_at hl 5 rfl) ?_
  refine lv_iconst (v := 3) hx hb d_law_340 (by decide +kernel) ?_
  refine lv_iadd hx hb d_law_341 ?_
  refine nrm (x1 := 3) (by decide +kernel) ?_
  refine va_sld hx hb hX hbl hbA hS (hin4 (i := 3) rfl) d_law_342 ?_
  refine nrm (x1 := xs 3) rfl ?_
  refine lv_aload_n hx hb d_law_343 rfl (lv_at hl 3 rfl) ?_
  refine kH (As := [.ref a0, .int 0, .int (xs 2), .int (xs 3), .ref a2]) (rest := []) (wr := [(a1, .inr (18, [.ref a22, .ref a23, .int 0, .ref a24, .int 0, .ref a25, .int 0, .null, .int 0, .null, .long 0, .int 0, .null])), (a22, .inr (17, [.int 0, .ref a26, .ref a27, .int 0, .ref a28, .ref a29, .ref a30, .null, .null, .int 0, .ref a31, .ref a32, .ref a33, .int 0, .ref a34, .int 1]))]) (c28_BLaw_setLot l z hl0 a0 a2 a4 a5 a6 a7 a8 a9 a10 a11 a12 a13 a14 a15 a16 a17 a18 a19 a20 a21 (xs 2) (xs 3) h1) hx hb hml hown hts w_848 w_846 w_847 w_0 md_ddaee7 ⟨Nat.le_of_ble_eq_true rfl, Nat.le_of_ble_eq_true rfl⟩ hG hZ hP hD hS hA [0, 1] [2, 3] rfl rfl rfl rfl rfl hl.1 rfl (Nat.le_of_ble_eq_true rfl) d_law_344 ⟨Nat.le_of_ble_eq_true rfl, Nat.le_of_ble_eq_true rfl⟩ (fun u0 H locs hP hD hS => ?_)
  have hP : va_P z.1 classes [(a1, .inr (18, [.ref a22, .ref a23, .int 0, .ref a24, .int 0, .ref a25, .int 0, .null, .int 0, .null, .long 0, .int 0, .null])), (a22, .inr (17, [.int 0, .ref a26, .ref a27, .int 0, .ref a28, .ref a29, .ref a30, .null, .null, .int 0, .ref a31, .ref a32, .ref a33, .int 0, .ref a34, .int 1]))] H := hP
  have hD : va_D A [(a1, .inr (18, [.ref a22, .ref a23, .int 0, .ref a24, .int 0, .ref a25, .int 0, .null, .int 0, .null, .long 0, .int 0, .null])), (a22, .inr (17, [.int 0, .ref a26, .ref a27, .int 0, .ref a28, .ref a29, .ref a30, .null, .null, .int 0, .ref a31, .ref a32, .ref a33, .int 0, .ref a34, .int 1]))] := hD
  refine W.eq (g2 := F0 m 347 ls [.int 1]) rfl ?_
  refine lv_istore (lv' := [(6, .int 1), (0, .ref b), (1, .ref a0), (2, .ref a1), (3, .ref a2), (4, .ref a3), (5, .int 0)]) hx hb d_law_347 hl (by decide) rfl (fun ls hl => ?_)
  refine lv_aload_n hx hb d_law_349 rfl (lv_at hl 3 rfl) ?_
  refine lv_aload_n hx hb d_law_350 rfl (lv_at hl 1 rfl) ?_
  refine lv_iload hx hb d_law_351 (lv_at hl 6 rfl) ?_
  refine lv_iconst (v := 1) hx hb d_law_353 (by decide +kernel) ?_
  refine lv_iadd hx hb d_law_354 ?_
  refine nrm (x1 := 1) (by decide +kernel) ?_
  refine va_sld hx hb hX hbl hbA hS (hin4 (i := 1) rfl) d_law_355 ?_
  refine nrm (x1 := xs 1) rfl ?_
  refine lv_if_eq (tgt := 363) hx hb d_law_356 (by decide) (fun _ => ?_) (fun c9 => absurd h0 c9)
  refine lv_iconst (v := 0) hx hb d_law_363 (by decide +kernel) ?_
  refine lv_aload_n hx hb d_law_364 rfl (lv_at hl 1 rfl) ?_
  refine lv_iload hx hb d_law_365 (lv_at hl 6 rfl) ?_
  refine lv_iconst (v := 2) hx hb d_law_367 (by decide +kernel) ?_
  refine lv_iadd hx hb d_law_368 ?_
  refine nrm (x1 := 2) (by decide +kernel) ?_
  refine va_sld hx hb hX hbl hbA hS (hin4 (i := 2) rfl) d_law_369 ?_
  refine nrm (x1 := xs 2) rfl ?_
  refine lv_aload_n hx hb d_law_370 rfl (lv_at hl 1 rfl) ?_
  refine lv_iload hx hb d_law_371 (lv_at hl 6 rfl) ?_
  refine lv_iconst (v := 3) hx hb d_law_373 (by decide +kernel) ?_
  refine lv_iadd hx hb d_law_374 ?_
  refine nrm (x1 := 3) (by decide +kernel) ?_
  refine va_sld hx hb hX hbl hbA hS (hin4 (i := 3) rfl) d_law_375 ?_
  refine nrm (x1 := xs 3) rfl ?_
  refine kV (As := [.int 0, .int (xs 2), .int (xs 3)]) (rest := []) (wr := []) (c32_BModel_setLot l z a1 a22 a23 a24 a25 a26 a27 a28 a29 a30 a31 a32 a33 a34 (xs 2) (xs 3) h1) hx hb hml hown hts w_1711 w_1708 w_1709 w_1710 w_12 md_530a4a ⟨Nat.le_of_ble_eq_true rfl, Nat.le_of_ble_eq_true rfl⟩ hG hZ hP hD hS hA 0 rfl rfl rfl [0, 1] [] rfl rfl rfl rfl rfl hl.1 rfl (Nat.le_of_ble_eq_true rfl) d_law_376 ⟨Nat.le_of_ble_eq_true rfl, Nat.le_of_ble_eq_true rfl⟩ (fun u1 H locs hP hD hS => ?_)
  have hP : va_P z.1 classes [(a1, .inr (18, [.ref a22, .ref a23, .int 0, .ref a24, .int 0, .ref a25, .int 1, .null, .int 0, .null, .long 0, .int 0, .null])), (a22, .inr (17, [.int 0, .ref a26, .ref a27, .int 0, .ref a28, .ref a29, .ref a30, .null, .null, .int 0, .ref a31, .ref a32, .ref a33, .int 0, .ref a34, .int 1]))] H := hP
  have hD : va_D A [(a1, .inr (18, [.ref a22, .ref a23, .int 0, .ref a24, .int 0, .ref a25, .int 1, .null, .int 0, .null, .long 0, .int 0, .null])), (a22, .inr (17, [.int 0, .ref a26, .ref a27, .int 0, .ref a28, .ref a29, .ref a30, .null, .null, .int 0, .ref a31, .ref a32, .ref a33, .int 0, .ref a34, .int 1]))] := hD
  refine W.eq (g2 := F0 m 379 ls [.int 0]) rfl ?_
  refine lv_istore (lv' := [(7, .int 0), (6, .int 1), (0, .ref b), (1, .ref a0), (2, .ref a1), (3, .ref a2), (4, .ref a3), (5, .int 0)]) hx hb d_law_379 hl (by decide) rfl (fun ls hl => ?_)
  refine lv_aload_n hx hb d_law_381 rfl (lv_at hl 4 rfl) ?_
  refine kV (As := []) (rest := []) (wr := [(a22, .inr (17, [.int 0, .ref a26, .ref a27, .int 0, .ref a28, .ref a29, .ref a30, .null, .null, .int 0, .ref a31, .ref a32, .ref a33, .int 0, .ref a34, .int 1]))]) (c33_BModel_thrown l z a1 a22 a23 a24 a25) hx hb hml hown hts w_1688 w_1685 w_1686 w_1687 w_12 md_c48e0f ⟨Nat.le_of_ble_eq_true rfl, Nat.le_of_ble_eq_true rfl⟩ hG hZ hP hD hS hA 0 rfl rfl rfl [0] [1] rfl rfl rfl rfl rfl hl.1 rfl (Nat.le_of_ble_eq_true rfl) d_law_382 ⟨Nat.le_of_ble_eq_true rfl, Nat.le_of_ble_eq_true rfl⟩ (fun u2 H locs hP hD hS => ?_)
  have hP : va_P z.1 classes [(a22, .inr (17, [.int 0, .ref a26, .ref a27, .int 0, .ref a28, .ref a29, .ref a30, .null, .null, .int 0, .ref a31, .ref a32, .ref a33, .int 0, .ref a34, .int 1])), (a1, .inr (18, [.ref a22, .ref a23, .int 0, .ref a24, .int 0, .ref a25, .int 1, .null, .int 0, .null, .long 0, .int 0, .null]))] H := hP
  have hD : va_D A [(a22, .inr (17, [.int 0, .ref a26, .ref a27, .int 0, .ref a28, .ref a29, .ref a30, .null, .null, .int 0, .ref a31, .ref a32, .ref a33, .int 0, .ref a34, .int 1])), (a1, .inr (18, [.ref a22, .ref a23, .int 0, .ref a24, .int 0, .ref a25, .int 1, .null, .int 0, .null, .long 0, .int 0, .null]))] := hD
  refine W.eq (g2 := F0 m 385 ls [.int 1]) rfl ?_
  refine lv_iload hx hb d_law_385 (lv_at hl 1 rfl) ?_
  refine lv_icmp_eq (tgt := 392) hx hb d_law_387 (by decide) (fun _ => ?_) (fun c9 => absurd (by decide +kernel) c9)
  refine lv_iload hx hb d_law_392 (lv_at hl 1 rfl) ?_
  refine lv_if_ne (tgt := 409) hx hb d_law_394 (by decide) (fun _ => ?_) (fun c9 => absurd c9 (by decide +kernel))
  refine lv_goto (tgt := 3072) hx hb d_law_409 (by decide) ?_
  refine W.widen (k := 600002) (n := 7302232) (Nat.le_of_ble_eq_true rfl) (Nat.le_of_ble_eq_true rfl) ?_
  exact ht H locs ls hS (lv_sub hl [2, 7] rfl)
set_option maxRecDepth 100000 in
set_option maxHeartbeats 4000000 in
theorem L1_1 (l : Launch) (hl0 : l.stackTraces = false) (z : Zz) {p : Program} {e : Env} {s : State} {m : MethodId} {below : List Frame} {meth : Method} {c : Code} {A : Nat → Prop} {b : Nat} {xs : Nat → Int32} {Q : State → Prop} (hx : p.tables.exec = Jvm.exec) (hb : c.code = code) (hml : c.maxLocals = 9) (hts : ∀ w ∈ WG, w.before #[Value.ref b] s = true) (hown : s.vm.findClass "BallothallLaw" = some m.cls) (hA : ∀ q, s.heap.size ≤ q → A q) (hG : KG z s) (hZ : XZ A s) (hX : va_X b 4 xs s s.heap) (hbl : b < s.heap.size) (hbA : ¬ A b) (ht : ∀ (H : Heap) (locs : List Loc) (ls : Array Slot), va_S A s.heap H locs → lv_has ls 9 [(0, .ref b), (5, .int 0)] → W p l e room_1 s m #[Value.ref b] below meth c H locs 600002 7302232 Q (F0 m 3072 ls [])) (a0 : Nat) (a1 : Nat) (a2 : Nat) (a3 : Nat) (a4 : Nat) (a5 : Nat) (a6 : Nat) (a7 : Nat) (a8 : Nat) (a9 : Nat) (a10 : Nat) (a11 : Nat) (a12 : Nat) (a13 : Nat) (a14 : Nat) (a15 : Nat) (a16 : Nat) (a17 : Nat) (a18 : Nat) (a19 : Nat) (a20 : Nat) (a21 : Nat) (a22 : Nat) (a23 : Nat) (a24 : Nat) (a25 : Nat) (a26 : Nat) (a27 : Nat) (a28 : Nat) (a29 : Nat) (a30 : Nat) (a31 : Nat) (a32 : Nat) (a33 : Nat) (a34 : Nat) (h0 : (xs 1) = 0) (h1 : ¬ (xs 2) < 0) (h2 : (-1) < (xs 2)) (H : Heap) (locs : List Loc) (ls : Array Slot) (hP : va_P z.1 classes [(a0, .inr (11, [.ref a4, .ref a5, .ref a6, .ref a7, .ref a8, .ref a9, .ref a10, .ref a11, .ref a12, .ref a13, .int 0, .int 0, .ref a14, .int 0])), (a4, .inr (0, [.ref a15, .int 0, .int 0, .int 0, .ref a16, .ref a17, .ref a18, .ref a19, .ref a20, .ref a21])), (a1, .inr (18, [.ref a22, .ref a23, .int 0, .ref a24, .int 0, .ref a25, .int 0, .null, .int 0, .null, .long 0, .int 0, .null])), (a22, .inr (17, [.int 0, .ref a26, .ref a27, .int 0, .ref a28, .ref a29, .ref a30, .null, .null, .int 0, .ref a31, .ref a32, .ref a33, .int 0, .ref a34, .int 1]))] H) (hD : va_D A [(a0, .inr (11, [.ref a4, .ref a5, .ref a6, .ref a7, .ref a8, .ref a9, .ref a10, .ref a11, .ref a12, .ref a13, .int 0, .int 0, .ref a14, .int 0])), (a4, .inr (0, [.ref a15, .int 0, .int 0, .int 0, .ref a16, .ref a17, .ref a18, .ref a19, .ref a20, .ref a21])), (a1, .inr (18, [.ref a22, .ref a23, .int 0, .ref a24, .int 0, .ref a25, .int 0, .null, .int 0, .null, .long 0, .int 0, .null])), (a22, .inr (17, [.int 0, .ref a26, .ref a27, .int 0, .ref a28, .ref a29, .ref a30, .null, .null, .int 0, .ref a31, .ref a32, .ref a33, .int 0, .ref a34, .int 1]))]) (hS : va_S A s.heap H locs) (hl : lv_has ls 9 [(0, .ref b), (1, .ref a0), (2, .ref a1), (3, .ref a2), (4, .ref a3), (5, .int 0)]) : W p l e room_1 s m #[Value.ref b] below meth c H locs 265 8866 Q (F0 m 44 ls [.int 1]) := by
  refine lv_tableIn (tgt := 316) hx hb d_law_44 (by decide +kernel) (by decide +kernel) rfl (by decide) ?_
  refine lv_aload_n hx hb d_law_316 rfl (lv_at hl 1 rfl) ?_
  refine lv_aload_n hx hb d_law_317 rfl (lv_at hl 0 rfl) ?_
  refine lv_iload hx hb d_law_318 (lv_at hl 5 rfl) ?_
  refine lv_iconst (v := 1) hx hb d_law_320 (by decide +kernel) ?_
  refine lv_iadd hx hb d_law_321 ?_
  refine nrm (x1 := 1) (by decide +kernel) ?_
  refine va_sld hx hb hX hbl hbA hS (hin4 (i := 1) rfl) d_law_322 ?_
  refine nrm (x1 := xs 1) rfl ?_
  refine lv_if_eq (tgt := 330) hx hb d_law_323 (by decide) (fun _ => ?_) (fun c9 => absurd h0 c9)
  refine lv_iconst (v := 0) hx hb d_law_330 (by decide +kernel) ?_
  refine lv_aload_n hx hb d_law_331 rfl (lv_at hl 0 rfl) ?_
  refine lv_iload hx hb d_law_332 (lv_at hl 5 rfl) ?_
  refine lv_iconst (v := 2) hx hb d_law_334 (by decide +kernel) ?_
  refine lv_iadd hx hb d_law_335 ?_
  refine nrm (x1 := 2) (by decide +kernel) ?_
  refine va_sld hx hb hX hbl hbA hS (hin4 (i := 2) rfl) d_law_336 ?_
  refine nrm (x1 := xs 2) rfl ?_
  refine lv_aload_n hx hb d_law_337 rfl (lv_at hl 0 rfl) ?_
  refine lv_iload hx hb d_law_338 (lv_at hl 5 rfl) ?_
  refine lv_iconst (v := 3) hx hb d_law_340 (by decide +kernel) ?_
  refine lv_iadd hx hb d_law_341 ?_
  refine nrm (x1 := 3) (by decide +kernel) ?_
  refine va_sld hx hb hX hbl hbA hS (hin4 (i := 3) rfl) d_law_342 ?_
  refine nrm (x1 := xs 3) rfl ?_
  refine lv_aload_n hx hb d_law_343 rfl (lv_at hl 3 rfl) ?_
  refine kH (As := [.ref a0, .int 0, .int (xs 2), .int (xs 3), .ref a2]) (rest := []) (wr := [(a1, .inr (18, [.ref a22, .ref a23, .int 0, .ref a24, .int 0, .ref a25, .int 0, .null, .int 0, .null, .long 0, .int 0, .null])), (a22, .inr (17, [.int 0, .ref a26, .ref a27, .int 0, .ref a28, .ref a29, .ref a30, .null, .null, .int 0, .ref a31, .ref a32, .ref a33, .int 0, .ref a34, .int 1]))]) (c36_BLaw_setLot l z hl0 a0 a2 a4 a5 a6 a7 a8 a9 a10 a11 a12 a13 a14 a15 a16 a17 a18 a19 a20 a21 (xs 2) (xs 3) h1) hx hb hml hown hts w_848 w_846 w_847 w_0 md_ddaee7 ⟨Nat.le_of_ble_eq_true rfl, Nat.le_of_ble_eq_true rfl⟩ hG hZ hP hD hS hA [0, 1] [2, 3] rfl rfl rfl rfl rfl hl.1 rfl (Nat.le_of_ble_eq_true rfl) d_law_344 ⟨Nat.le_of_ble_eq_true rfl, Nat.le_of_ble_eq_true rfl⟩ (fun u0 H locs hP hD hS => ?_)
  have hP : va_P z.1 classes [(a1, .inr (18, [.ref a22, .ref a23, .int 0, .ref a24, .int 0, .ref a25, .int 0, .null, .int 0, .null, .long 0, .int 0, .null])), (a22, .inr (17, [.int 0, .ref a26, .ref a27, .int 0, .ref a28, .ref a29, .ref a30, .null, .null, .int 0, .ref a31, .ref a32, .ref a33, .int 0, .ref a34, .int 1]))] H := hP
  have hD : va_D A [(a1, .inr (18, [.ref a22, .ref a23, .int 0, .ref a24, .int 0, .ref a25, .int 0, .null, .int 0, .null, .long 0, .int 0, .null])), (a22, .inr (17, [.int 0, .ref a26, .ref a27, .int 0, .ref a28, .ref a29, .ref a30, .null, .null, .int 0, .ref a31, .ref a32, .ref a33, .int 0, .ref a34, .int 1]))] := hD
  refine W.eq (g2 := F0 m 347 ls [.int 1]) rfl ?_
  refine lv_istore (lv' := [(6, .int 1), (0, .ref b), (1, .ref a0), (2, .ref a1), (3, .ref a2), (4, .ref a3), (5, .int 0)]) hx hb d_law_347 hl (by decide) rfl (fun ls hl => ?_)
  refine lv_aload_n hx hb d_law_349 rfl (lv_at hl 3 rfl) ?_
  refine lv_aload_n hx hb d_law_350 rfl (lv_at hl 1 rfl) ?_
  refine lv_iload hx hb d_law_351 (lv_at hl 6 rfl) ?_
  refine lv_iconst (v := 1) hx hb d_law_353 (by decide +kernel) ?_
  refine lv_iadd hx hb d_law_354 ?_
  refine nrm (x1 := 1) (by decide +kernel) ?_
  refine va_sld hx hb hX hbl hbA hS (hin4 (i := 1) rfl) d_law_355 ?_
  refine nrm (x1 := xs 1) rfl ?_
  refine lv_if_eq (tgt := 363) hx hb d_law_356 (by decide) (fun _ => ?_) (fun c9 => absurd h0 c9)
  refine lv_iconst (v := 0) hx hb d_law_363 (by decide +kernel) ?_
  refine lv_aload_n hx hb d_law_364 rfl (lv_at hl 1 rfl) ?_
  refine lv_iload hx hb d_law_365 (lv_at hl 6 rfl) ?_
  refine lv_iconst (v := 2) hx hb d_law_367 (by decide +kernel) ?_
  refine lv_iadd hx hb d_law_368 ?_
  refine nrm (x1 := 2) (by decide +kernel) ?_
  refine va_sld hx hb hX hbl hbA hS (hin4 (i := 2) rfl) d_law_369 ?_
  refine nrm (x1 := xs 2) rfl ?_
  refine lv_aload_n hx hb d_law_370 rfl (lv_at hl 1 rfl) ?_
  refine lv_iload hx hb d_law_371 (lv_at hl 6 rfl) ?_
  refine lv_iconst (v := 3) hx hb d_law_373 (by decide +kernel) ?_
  refine lv_iadd hx hb d_law_374 ?_
  refine nrm (x1 := 3) (by decide +kernel) ?_
  refine va_sld hx hb hX hbl hbA hS (hin4 (i := 3) rfl) d_law_375 ?_
  refine nrm (x1 := xs 3) rfl ?_
  refine kV (As := [.int 0, .int (xs 2), .int (xs 3)]) (rest := []) (wr := []) (c39_BModel_setLot l z a1 a22 a23 a24 a25 a26 a27 a28 a29 a30 a31 a32 a33 a34 (xs 2) (xs 3) h1 h2) hx hb hml hown hts w_1711 w_1708 w_1709 w_1710 w_12 md_530a4a ⟨Nat.le_of_ble_eq_true rfl, Nat.le_of_ble_eq_true rfl⟩ hG hZ hP hD hS hA 0 rfl rfl rfl [0, 1] [] rfl rfl rfl rfl rfl hl.1 rfl (Nat.le_of_ble_eq_true rfl) d_law_376 ⟨Nat.le_of_ble_eq_true rfl, Nat.le_of_ble_eq_true rfl⟩ (fun u1 H locs hP hD hS => ?_)
  have hP : va_P z.1 classes [(a1, .inr (18, [.ref a22, .ref a23, .int 0, .ref a24, .int 0, .ref a25, .int 1, .null, .int 0, .null, .long 0, .int 0, .null])), (a22, .inr (17, [.int 0, .ref a26, .ref a27, .int 0, .ref a28, .ref a29, .ref a30, .null, .null, .int 0, .ref a31, .ref a32, .ref a33, .int 0, .ref a34, .int 1]))] H := hP
  have hD : va_D A [(a1, .inr (18, [.ref a22, .ref a23, .int 0, .ref a24, .int 0, .ref a25, .int 1, .null, .int 0, .null, .long 0, .int 0, .null])), (a22, .inr (17, [.int 0, .ref a26, .ref a27, .int 0, .ref a28, .ref a29, .ref a30, .null, .null, .int 0, .ref a31, .ref a32, .ref a33, .int 0, .ref a34, .int 1]))] := hD
  refine W.eq (g2 := F0 m 379 ls [.int 0]) rfl ?_
  refine lv_istore (lv' := [(7, .int 0), (6, .int 1), (0, .ref b), (1, .ref a0), (2, .ref a1), (3, .ref a2), (4, .ref a3), (5, .int 0)]) hx hb d_law_379 hl (by decide) rfl (fun ls hl => ?_)
  refine lv_aload_n hx hb d_law_381 rfl (lv_at hl 4 rfl) ?_
  refine kV (As := []) (rest := []) (wr := [(a22, .inr (17, [.int 0, .ref a26, .ref a27, .int 0, .ref a28, .ref a29, .ref a30, .null, .null, .int 0, .ref a31, .ref a32, .ref a33, .int 0, .ref a34, .int 1]))]) (c33_BModel_thrown l z a1 a22 a23 a24 a25) hx hb hml hown hts w_1688 w_1685 w_1686 w_1687 w_12 md_c48e0f ⟨Nat.le_of_ble_eq_true rfl, Nat.le_of_ble_eq_true rfl⟩ hG hZ hP hD hS hA 0 rfl rfl rfl [0] [1] rfl rfl rfl rfl rfl hl.1 rfl (Nat.le_of_ble_eq_true rfl) d_law_382 ⟨Nat.le_of_ble_eq_true rfl, Nat.le_of_ble_eq_true rfl⟩ (fun u2 H locs hP hD hS => ?_)
  have hP : va_P z.1 classes [(a22, .inr (17, [.int 0, .ref a26, .ref a27, .int 0, .ref a28, .ref a29, .ref a30, .null, .null, .int 0, .ref a31, .ref a32, .ref a33, .int 0, .ref a34, .int 1])), (a1, .inr (18, [.ref a22, .ref a23, .int 0, .ref a24, .int 0, .ref a25, .int 1, .null, .int 0, .null, .long 0, .int 0, .null]))] H := hP
  have hD : va_D A [(a22, .inr (17, [.int 0, .ref a26, .ref a27, .int 0, .ref a28, .ref a29, .ref a30, .null, .null, .int 0, .ref a31, .ref a32, .ref a33, .int 0, .ref a34, .int 1])), (a1, .inr (18, [.ref a22, .ref a23, .int 0, .ref a24, .int 0, .ref a25, .int 1, .null, .int 0, .null, .long 0, .int 0, .null]))] := hD
  refine W.eq (g2 := F0 m 385 ls [.int 1]) rfl ?_
  refine lv_iload hx hb d_law_385 (lv_at hl 1 rfl) ?_
  refine lv_icmp_eq (tgt := 392) hx hb d_law_387 (by decide) (fun _ => ?_) (fun c9 => absurd (by decide +kernel) c9)
  refine lv_iload hx hb d_law_392 (lv_at hl 1 rfl) ?_
  refine lv_if_ne (tgt := 409) hx hb d_law_394 (by decide) (fun _ => ?_) (fun c9 => absurd c9 (by decide +kernel))
  refine lv_goto (tgt := 3072) hx hb d_law_409 (by decide) ?_
  refine W.widen (k := 600002) (n := 7302232) (Nat.le_of_ble_eq_true rfl) (Nat.le_of_ble_eq_true rfl) ?_
  exact ht H locs ls hS (lv_sub hl [2, 7] rfl)
set_option maxRecDepth 100000 in
set_option maxHeartbeats 4000000 in
theorem L1_2 (l : Launch) (hl0 : l.stackTraces = false) (z : Zz) {p : Program} {e : Env} {s : State} {m : MethodId} {below : List Frame} {meth : Method} {c : Code} {A : Nat → Prop} {b : Nat} {xs : Nat → Int32} {Q : State → Prop} (hx : p.tables.exec = Jvm.exec) (hb : c.code = code) (hml : c.maxLocals = 9) (hts : ∀ w ∈ WG, w.before #[Value.ref b] s = true) (hown : s.vm.findClass "BallothallLaw" = some m.cls) (hA : ∀ q, s.heap.size ≤ q → A q) (hG : KG z s) (hZ : XZ A s) (hX : va_X b 4 xs s s.heap) (hbl : b < s.heap.size) (hbA : ¬ A b) (ht : ∀ (H : Heap) (locs : List Loc) (ls : Array Slot), va_S A s.heap H locs → lv_has ls 9 [(0, .ref b), (5, .int 0)] → W p l e room_1 s m #[Value.ref b] below meth c H locs 600002 7302232 Q (F0 m 3072 ls [])) (a0 : Nat) (a1 : Nat) (a2 : Nat) (a3 : Nat) (a4 : Nat) (a5 : Nat) (a6 : Nat) (a7 : Nat) (a8 : Nat) (a9 : Nat) (a10 : Nat) (a11 : Nat) (a12 : Nat) (a13 : Nat) (a14 : Nat) (a15 : Nat) (a16 : Nat) (a17 : Nat) (a18 : Nat) (a19 : Nat) (a20 : Nat) (a21 : Nat) (a22 : Nat) (a23 : Nat) (a24 : Nat) (a25 : Nat) (a26 : Nat) (a27 : Nat) (a28 : Nat) (a29 : Nat) (a30 : Nat) (a31 : Nat) (a32 : Nat) (a33 : Nat) (a34 : Nat) (a35 : Nat) (h0 : ¬ (xs 1) = 0) (h1 : (xs 2) < 0) (H : Heap) (locs : List Loc) (ls : Array Slot) (hP : va_P z.1 classes [(a0, .inr (11, [.ref a4, .ref a5, .ref a6, .ref a7, .ref a8, .ref a9, .ref a10, .ref a11, .ref a12, .ref a13, .int 0, .int 0, .ref a14, .int 0])), (a7, .inr (7, [.int 0, .ref a15, .ref a16, .ref a17, .ref a18, .ref a19, .int 0, .ref a20, .ref a21, .ref a22, .int 0])), (a1, .inr (18, [.ref a23, .ref a24, .int 0, .ref a25, .int 0, .ref a26, .int 0, .null, .int 0, .null, .long 0, .int 0, .null])), (a23, .inr (17, [.int 0, .ref a27, .ref a28, .int 0, .ref a29, .ref a30, .ref a31, .null, .null, .int 0, .ref a32, .ref a33, .ref a34, .int 0, .ref a35, .int 1]))] H) (hD : va_D A [(a0, .inr (11, [.ref a4, .ref a5, .ref a6, .ref a7, .ref a8, .ref a9, .ref a10, .ref a11, .ref a12, .ref a13, .int 0, .int 0, .ref a14, .int 0])), (a7, .inr (7, [.int 0, .ref a15, .ref a16, .ref a17, .ref a18, .ref a19, .int 0, .ref a20, .ref a21, .ref a22, .int 0])), (a1, .inr (18, [.ref a23, .ref a24, .int 0, .ref a25, .int 0, .ref a26, .int 0, .null, .int 0, .null, .long 0, .int 0, .null])), (a23, .inr (17, [.int 0, .ref a27, .ref a28, .int 0, .ref a29, .ref a30, .ref a31, .null, .null, .int 0, .ref a32, .ref a33, .ref a34, .int 0, .ref a35, .int 1]))]) (hS : va_S A s.heap H locs) (hl : lv_has ls 9 [(0, .ref b), (1, .ref a0), (2, .ref a1), (3, .ref a2), (4, .ref a3), (5, .int 0)]) : W p l e room_1 s m #[Value.ref b] below meth c H locs 265 8866 Q (F0 m 44 ls [.int 1]) := by
  refine lv_tableIn (tgt := 316) hx hb d_law_44 (by decide +kernel) (by decide +kernel) rfl (by decide) ?_
  refine lv_aload_n hx hb d_law_316 rfl (lv_at hl 1 rfl) ?_
  refine lv_aload_n hx hb d_law_317 rfl (lv_at hl 0 rfl) ?_
  refine lv_iload hx hb d_law_318 (lv_at hl 5 rfl) ?_
  refine lv_iconst (v := 1) hx hb d_law_320 (by decide +kernel) ?_
  refine lv_iadd hx hb d_law_321 ?_
  refine nrm (x1 := 1) (by decide +kernel) ?_
  refine va_sld hx hb hX hbl hbA hS (hin4 (i := 1) rfl) d_law_322 ?_
  refine nrm (x1 := xs 1) rfl ?_
  refine lv_if_eq (tgt := 330) hx hb d_law_323 (by decide) (fun c9 => absurd c9 h0) (fun _ => ?_)
  refine lv_iconst (v := 1) hx hb d_law_326 (by decide +kernel) ?_
  refine lv_goto (tgt := 331) hx hb d_law_327 (by decide) ?_
  refine lv_aload_n hx hb d_law_331 rfl (lv_at hl 0 rfl) ?_
  refine lv_iload hx hb d_law_332 (lv_at hl 5 rfl) ?_
  refine lv_iconst (v := 2) hx hb d_law_334 (by decide +kernel) ?_
  refine lv_iadd hx hb d_law_335 ?_
  refine nrm (x1 := 2) (by decide +kernel) ?_
  refine va_sld hx hb hX hbl hbA hS (hin4 (i := 2) rfl) d_law_336 ?_
  refine nrm (x1 := xs 2) rfl ?_
  refine lv_aload_n hx hb d_law_337 rfl (lv_at hl 0 rfl) ?_
  refine lv_iload hx hb d_law_338 (lv_at hl 5 rfl) ?_
  refine lv_iconst (v := 3) hx hb d_law_340 (by decide +kernel) ?_
  refine lv_iadd hx hb d_law_341 ?_
  refine nrm (x1 := 3) (by decide +kernel) ?_
  refine va_sld hx hb hX hbl hbA hS (hin4 (i := 3) rfl) d_law_342 ?_
  refine nrm (x1 := xs 3) rfl ?_
  refine lv_aload_n hx hb d_law_343 rfl (lv_at hl 3 rfl) ?_
  refine kH (As := [.ref a0, .int 1, .int (xs 2), .int (xs 3), .ref a2]) (rest := []) (wr := [(a1, .inr (18, [.ref a23, .ref a24, .int 0, .ref a25, .int 0, .ref a26, .int 0, .null, .int 0, .null, .long 0, .int 0, .null])), (a23, .inr (17, [.int 0, .ref a27, .ref a28, .int 0, .ref a29, .ref a30, .ref a31, .null, .null, .int 0, .ref a32, .ref a33, .ref a34, .int 0, .ref a35, .int 1]))]) (c41_BLaw_setLot l z hl0 a0 a2 a4 a5 a6 a7 a8 a9 a10 a11 a12 a13 a14 a15 a16 a17 a18 a19 a20 a21 a22 (xs 2) (xs 3) h1) hx hb hml hown hts w_848 w_846 w_847 w_0 md_ddaee7 ⟨Nat.le_of_ble_eq_true rfl, Nat.le_of_ble_eq_true rfl⟩ hG hZ hP hD hS hA [0, 1] [2, 3] rfl rfl rfl rfl rfl hl.1 rfl (Nat.le_of_ble_eq_true rfl) d_law_344 ⟨Nat.le_of_ble_eq_true rfl, Nat.le_of_ble_eq_true rfl⟩ (fun u0 H locs hP hD hS => ?_)
  have hP : va_P z.1 classes [(a1, .inr (18, [.ref a23, .ref a24, .int 0, .ref a25, .int 0, .ref a26, .int 0, .null, .int 0, .null, .long 0, .int 0, .null])), (a23, .inr (17, [.int 0, .ref a27, .ref a28, .int 0, .ref a29, .ref a30, .ref a31, .null, .null, .int 0, .ref a32, .ref a33, .ref a34, .int 0, .ref a35, .int 1]))] H := hP
  have hD : va_D A [(a1, .inr (18, [.ref a23, .ref a24, .int 0, .ref a25, .int 0, .ref a26, .int 0, .null, .int 0, .null, .long 0, .int 0, .null])), (a23, .inr (17, [.int 0, .ref a27, .ref a28, .int 0, .ref a29, .ref a30, .ref a31, .null, .null, .int 0, .ref a32, .ref a33, .ref a34, .int 0, .ref a35, .int 1]))] := hD
  refine W.eq (g2 := F0 m 347 ls [.int 1]) rfl ?_
  refine lv_istore (lv' := [(6, .int 1), (0, .ref b), (1, .ref a0), (2, .ref a1), (3, .ref a2), (4, .ref a3), (5, .int 0)]) hx hb d_law_347 hl (by decide) rfl (fun ls hl => ?_)
  refine lv_aload_n hx hb d_law_349 rfl (lv_at hl 3 rfl) ?_
  refine lv_aload_n hx hb d_law_350 rfl (lv_at hl 1 rfl) ?_
  refine lv_iload hx hb d_law_351 (lv_at hl 6 rfl) ?_
  refine lv_iconst (v := 1) hx hb d_law_353 (by decide +kernel) ?_
  refine lv_iadd hx hb d_law_354 ?_
  refine nrm (x1 := 1) (by decide +kernel) ?_
  refine va_sld hx hb hX hbl hbA hS (hin4 (i := 1) rfl) d_law_355 ?_
  refine nrm (x1 := xs 1) rfl ?_
  refine lv_if_eq (tgt := 363) hx hb d_law_356 (by decide) (fun c9 => absurd c9 h0) (fun _ => ?_)
  refine lv_iconst (v := 1) hx hb d_law_359 (by decide +kernel) ?_
  refine lv_goto (tgt := 364) hx hb d_law_360 (by decide) ?_
  refine lv_aload_n hx hb d_law_364 rfl (lv_at hl 1 rfl) ?_
  refine lv_iload hx hb d_law_365 (lv_at hl 6 rfl) ?_
  refine lv_iconst (v := 2) hx hb d_law_367 (by decide +kernel) ?_
  refine lv_iadd hx hb d_law_368 ?_
  refine nrm (x1 := 2) (by decide +kernel) ?_
  refine va_sld hx hb hX hbl hbA hS (hin4 (i := 2) rfl) d_law_369 ?_
  refine nrm (x1 := xs 2) rfl ?_
  refine lv_aload_n hx hb d_law_370 rfl (lv_at hl 1 rfl) ?_
  refine lv_iload hx hb d_law_371 (lv_at hl 6 rfl) ?_
  refine lv_iconst (v := 3) hx hb d_law_373 (by decide +kernel) ?_
  refine lv_iadd hx hb d_law_374 ?_
  refine nrm (x1 := 3) (by decide +kernel) ?_
  refine va_sld hx hb hX hbl hbA hS (hin4 (i := 3) rfl) d_law_375 ?_
  refine nrm (x1 := xs 3) rfl ?_
  refine kV (As := [.int 1, .int (xs 2), .int (xs 3)]) (rest := []) (wr := []) (c43_BModel_setLot l z a1 a23 a24 a25 a26 a27 a28 a29 a30 a31 a32 a33 a34 a35 (xs 2) (xs 3) h1) hx hb hml hown hts w_1711 w_1708 w_1709 w_1710 w_12 md_530a4a ⟨Nat.le_of_ble_eq_true rfl, Nat.le_of_ble_eq_true rfl⟩ hG hZ hP hD hS hA 0 rfl rfl rfl [0, 1] [] rfl rfl rfl rfl rfl hl.1 rfl (Nat.le_of_ble_eq_true rfl) d_law_376 ⟨Nat.le_of_ble_eq_true rfl, Nat.le_of_ble_eq_true rfl⟩ (fun u1 H locs hP hD hS => ?_)
  have hP : va_P z.1 classes [(a1, .inr (18, [.ref a23, .ref a24, .int 0, .ref a25, .int 0, .ref a26, .int 1, .null, .int 0, .null, .long 0, .int 0, .null])), (a23, .inr (17, [.int 0, .ref a27, .ref a28, .int 0, .ref a29, .ref a30, .ref a31, .null, .null, .int 0, .ref a32, .ref a33, .ref a34, .int 0, .ref a35, .int 1]))] H := hP
  have hD : va_D A [(a1, .inr (18, [.ref a23, .ref a24, .int 0, .ref a25, .int 0, .ref a26, .int 1, .null, .int 0, .null, .long 0, .int 0, .null])), (a23, .inr (17, [.int 0, .ref a27, .ref a28, .int 0, .ref a29, .ref a30, .ref a31, .null, .null, .int 0, .ref a32, .ref a33, .ref a34, .int 0, .ref a35, .int 1]))] := hD
  refine W.eq (g2 := F0 m 379 ls [.int 0]) rfl ?_
  refine lv_istore (lv' := [(7, .int 0), (6, .int 1), (0, .ref b), (1, .ref a0), (2, .ref a1), (3, .ref a2), (4, .ref a3), (5, .int 0)]) hx hb d_law_379 hl (by decide) rfl (fun ls hl => ?_)
  refine lv_aload_n hx hb d_law_381 rfl (lv_at hl 4 rfl) ?_
  refine kV (As := []) (rest := []) (wr := [(a23, .inr (17, [.int 0, .ref a27, .ref a28, .int 0, .ref a29, .ref a30, .ref a31, .null, .null, .int 0, .ref a32, .ref a33, .ref a34, .int 0, .ref a35, .int 1]))]) (c33_BModel_thrown l z a1 a23 a24 a25 a26) hx hb hml hown hts w_1688 w_1685 w_1686 w_1687 w_12 md_c48e0f ⟨Nat.le_of_ble_eq_true rfl, Nat.le_of_ble_eq_true rfl⟩ hG hZ hP hD hS hA 0 rfl rfl rfl [0] [1] rfl rfl rfl rfl rfl hl.1 rfl (Nat.le_of_ble_eq_true rfl) d_law_382 ⟨Nat.le_of_ble_eq_true rfl, Nat.le_of_ble_eq_true rfl⟩ (fun u2 H locs hP hD hS => ?_)
  have hP : va_P z.1 classes [(a23, .inr (17, [.int 0, .ref a27, .ref a28, .int 0, .ref a29, .ref a30, .ref a31, .null, .null, .int 0, .ref a32, .ref a33, .ref a34, .int 0, .ref a35, .int 1])), (a1, .inr (18, [.ref a23, .ref a24, .int 0, .ref a25, .int 0, .ref a26, .int 1, .null, .int 0, .null, .long 0, .int 0, .null]))] H := hP
  have hD : va_D A [(a23, .inr (17, [.int 0, .ref a27, .ref a28, .int 0, .ref a29, .ref a30, .ref a31, .null, .null, .int 0, .ref a32, .ref a33, .ref a34, .int 0, .ref a35, .int 1])), (a1, .inr (18, [.ref a23, .ref a24, .int 0, .ref a25, .int 0, .ref a26, .int 1, .null, .int 0, .null, .long 0, .int 0, .null]))] := hD
  refine W.eq (g2 := F0 m 385 ls [.int 1]) rfl ?_
  refine lv_iload hx hb d_law_385 (lv_at hl 1 rfl) ?_
  refine lv_icmp_eq (tgt := 392) hx hb d_law_387 (by decide) (fun _ => ?_) (fun c9 => absurd (by decide +kernel) c9)
  refine lv_iload hx hb d_law_392 (lv_at hl 1 rfl) ?_
  refine lv_if_ne (tgt := 409) hx hb d_law_394 (by decide) (fun _ => ?_) (fun c9 => absurd c9 (by decide +kernel))
  refine lv_goto (tgt := 3072) hx hb d_law_409 (by decide) ?_
  refine W.widen (k := 600002) (n := 7302232) (Nat.le_of_ble_eq_true rfl) (Nat.le_of_ble_eq_true rfl) ?_
  exact ht H locs ls hS (lv_sub hl [2, 7] rfl)
set_option maxRecDepth 100000 in
set_option maxHeartbeats 4000000 in
theorem L1_3 (l : Launch) (hl0 : l.stackTraces = false) (z : Zz) {p : Program} {e : Env} {s : State} {m : MethodId} {below : List Frame} {meth : Method} {c : Code} {A : Nat → Prop} {b : Nat} {xs : Nat → Int32} {Q : State → Prop} (hx : p.tables.exec = Jvm.exec) (hb : c.code = code) (hml : c.maxLocals = 9) (hts : ∀ w ∈ WG, w.before #[Value.ref b] s = true) (hown : s.vm.findClass "BallothallLaw" = some m.cls) (hA : ∀ q, s.heap.size ≤ q → A q) (hG : KG z s) (hZ : XZ A s) (hX : va_X b 4 xs s s.heap) (hbl : b < s.heap.size) (hbA : ¬ A b) (ht : ∀ (H : Heap) (locs : List Loc) (ls : Array Slot), va_S A s.heap H locs → lv_has ls 9 [(0, .ref b), (5, .int 0)] → W p l e room_1 s m #[Value.ref b] below meth c H locs 600002 7302232 Q (F0 m 3072 ls [])) (a0 : Nat) (a1 : Nat) (a2 : Nat) (a3 : Nat) (a4 : Nat) (a5 : Nat) (a6 : Nat) (a7 : Nat) (a8 : Nat) (a9 : Nat) (a10 : Nat) (a11 : Nat) (a12 : Nat) (a13 : Nat) (a14 : Nat) (a15 : Nat) (a16 : Nat) (a17 : Nat) (a18 : Nat) (a19 : Nat) (a20 : Nat) (a21 : Nat) (a22 : Nat) (a23 : Nat) (a24 : Nat) (a25 : Nat) (a26 : Nat) (a27 : Nat) (a28 : Nat) (a29 : Nat) (a30 : Nat) (a31 : Nat) (a32 : Nat) (a33 : Nat) (a34 : Nat) (a35 : Nat) (h0 : ¬ (xs 1) = 0) (h1 : ¬ (xs 2) < 0) (h2 : (-1) < (xs 2)) (H : Heap) (locs : List Loc) (ls : Array Slot) (hP : va_P z.1 classes [(a0, .inr (11, [.ref a4, .ref a5, .ref a6, .ref a7, .ref a8, .ref a9, .ref a10, .ref a11, .ref a12, .ref a13, .int 0, .int 0, .ref a14, .int 0])), (a7, .inr (7, [.int 0, .ref a15, .ref a16, .ref a17, .ref a18, .ref a19, .int 0, .ref a20, .ref a21, .ref a22, .int 0])), (a1, .inr (18, [.ref a23, .ref a24, .int 0, .ref a25, .int 0, .ref a26, .int 0, .null, .int 0, .null, .long 0, .int 0, .null])), (a23, .inr (17, [.int 0, .ref a27, .ref a28, .int 0, .ref a29, .ref a30, .ref a31, .null, .null, .int 0, .ref a32, .ref a33, .ref a34, .int 0, .ref a35, .int 1]))] H) (hD : va_D A [(a0, .inr (11, [.ref a4, .ref a5, .ref a6, .ref a7, .ref a8, .ref a9, .ref a10, .ref a11, .ref a12, .ref a13, .int 0, .int 0, .ref a14, .int 0])), (a7, .inr (7, [.int 0, .ref a15, .ref a16, .ref a17, .ref a18, .ref a19, .int 0, .ref a20, .ref a21, .ref a22, .int 0])), (a1, .inr (18, [.ref a23, .ref a24, .int 0, .ref a25, .int 0, .ref a26, .int 0, .null, .int 0, .null, .long 0, .int 0, .null])), (a23, .inr (17, [.int 0, .ref a27, .ref a28, .int 0, .ref a29, .ref a30, .ref a31, .null, .null, .int 0, .ref a32, .ref a33, .ref a34, .int 0, .ref a35, .int 1]))]) (hS : va_S A s.heap H locs) (hl : lv_has ls 9 [(0, .ref b), (1, .ref a0), (2, .ref a1), (3, .ref a2), (4, .ref a3), (5, .int 0)]) : W p l e room_1 s m #[Value.ref b] below meth c H locs 265 8866 Q (F0 m 44 ls [.int 1]) := by
  refine lv_tableIn (tgt := 316) hx hb d_law_44 (by decide +kernel) (by decide +kernel) rfl (by decide) ?_
  refine lv_aload_n hx hb d_law_316 rfl (lv_at hl 1 rfl) ?_
  refine lv_aload_n hx hb d_law_317 rfl (lv_at hl 0 rfl) ?_
  refine lv_iload hx hb d_law_318 (lv_at hl 5 rfl) ?_
  refine lv_iconst (v := 1) hx hb d_law_320 (by decide +kernel) ?_
  refine lv_iadd hx hb d_law_321 ?_
  refine nrm (x1 := 1) (by decide +kernel) ?_
  refine va_sld hx hb hX hbl hbA hS (hin4 (i := 1) rfl) d_law_322 ?_
  refine nrm (x1 := xs 1) rfl ?_
  refine lv_if_eq (tgt := 330) hx hb d_law_323 (by decide) (fun c9 => absurd c9 h0) (fun _ => ?_)
  refine lv_iconst (v := 1) hx hb d_law_326 (by decide +kernel) ?_
  refine lv_goto (tgt := 331) hx hb d_law_327 (by decide) ?_
  refine lv_aload_n hx hb d_law_331 rfl (lv_at hl 0 rfl) ?_
  refine lv_iload hx hb d_law_332 (lv_at hl 5 rfl) ?_
  refine lv_iconst (v := 2) hx hb d_law_334 (by decide +kernel) ?_
  refine lv_iadd hx hb d_law_335 ?_
  refine nrm (x1 := 2) (by decide +kernel) ?_
  refine va_sld hx hb hX hbl hbA hS (hin4 (i := 2) rfl) d_law_336 ?_
  refine nrm (x1 := xs 2) rfl ?_
  refine lv_aload_n hx hb d_law_337 rfl (lv_at hl 0 rfl) ?_
  refine lv_iload hx hb d_law_338 (lv_at hl 5 rfl) ?_
  refine lv_iconst (v := 3) hx hb d_law_340 (by decide +kernel) ?_
  refine lv_iadd hx hb d_law_341 ?_
  refine nrm (x1 := 3) (by decide +kernel) ?_
  refine va_sld hx hb hX hbl hbA hS (hin4 (i := 3) rfl) d_law_342 ?_
  refine nrm (x1 := xs 3) rfl ?_
  refine lv_aload_n hx hb d_law_343 rfl (lv_at hl 3 rfl) ?_
  refine kH (As := [.ref a0, .int 1, .int (xs 2), .int (xs 3), .ref a2]) (rest := []) (wr := [(a1, .inr (18, [.ref a23, .ref a24, .int 0, .ref a25, .int 0, .ref a26, .int 0, .null, .int 0, .null, .long 0, .int 0, .null])), (a23, .inr (17, [.int 0, .ref a27, .ref a28, .int 0, .ref a29, .ref a30, .ref a31, .null, .null, .int 0, .ref a32, .ref a33, .ref a34, .int 0, .ref a35, .int 1]))]) (c45_BLaw_setLot l z hl0 a0 a2 a4 a5 a6 a7 a8 a9 a10 a11 a12 a13 a14 a15 a16 a17 a18 a19 a20 a21 a22 (xs 2) (xs 3) h1) hx hb hml hown hts w_848 w_846 w_847 w_0 md_ddaee7 ⟨Nat.le_of_ble_eq_true rfl, Nat.le_of_ble_eq_true rfl⟩ hG hZ hP hD hS hA [0, 1] [2, 3] rfl rfl rfl rfl rfl hl.1 rfl (Nat.le_of_ble_eq_true rfl) d_law_344 ⟨Nat.le_of_ble_eq_true rfl, Nat.le_of_ble_eq_true rfl⟩ (fun u0 H locs hP hD hS => ?_)
  have hP : va_P z.1 classes [(a1, .inr (18, [.ref a23, .ref a24, .int 0, .ref a25, .int 0, .ref a26, .int 0, .null, .int 0, .null, .long 0, .int 0, .null])), (a23, .inr (17, [.int 0, .ref a27, .ref a28, .int 0, .ref a29, .ref a30, .ref a31, .null, .null, .int 0, .ref a32, .ref a33, .ref a34, .int 0, .ref a35, .int 1]))] H := hP
  have hD : va_D A [(a1, .inr (18, [.ref a23, .ref a24, .int 0, .ref a25, .int 0, .ref a26, .int 0, .null, .int 0, .null, .long 0, .int 0, .null])), (a23, .inr (17, [.int 0, .ref a27, .ref a28, .int 0, .ref a29, .ref a30, .ref a31, .null, .null, .int 0, .ref a32, .ref a33, .ref a34, .int 0, .ref a35, .int 1]))] := hD
  refine W.eq (g2 := F0 m 347 ls [.int 1]) rfl ?_
  refine lv_istore (lv' := [(6, .int 1), (0, .ref b), (1, .ref a0), (2, .ref a1), (3, .ref a2), (4, .ref a3), (5, .int 0)]) hx hb d_law_347 hl (by decide) rfl (fun ls hl => ?_)
  refine lv_aload_n hx hb d_law_349 rfl (lv_at hl 3 rfl) ?_
  refine lv_aload_n hx hb d_law_350 rfl (lv_at hl 1 rfl) ?_
  refine lv_iload hx hb d_law_351 (lv_at hl 6 rfl) ?_
  refine lv_iconst (v := 1) hx hb d_law_353 (by decide +kernel) ?_
  refine lv_iadd hx hb d_law_354 ?_
  refine nrm (x1 := 1) (by decide +kernel) ?_
  refine va_sld hx hb hX hbl hbA hS (hin4 (i := 1) rfl) d_law_355 ?_
  refine nrm (x1 := xs 1) rfl ?_
  refine lv_if_eq (tgt := 363) hx hb d_law_356 (by decide) (fun c9 => absurd c9 h0) (fun _ => ?_)
  refine lv_iconst (v := 1) hx hb d_law_359 (by decide +kernel) ?_
  refine lv_goto (tgt := 364) hx hb d_law_360 (by decide) ?_
  refine lv_aload_n hx hb d_law_364 rfl (lv_at hl 1 rfl) ?_
  refine lv_iload hx hb d_law_365 (lv_at hl 6 rfl) ?_
  refine lv_iconst (v := 2) hx hb d_law_367 (by decide +kernel) ?_
  refine lv_iadd hx hb d_law_368 ?_
  refine nrm (x1 := 2) (by decide +kernel) ?_
  refine va_sld hx hb hX hbl hbA hS (hin4 (i := 2) rfl) d_law_369 ?_
  refine nrm (x1 := xs 2) rfl ?_
  refine lv_aload_n hx hb d_law_370 rfl (lv_at hl 1 rfl) ?_
  refine lv_iload hx hb d_law_371 (lv_at hl 6 rfl) ?_
  refine lv_iconst (v := 3) hx hb d_law_373 (by decide +kernel) ?_
  refine lv_iadd hx hb d_law_374 ?_
  refine nrm (x1 := 3) (by decide +kernel) ?_
  refine va_sld hx hb hX hbl hbA hS (hin4 (i := 3) rfl) d_law_375 ?_
  refine nrm (x1 := xs 3) rfl ?_
  refine kV (As := [.int 1, .int (xs 2), .int (xs 3)]) (rest := []) (wr := []) (c47_BModel_setLot l z a1 a23 a24 a25 a26 a27 a28 a29 a30 a31 a32 a33 a34 a35 (xs 2) (xs 3) h1 h2) hx hb hml hown hts w_1711 w_1708 w_1709 w_1710 w_12 md_530a4a ⟨Nat.le_of_ble_eq_true rfl, Nat.le_of_ble_eq_true rfl⟩ hG hZ hP hD hS hA 0 rfl rfl rfl [0, 1] [] rfl rfl rfl rfl rfl hl.1 rfl (Nat.le_of_ble_eq_true rfl) d_law_376 ⟨Nat.le_of_ble_eq_true rfl, Nat.le_of_ble_eq_true rfl⟩ (fun u1 H locs hP hD hS => ?_)
  have hP : va_P z.1 classes [(a1, .inr (18, [.ref a23, .ref a24, .int 0, .ref a25, .int 0, .ref a26, .int 1, .null, .int 0, .null, .long 0, .int 0, .null])), (a23, .inr (17, [.int 0, .ref a27, .ref a28, .int 0, .ref a29, .ref a30, .ref a31, .null, .null, .int 0, .ref a32, .ref a33, .ref a34, .int 0, .ref a35, .int 1]))] H := hP
  have hD : va_D A [(a1, .inr (18, [.ref a23, .ref a24, .int 0, .ref a25, .int 0, .ref a26, .int 1, .null, .int 0, .null, .long 0, .int 0, .null])), (a23, .inr (17, [.int 0, .ref a27, .ref a28, .int 0, .ref a29, .ref a30, .ref a31, .null, .null, .int 0, .ref a32, .ref a33, .ref a34, .int 0, .ref a35, .int 1]))] := hD
  refine W.eq (g2 := F0 m 379 ls [.int 0]) rfl ?_
  refine lv_istore (lv' := [(7, .int 0), (6, .int 1), (0, .ref b), (1, .ref a0), (2, .ref a1), (3, .ref a2), (4, .ref a3), (5, .int 0)]) hx hb d_law_379 hl (by decide) rfl (fun ls hl => ?_)
  refine lv_aload_n hx hb d_law_381 rfl (lv_at hl 4 rfl) ?_
  refine kV (As := []) (rest := []) (wr := [(a23, .inr (17, [.int 0, .ref a27, .ref a28, .int 0, .ref a29, .ref a30, .ref a31, .null, .null, .int 0, .ref a32, .ref a33, .ref a34, .int 0, .ref a35, .int 1]))]) (c33_BModel_thrown l z a1 a23 a24 a25 a26) hx hb hml hown hts w_1688 w_1685 w_1686 w_1687 w_12 md_c48e0f ⟨Nat.le_of_ble_eq_true rfl, Nat.le_of_ble_eq_true rfl⟩ hG hZ hP hD hS hA 0 rfl rfl rfl [0] [1] rfl rfl rfl rfl rfl hl.1 rfl (Nat.le_of_ble_eq_true rfl) d_law_382 ⟨Nat.le_of_ble_eq_true rfl, Nat.le_of_ble_eq_true rfl⟩ (fun u2 H locs hP hD hS => ?_)
  have hP : va_P z.1 classes [(a23, .inr (17, [.int 0, .ref a27, .ref a28, .int 0, .ref a29, .ref a30, .ref a31, .null, .null, .int 0, .ref a32, .ref a33, .ref a34, .int 0, .ref a35, .int 1])), (a1, .inr (18, [.ref a23, .ref a24, .int 0, .ref a25, .int 0, .ref a26, .int 1, .null, .int 0, .null, .long 0, .int 0, .null]))] H := hP
  have hD : va_D A [(a23, .inr (17, [.int 0, .ref a27, .ref a28, .int 0, .ref a29, .ref a30, .ref a31, .null, .null, .int 0, .ref a32, .ref a33, .ref a34, .int 0, .ref a35, .int 1])), (a1, .inr (18, [.ref a23, .ref a24, .int 0, .ref a25, .int 0, .ref a26, .int 1, .null, .int 0, .null, .long 0, .int 0, .null]))] := hD
  refine W.eq (g2 := F0 m 385 ls [.int 1]) rfl ?_
  refine lv_iload hx hb d_law_385 (lv_at hl 1 rfl) ?_
  refine lv_icmp_eq (tgt := 392) hx hb d_law_387 (by decide) (fun _ => ?_) (fun c9 => absurd (by decide +kernel) c9)
  refine lv_iload hx hb d_law_392 (lv_at hl 1 rfl) ?_
  refine lv_if_ne (tgt := 409) hx hb d_law_394 (by decide) (fun _ => ?_) (fun c9 => absurd c9 (by decide +kernel))
  refine lv_goto (tgt := 3072) hx hb d_law_409 (by decide) ?_
  refine W.widen (k := 600002) (n := 7302232) (Nat.le_of_ble_eq_true rfl) (Nat.le_of_ble_eq_true rfl) ?_
  exact ht H locs ls hS (lv_sub hl [2, 7] rfl)
set_option maxRecDepth 100000 in
set_option maxHeartbeats 4000000 in
theorem L2_0 (l : Launch) (hl0 : l.stackTraces = false) (z : Zz) {p : Program} {e : Env} {s : State} {m : MethodId} {below : List Frame} {meth : Method} {c : Code} {A : Nat → Prop} {b : Nat} {xs : Nat → Int32} {Q : State → Prop} (hx : p.tables.exec = Jvm.exec) (hb : c.code = code) (hml : c.maxLocals = 9) (hts : ∀ w ∈ WG, w.before #[Value.ref b] s = true) (hown : s.vm.findClass "BallothallLaw" = some m.cls) (hA : ∀ q, s.heap.size ≤ q → A q) (hG : KG z s) (hZ : XZ A s) (hX : va_X b 4 xs s s.heap) (hbl : b < s.heap.size) (hbA : ¬ A b) (ht : ∀ (H : Heap) (locs : List Loc) (ls : Array Slot), va_S A s.heap H locs → lv_has ls 9 [(0, .ref b), (5, .int 0)] → W p l e room_1 s m #[Value.ref b] below meth c H locs 600002 7302232 Q (F0 m 3072 ls [])) (a0 : Nat) (a1 : Nat) (a2 : Nat) (a3 : Nat) (a4 : Nat) (a5 : Nat) (a6 : Nat) (a7 : Nat) (a8 : Nat) (a9 : Nat) (a10 : Nat) (a11 : Nat) (a12 : Nat) (a13 : Nat) (a14 : Nat) (a15 : Nat) (a16 : Nat) (a17 : Nat) (a18 : Nat) (a19 : Nat) (a20 : Nat) (a21 : Nat) (a22 : Nat) (a23 : Nat) (a24 : Nat) (a25 : Nat) (H : Heap) (locs : List Loc) (ls : Array Slot) (hP : va_P z.1 classes [(a0, .inr (11, [.ref a4, .ref a5, .ref a6, .ref a7, .ref a8, .ref a9, .ref a10, .ref a11, .ref a12, .ref a13, .int 0, .int 0, .ref a14, .int 0])), (a4, .inr (0, [.ref a15, .int 0, .int 0, .int 0, .ref a16, .ref a17, .ref a18, .ref a19, .ref a20, .ref a21])), (a15, .inl (z.2 0, 30, .inl (fun _ => 0))), (a2, .inl (z.2 1, 1, .inr (.inl (fun _ => 0)))), (a1, .inr (18, [.ref a22, .ref a23, .int 0, .ref a24, .int 0, .ref a25, .int 0, .null, .int 0, .null, .long 0, .int 0, .null])), (a24, .inl (z.2 0, 30, .inl (fun _ => 0)))] H) (hD : va_D A [(a0, .inr (11, [.ref a4, .ref a5, .ref a6, .ref a7, .ref a8, .ref a9, .ref a10, .ref a11, .ref a12, .ref a13, .int 0, .int 0, .ref a14, .int 0])), (a4, .inr (0, [.ref a15, .int 0, .int 0, .int 0, .ref a16, .ref a17, .ref a18, .ref a19, .ref a20, .ref a21])), (a15, .inl (z.2 0, 30, .inl (fun _ => 0))), (a2, .inl (z.2 1, 1, .inr (.inl (fun _ => 0)))), (a1, .inr (18, [.ref a22, .ref a23, .int 0, .ref a24, .int 0, .ref a25, .int 0, .null, .int 0, .null, .long 0, .int 0, .null])), (a24, .inl (z.2 0, 30, .inl (fun _ => 0)))]) (hS : va_S A s.heap H locs) (hl : lv_has ls 9 [(0, .ref b), (1, .ref a0), (2, .ref a1), (3, .ref a2), (4, .ref a3), (5, .int 0)]) : W p l e room_1 s m #[Value.ref b] below meth c H locs 265 8866 Q (F0 m 44 ls [.int 2]) := by
  refine lv_tableIn (tgt := 412) hx hb d_law_44 (by decide +kernel) (by decide +kernel) rfl (by decide) ?_
  refine lv_aload_n hx hb d_law_412 rfl (lv_at hl 1 rfl) ?_
  refine lv_aload_n hx hb d_law_413 rfl (lv_at hl 0 rfl) ?_
  refine lv_iload hx hb d_law_414 (lv_at hl 5 rfl) ?_
  refine lv_iconst (v := 1) hx hb d_law_416 (by decide +kernel) ?_
  refine lv_iadd hx hb d_law_417 ?_
  refine nrm (x1 := 1) (by decide +kernel) ?_
  refine va_sld hx hb hX hbl hbA hS (hin4 (i := 1) rfl) d_law_418 ?_
  refine nrm (x1 := xs 1) rfl ?_
  refine lv_i2l (v := ((xs 1)).toInt64) hx hb d_law_419 rfl ?_
  refine lv_bipush (v := 32) hx hb d_law_420 (by decide +kernel) ?_
  refine lv_lshl (v := (((xs 1)).toInt64 <<< ((32 : Int32).toInt64 &&& 63))) hx hb d_law_422 rfl ?_
  refine lv_aload_n hx hb d_law_423 rfl (lv_at hl 0 rfl) ?_
  refine lv_iload hx hb d_law_424 (lv_at hl 5 rfl) ?_
  refine lv_iconst (v := 2) hx hb d_law_426 (by decide +kernel) ?_
  refine lv_iadd hx hb d_law_427 ?_
  refine nrm (x1 := 2) (by decide +kernel) ?_
  refine va_sld hx hb hX hbl hbA hS (hin4 (i := 2) rfl) d_law_428 ?_
  refine nrm (x1 := xs 2) rfl ?_
  refine lv_i2l (v := ((xs 2)).toInt64) hx hb d_law_429 rfl ?_
  refine lv_ldc2 hx hb hown (hts _ w_2532) d_law_430 ?_
  refine lv_land hx hb d_law_433 ?_
  refine lv_lor hx hb d_law_434 ?_
  refine lv_aload_n hx hb d_law_435 rfl (lv_at hl 3 rfl) ?_
  refine kH (As := [.ref a0, .long ((((xs 1)).toInt64 <<< ((32 : Int32).toInt64 &&& 63)) ||| (((xs 2)).toInt64 &&& 4294967295)), .ref a2]) (rest := []) (wr := [(a1, .inr (18, [.ref a22, .ref a23, .int 0, .ref a24, .int 0, .ref a25, .int 0, .null, .int 0, .null, .long 0, .int 0, .null])), (a24, .inl (z.2 0, 30, .inl (fun _ => 0)))]) (c48_BLaw_type l z a0 a2 a4 a5 a6 a7 a8 a9 a10 a11 a12 a13 a14 a15 a16 a17 a18 a19 a20 a21 ((((xs 1)).toInt64 <<< ((32 : Int32).toInt64 &&& 63)) ||| (((xs 2)).toInt64 &&& 4294967295))) hx hb hml hown hts w_895 w_893 w_894 w_0 md_a743f4 ⟨Nat.le_of_ble_eq_true rfl, Nat.le_of_ble_eq_true rfl⟩ hG hZ hP hD hS hA [0, 1, 2, 3] [4, 5] rfl rfl rfl rfl rfl hl.1 rfl (Nat.le_of_ble_eq_true rfl) d_law_436 ⟨Nat.le_of_ble_eq_true rfl, Nat.le_of_ble_eq_true rfl⟩ (fun u0 H locs hP hD hS => ?_)
  have hP : va_P z.1 classes [(a1, .inr (18, [.ref a22, .ref a23, .int 0, .ref a24, .int 0, .ref a25, .int 0, .null, .int 0, .null, .long 0, .int 0, .null])), (a24, .inl (z.2 0, 30, .inl (fun _ => 0))), (a2, .inl (z.2 1, 1, .inr (.inl (vp_updL (fun _ => 0) 0 ((tyc ((((xs 1)).toInt64 <<< ((32 : Int32).toInt64 &&& 63)) ||| (((xs 2)).toInt64 &&& 4294967295)))).toInt64))))] H := hP
  have hD : va_D A [(a1, .inr (18, [.ref a22, .ref a23, .int 0, .ref a24, .int 0, .ref a25, .int 0, .null, .int 0, .null, .long 0, .int 0, .null])), (a24, .inl (z.2 0, 30, .inl (fun _ => 0))), (a2, .inl (z.2 1, 1, .inr (.inl (vp_updL (fun _ => 0) 0 ((tyc ((((xs 1)).toInt64 <<< ((32 : Int32).toInt64 &&& 63)) ||| (((xs 2)).toInt64 &&& 4294967295)))).toInt64))))] := hD
  refine W.eq (g2 := F0 m 439 ls [.int 0]) rfl ?_
  refine lv_istore (lv' := [(6, .int 0), (0, .ref b), (1, .ref a0), (2, .ref a1), (3, .ref a2), (4, .ref a3), (5, .int 0)]) hx hb d_law_439 hl (by decide) rfl (fun ls hl => ?_)
  refine lv_aload_n hx hb d_law_441 rfl (lv_at hl 3 rfl) ?_
  refine lv_aload_n hx hb d_law_442 rfl (lv_at hl 1 rfl) ?_
  refine lv_iload hx hb d_law_443 (lv_at hl 6 rfl) ?_
  refine lv_iconst (v := 1) hx hb d_law_445 (by decide +kernel) ?_
  refine lv_iadd hx hb d_law_446 ?_
  refine nrm (x1 := 1) (by decide +kernel) ?_
  refine va_sld hx hb hX hbl hbA hS (hin4 (i := 1) rfl) d_law_447 ?_
  refine nrm (x1 := xs 1) rfl ?_
  refine lv_i2l (v := ((xs 1)).toInt64) hx hb d_law_448 rfl ?_
  refine lv_bipush (v := 32) hx hb d_law_449 (by decide +kernel) ?_
  refine lv_lshl (v := (((xs 1)).toInt64 <<< ((32 : Int32).toInt64 &&& 63))) hx hb d_law_451 rfl ?_
  refine lv_aload_n hx hb d_law_452 rfl (lv_at hl 1 rfl) ?_
  refine lv_iload hx hb d_law_453 (lv_at hl 6 rfl) ?_
  refine lv_iconst (v := 2) hx hb d_law_455 (by decide +kernel) ?_
  refine lv_iadd hx hb d_law_456 ?_
  refine nrm (x1 := 2) (by decide +kernel) ?_
  refine va_sld hx hb hX hbl hbA hS (hin4 (i := 2) rfl) d_law_457 ?_
  refine nrm (x1 := xs 2) rfl ?_
  refine lv_i2l (v := ((xs 2)).toInt64) hx hb d_law_458 rfl ?_
  refine lv_ldc2 hx hb hown (hts _ w_2532) d_law_459 ?_
  refine lv_land hx hb d_law_462 ?_
  refine lv_lor hx hb d_law_463 ?_
  refine kV (As := [.long ((((xs 1)).toInt64 <<< ((32 : Int32).toInt64 &&& 63)) ||| (((xs 2)).toInt64 &&& 4294967295))]) (rest := []) (wr := [(a2, .inl (z.2 1, 1, .inr (.inl (vp_updL (fun _ => 0) 0 ((tyc ((((xs 1)).toInt64 <<< ((32 : Int32).toInt64 &&& 63)) ||| (((xs 2)).toInt64 &&& 4294967295)))).toInt64))))]) (c_mty l z a1 a22 a23 a24 a25 ((((xs 1)).toInt64 <<< ((32 : Int32).toInt64 &&& 63)) ||| (((xs 2)).toInt64 &&& 4294967295))) hx hb hml hown hts w_1726 w_1723 w_1724 w_1725 w_12 md_267d2e ⟨Nat.le_of_ble_eq_true rfl, Nat.le_of_ble_eq_true rfl⟩ hG hZ hP hD hS hA 0 rfl rfl rfl [0, 1] [2] rfl rfl rfl rfl rfl hl.1 rfl (Nat.le_of_ble_eq_true rfl) d_law_464 ⟨Nat.le_of_ble_eq_true rfl, Nat.le_of_ble_eq_true rfl⟩ (fun u1 H locs hP hD hS => ?_)
  have hP : va_P z.1 classes [(a2, .inl (z.2 1, 1, .inr (.inl (vp_updL (fun _ => 0) 0 ((tyc ((((xs 1)).toInt64 <<< ((32 : Int32).toInt64 &&& 63)) ||| (((xs 2)).toInt64 &&& 4294967295)))).toInt64)))), (a1, .inr (18, [.ref a22, .ref a23, .int 0, .ref a24, .int (tyc ((((xs 1)).toInt64 <<< ((32 : Int32).toInt64 &&& 63)) ||| (((xs 2)).toInt64 &&& 4294967295))), .ref a25, .int 0, .null, .int 0, .null, .long 0, .int 0, .null]))] H := hP
  have hD : va_D A [(a2, .inl (z.2 1, 1, .inr (.inl (vp_updL (fun _ => 0) 0 ((tyc ((((xs 1)).toInt64 <<< ((32 : Int32).toInt64 &&& 63)) ||| (((xs 2)).toInt64 &&& 4294967295)))).toInt64)))), (a1, .inr (18, [.ref a22, .ref a23, .int 0, .ref a24, .int (tyc ((((xs 1)).toInt64 <<< ((32 : Int32).toInt64 &&& 63)) ||| (((xs 2)).toInt64 &&& 4294967295))), .ref a25, .int 0, .null, .int 0, .null, .long 0, .int 0, .null]))] := hD
  refine W.eq (g2 := F0 m 467 ls [.int (tyc ((((xs 1)).toInt64 <<< ((32 : Int32).toInt64 &&& 63)) ||| (((xs 2)).toInt64 &&& 4294967295)))]) rfl ?_
  refine lv_istore (lv' := [(7, .int (tyc ((((xs 1)).toInt64 <<< ((32 : Int32).toInt64 &&& 63)) ||| (((xs 2)).toInt64 &&& 4294967295)))), (6, .int 0), (0, .ref b), (1, .ref a0), (2, .ref a1), (3, .ref a2), (4, .ref a3), (5, .int 0)]) hx hb d_law_467 hl (by decide) rfl (fun ls hl => ?_)
  refine lv_aload_n hx hb d_law_469 rfl (lv_at hl 4 rfl) ?_
  refine kV (As := []) (rest := []) (wr := [(a2, .inl (z.2 1, 1, .inr (.inl (vp_updL (fun _ => 0) 0 ((tyc ((((xs 1)).toInt64 <<< ((32 : Int32).toInt64 &&& 63)) ||| (((xs 2)).toInt64 &&& 4294967295)))).toInt64))))]) (c49_BModel_thrown l z a1 a22 a23 a24 a25 (xs 1) (xs 2)) hx hb hml hown hts w_1688 w_1685 w_1686 w_1687 w_12 md_c48e0f ⟨Nat.le_of_ble_eq_true rfl, Nat.le_of_ble_eq_true rfl⟩ hG hZ hP hD hS hA 1 rfl rfl rfl [1] [0] rfl rfl rfl rfl rfl hl.1 rfl (Nat.le_of_ble_eq_true rfl) d_law_470 ⟨Nat.le_of_ble_eq_true rfl, Nat.le_of_ble_eq_true rfl⟩ (fun u2 H locs hP hD hS => ?_)
  have hP : va_P z.1 classes [(a2, .inl (z.2 1, 1, .inr (.inl (vp_updL (fun _ => 0) 0 ((tyc ((((xs 1)).toInt64 <<< ((32 : Int32).toInt64 &&& 63)) ||| (((xs 2)).toInt64 &&& 4294967295)))).toInt64)))), (a1, .inr (18, [.ref a22, .ref a23, .int 0, .ref a24, .int (tyc ((((xs 1)).toInt64 <<< ((32 : Int32).toInt64 &&& 63)) ||| (((xs 2)).toInt64 &&& 4294967295))), .ref a25, .int 0, .null, .int 0, .null, .long 0, .int 0, .null]))] H := hP
  have hD : va_D A [(a2, .inl (z.2 1, 1, .inr (.inl (vp_updL (fun _ => 0) 0 ((tyc ((((xs 1)).toInt64 <<< ((32 : Int32).toInt64 &&& 63)) ||| (((xs 2)).toInt64 &&& 4294967295)))).toInt64)))), (a1, .inr (18, [.ref a22, .ref a23, .int 0, .ref a24, .int (tyc ((((xs 1)).toInt64 <<< ((32 : Int32).toInt64 &&& 63)) ||| (((xs 2)).toInt64 &&& 4294967295))), .ref a25, .int 0, .null, .int 0, .null, .long 0, .int 0, .null]))] := hD
  refine W.eq (g2 := F0 m 473 ls [.int 0]) rfl ?_
  refine lv_iload hx hb d_law_473 (lv_at hl 1 rfl) ?_
  refine lv_icmp_eq (tgt := 480) hx hb d_law_475 (by decide) (fun _ => ?_) (fun c9 => absurd (by decide +kernel) c9)
  refine lv_iload hx hb d_law_480 (lv_at hl 1 rfl) ?_
  refine lv_if_ne (tgt := 497) hx hb d_law_482 (by decide) (fun c9 => absurd (by decide +kernel) c9) (fun _ => ?_)
  refine lv_aload_n hx hb d_law_485 rfl (lv_at hl 5 rfl) ?_
  refine lv_iconst (v := 0) hx hb d_law_486 (by decide +kernel) ?_
  refine va_lald hx hb hG.1 hP 0 1 rfl rfl (vin rfl) d_law_487 ?_
  refine nrmL (x1 := ((tyc ((((xs 1)).toInt64 <<< ((32 : Int32).toInt64 &&& 63)) ||| (((xs 2)).toInt64 &&& 4294967295)))).toInt64) rfl ?_
  refine lv_iload hx hb d_law_488 (lv_at hl 0 rfl) ?_
  refine lv_i2l (v := ((tyc ((((xs 1)).toInt64 <<< ((32 : Int32).toInt64 &&& 63)) ||| (((xs 2)).toInt64 &&& 4294967295)))).toInt64) hx hb d_law_490 rfl ?_
  refine W.lcmp hx hb d_law_491 ?_
  refine nrm (x1 := 0) (lcmp_same _) ?_
  refine lv_if_eq (tgt := 497) hx hb d_law_492 (by decide) (fun _ => ?_) (fun c9 => absurd (by decide +kernel) c9)
  refine lv_goto (tgt := 3072) hx hb d_law_497 (by decide) ?_
  refine W.widen (k := 600002) (n := 7302232) (Nat.le_of_ble_eq_true rfl) (Nat.le_of_ble_eq_true rfl) ?_
  exact ht H locs ls hS (lv_sub hl [2, 7] rfl)
set_option maxRecDepth 100000 in
set_option maxHeartbeats 4000000 in
theorem L3_0 (l : Launch) (hl0 : l.stackTraces = false) (z : Zz) {p : Program} {e : Env} {s : State} {m : MethodId} {below : List Frame} {meth : Method} {c : Code} {A : Nat → Prop} {b : Nat} {xs : Nat → Int32} {Q : State → Prop} (hx : p.tables.exec = Jvm.exec) (hb : c.code = code) (hml : c.maxLocals = 9) (hts : ∀ w ∈ WG, w.before #[Value.ref b] s = true) (hown : s.vm.findClass "BallothallLaw" = some m.cls) (hA : ∀ q, s.heap.size ≤ q → A q) (hG : KG z s) (hZ : XZ A s) (hX : va_X b 4 xs s s.heap) (hbl : b < s.heap.size) (hbA : ¬ A b) (ht : ∀ (H : Heap) (locs : List Loc) (ls : Array Slot), va_S A s.heap H locs → lv_has ls 9 [(0, .ref b), (5, .int 0)] → W p l e room_1 s m #[Value.ref b] below meth c H locs 600002 7302232 Q (F0 m 3072 ls [])) (a0 : Nat) (a1 : Nat) (a2 : Nat) (a3 : Nat) (a4 : Nat) (a5 : Nat) (a6 : Nat) (a7 : Nat) (a8 : Nat) (a9 : Nat) (a10 : Nat) (a11 : Nat) (a12 : Nat) (a13 : Nat) (a14 : Nat) (a15 : Nat) (a16 : Nat) (a17 : Nat) (a18 : Nat) (h0 : (xs 1) < 1) (H : Heap) (locs : List Loc) (ls : Array Slot) (hP : va_P z.1 classes [(a0, .inr (11, [.ref a4, .ref a5, .ref a6, .ref a7, .ref a8, .ref a9, .ref a10, .ref a11, .ref a12, .ref a13, .int 0, .int 0, .ref a14, .int 0])), (a1, .inr (18, [.ref a15, .ref a16, .int 0, .ref a17, .int 0, .ref a18, .int 0, .null, .int 0, .null, .long 0, .int 0, .null]))] H) (hD : va_D A [(a0, .inr (11, [.ref a4, .ref a5, .ref a6, .ref a7, .ref a8, .ref a9, .ref a10, .ref a11, .ref a12, .ref a13, .int 0, .int 0, .ref a14, .int 0])), (a1, .inr (18, [.ref a15, .ref a16, .int 0, .ref a17, .int 0, .ref a18, .int 0, .null, .int 0, .null, .long 0, .int 0, .null]))]) (hS : va_S A s.heap H locs) (hl : lv_has ls 9 [(0, .ref b), (1, .ref a0), (2, .ref a1), (3, .ref a2), (4, .ref a3), (5, .int 0)]) : W p l e room_1 s m #[Value.ref b] below meth c H locs 265 8866 Q (F0 m 44 ls [.int 3]) := by
  refine lv_tableIn (tgt := 500) hx hb d_law_44 (by decide +kernel) (by decide +kernel) rfl (by decide) ?_
  refine lv_aload_n hx hb d_law_500 rfl (lv_at hl 1 rfl) ?_
  refine lv_aload_n hx hb d_law_501 rfl (lv_at hl 0 rfl) ?_
  refine lv_iload hx hb d_law_502 (lv_at hl 5 rfl) ?_
  refine lv_iconst (v := 1) hx hb d_law_504 (by decide +kernel) ?_
  refine lv_iadd hx hb d_law_505 ?_
  refine nrm (x1 := 1) (by decide +kernel) ?_
  refine va_sld hx hb hX hbl hbA hS (hin4 (i := 1) rfl) d_law_506 ?_
  refine nrm (x1 := xs 1) rfl ?_
  refine lv_aload_n hx hb d_law_507 rfl (lv_at hl 3 rfl) ?_
  refine kH (As := [.ref a0, .int (xs 1), .ref a2]) (rest := []) (wr := [(a1, .inr (18, [.ref a15, .ref a16, .int 0, .ref a17, .int 0, .ref a18, .int 0, .null, .int 0, .null, .long 0, .int 0, .null]))]) (c52_BLaw_ballots l z hl0 a0 a2 a4 a5 a6 a7 a8 a9 a10 a11 a12 a13 a14 (xs 1) h0) hx hb hml hown hts w_907 w_905 w_906 w_0 md_d3d456 ⟨Nat.le_of_ble_eq_true rfl, Nat.le_of_ble_eq_true rfl⟩ hG hZ hP hD hS hA [0] [1] rfl rfl rfl rfl rfl hl.1 rfl (Nat.le_of_ble_eq_true rfl) d_law_508 ⟨Nat.le_of_ble_eq_true rfl, Nat.le_of_ble_eq_true rfl⟩ (fun u0 H locs hP hD hS => ?_)
  have hP : va_P z.1 classes [(a1, .inr (18, [.ref a15, .ref a16, .int 0, .ref a17, .int 0, .ref a18, .int 0, .null, .int 0, .null, .long 0, .int 0, .null])), (a0, .inr (11, [.ref a4, .ref a5, .ref a6, .ref a7, .ref a8, .ref a9, .ref a10, .ref a11, .ref a12, .ref a13, .int 0, .int 0, .ref a14, .int 0]))] H := hP
  have hD : va_D A [(a1, .inr (18, [.ref a15, .ref a16, .int 0, .ref a17, .int 0, .ref a18, .int 0, .null, .int 0, .null, .long 0, .int 0, .null])), (a0, .inr (11, [.ref a4, .ref a5, .ref a6, .ref a7, .ref a8, .ref a9, .ref a10, .ref a11, .ref a12, .ref a13, .int 0, .int 0, .ref a14, .int 0]))] := hD
  refine W.eq (g2 := F0 m 511 ls [.int 1]) rfl ?_
  refine lv_istore (lv' := [(6, .int 1), (0, .ref b), (1, .ref a0), (2, .ref a1), (3, .ref a2), (4, .ref a3), (5, .int 0)]) hx hb d_law_511 hl (by decide) rfl (fun ls hl => ?_)
  refine lv_aload_n hx hb d_law_513 rfl (lv_at hl 3 rfl) ?_
  refine lv_aload_n hx hb d_law_514 rfl (lv_at hl 1 rfl) ?_
  refine lv_iload hx hb d_law_515 (lv_at hl 6 rfl) ?_
  refine lv_iconst (v := 1) hx hb d_law_517 (by decide +kernel) ?_
  refine lv_iadd hx hb d_law_518 ?_
  refine nrm (x1 := 1) (by decide +kernel) ?_
  refine va_sld hx hb hX hbl hbA hS (hin4 (i := 1) rfl) d_law_519 ?_
  refine nrm (x1 := xs 1) rfl ?_
  refine kV (As := [.int (xs 1)]) (rest := []) (wr := [(a0, .inr (11, [.ref a4, .ref a5, .ref a6, .ref a7, .ref a8, .ref a9, .ref a10, .ref a11, .ref a12, .ref a13, .int 0, .int 0, .ref a14, .int 0]))]) (c54_BModel_ballots l z a1 a15 a16 a17 a18 (xs 1) h0) hx hb hml hown hts w_1731 w_1728 w_1729 w_1730 w_12 md_574ee6 ⟨Nat.le_of_ble_eq_true rfl, Nat.le_of_ble_eq_true rfl⟩ hG hZ hP hD hS hA 0 rfl rfl rfl [0] [1] rfl rfl rfl rfl rfl hl.1 rfl (Nat.le_of_ble_eq_true rfl) d_law_520 ⟨Nat.le_of_ble_eq_true rfl, Nat.le_of_ble_eq_true rfl⟩ (fun u1 H locs hP hD hS => ?_)
  have hP : va_P z.1 classes [(a0, .inr (11, [.ref a4, .ref a5, .ref a6, .ref a7, .ref a8, .ref a9, .ref a10, .ref a11, .ref a12, .ref a13, .int 0, .int 0, .ref a14, .int 0])), (a1, .inr (18, [.ref a15, .ref a16, .int 0, .ref a17, .int 0, .ref a18, .int 1, .null, .int 0, .null, .long 0, .int 0, .null]))] H := hP
  have hD : va_D A [(a0, .inr (11, [.ref a4, .ref a5, .ref a6, .ref a7, .ref a8, .ref a9, .ref a10, .ref a11, .ref a12, .ref a13, .int 0, .int 0, .ref a14, .int 0])), (a1, .inr (18, [.ref a15, .ref a16, .int 0, .ref a17, .int 0, .ref a18, .int 1, .null, .int 0, .null, .long 0, .int 0, .null]))] := hD
  refine W.eq (g2 := F0 m 523 ls [.int 0]) rfl ?_
  refine lv_istore (lv' := [(7, .int 0), (6, .int 1), (0, .ref b), (1, .ref a0), (2, .ref a1), (3, .ref a2), (4, .ref a3), (5, .int 0)]) hx hb d_law_523 hl (by decide) rfl (fun ls hl => ?_)
  refine lv_aload_n hx hb d_law_525 rfl (lv_at hl 4 rfl) ?_
  refine kV (As := []) (rest := []) (wr := [(a0, .inr (11, [.ref a4, .ref a5, .ref a6, .ref a7, .ref a8, .ref a9, .ref a10, .ref a11, .ref a12, .ref a13, .int 0, .int 0, .ref a14, .int 0]))]) (c33_BModel_thrown l z a1 a15 a16 a17 a18) hx hb hml hown hts w_1688 w_1685 w_1686 w_1687 w_12 md_c48e0f ⟨Nat.le_of_ble_eq_true rfl, Nat.le_of_ble_eq_true rfl⟩ hG hZ hP hD hS hA 1 rfl rfl rfl [1] [0] rfl rfl rfl rfl rfl hl.1 rfl (Nat.le_of_ble_eq_true rfl) d_law_526 ⟨Nat.le_of_ble_eq_true rfl, Nat.le_of_ble_eq_true rfl⟩ (fun u2 H locs hP hD hS => ?_)
  have hP : va_P z.1 classes [(a0, .inr (11, [.ref a4, .ref a5, .ref a6, .ref a7, .ref a8, .ref a9, .ref a10, .ref a11, .ref a12, .ref a13, .int 0, .int 0, .ref a14, .int 0])), (a1, .inr (18, [.ref a15, .ref a16, .int 0, .ref a17, .int 0, .ref a18, .int 1, .null, .int 0, .null, .long 0, .int 0, .null]))] H := hP
  have hD : va_D A [(a0, .inr (11, [.ref a4, .ref a5, .ref a6, .ref a7, .ref a8, .ref a9, .ref a10, .ref a11, .ref a12, .ref a13, .int 0, .int 0, .ref a14, .int 0])), (a1, .inr (18, [.ref a15, .ref a16, .int 0, .ref a17, .int 0, .ref a18, .int 1, .null, .int 0, .null, .long 0, .int 0, .null]))] := hD
  refine W.eq (g2 := F0 m 529 ls [.int 1]) rfl ?_
  refine lv_iload hx hb d_law_529 (lv_at hl 1 rfl) ?_
  refine lv_icmp_eq (tgt := 536) hx hb d_law_531 (by decide) (fun _ => ?_) (fun c9 => absurd (by decide +kernel) c9)
  refine lv_iload hx hb d_law_536 (lv_at hl 1 rfl) ?_
  refine lv_if_ne (tgt := 553) hx hb d_law_538 (by decide) (fun _ => ?_) (fun c9 => absurd c9 (by decide +kernel))
  refine lv_goto (tgt := 3072) hx hb d_law_553 (by decide) ?_
  refine W.widen (k := 600002) (n := 7302232) (Nat.le_of_ble_eq_true rfl) (Nat.le_of_ble_eq_true rfl) ?_
  exact ht H locs ls hS (lv_sub hl [2, 7] rfl)
set_option maxRecDepth 100000 in
set_option maxHeartbeats 4000000 in
theorem L3_1 (l : Launch) (hl0 : l.stackTraces = false) (z : Zz) {p : Program} {e : Env} {s : State} {m : MethodId} {below : List Frame} {meth : Method} {c : Code} {A : Nat → Prop} {b : Nat} {xs : Nat → Int32} {Q : State → Prop} (hx : p.tables.exec = Jvm.exec) (hb : c.code = code) (hml : c.maxLocals = 9) (hts : ∀ w ∈ WG, w.before #[Value.ref b] s = true) (hown : s.vm.findClass "BallothallLaw" = some m.cls) (hA : ∀ q, s.heap.size ≤ q → A q) (hG : KG z s) (hZ : XZ A s) (hX : va_X b 4 xs s s.heap) (hbl : b < s.heap.size) (hbA : ¬ A b) (ht : ∀ (H : Heap) (locs : List Loc) (ls : Array Slot), va_S A s.heap H locs → lv_has ls 9 [(0, .ref b), (5, .int 0)] → W p l e room_1 s m #[Value.ref b] below meth c H locs 600002 7302232 Q (F0 m 3072 ls [])) (a0 : Nat) (a1 : Nat) (a2 : Nat) (a3 : Nat) (a4 : Nat) (a5 : Nat) (a6 : Nat) (a7 : Nat) (a8 : Nat) (a9 : Nat) (a10 : Nat) (a11 : Nat) (a12 : Nat) (a13 : Nat) (a14 : Nat) (a15 : Nat) (a16 : Nat) (a17 : Nat) (a18 : Nat) (h0 : ¬ (xs 1) < 1) (h1 : 100000 < (xs 1)) (H : Heap) (locs : List Loc) (ls : Array Slot) (hP : va_P z.1 classes [(a0, .inr (11, [.ref a4, .ref a5, .ref a6, .ref a7, .ref a8, .ref a9, .ref a10, .ref a11, .ref a12, .ref a13, .int 0, .int 0, .ref a14, .int 0])), (a1, .inr (18, [.ref a15, .ref a16, .int 0, .ref a17, .int 0, .ref a18, .int 0, .null, .int 0, .null, .long 0, .int 0, .null]))] H) (hD : va_D A [(a0, .inr (11, [.ref a4, .ref a5, .ref a6, .ref a7, .ref a8, .ref a9, .ref a10, .ref a11, .ref a12, .ref a13, .int 0, .int 0, .ref a14, .int 0])), (a1, .inr (18, [.ref a15, .ref a16, .int 0, .ref a17, .int 0, .ref a18, .int 0, .null, .int 0, .null, .long 0, .int 0, .null]))]) (hS : va_S A s.heap H locs) (hl : lv_has ls 9 [(0, .ref b), (1, .ref a0), (2, .ref a1), (3, .ref a2), (4, .ref a3), (5, .int 0)]) : W p l e room_1 s m #[Value.ref b] below meth c H locs 265 8866 Q (F0 m 44 ls [.int 3]) := by
  refine lv_tableIn (tgt := 500) hx hb d_law_44 (by decide +kernel) (by decide +kernel) rfl (by decide) ?_
  refine lv_aload_n hx hb d_law_500 rfl (lv_at hl 1 rfl) ?_
  refine lv_aload_n hx hb d_law_501 rfl (lv_at hl 0 rfl) ?_
  refine lv_iload hx hb d_law_502 (lv_at hl 5 rfl) ?_
  refine lv_iconst (v := 1) hx hb d_law_504 (by decide +kernel) ?_
  refine lv_iadd hx hb d_law_505 ?_
  refine nrm (x1 := 1) (by decide +kernel) ?_
  refine va_sld hx hb hX hbl hbA hS (hin4 (i := 1) rfl) d_law_506 ?_
  refine nrm (x1 := xs 1) rfl ?_
  refine lv_aload_n hx hb d_law_507 rfl (lv_at hl 3 rfl) ?_
  refine kH (As := [.ref a0, .int (xs 1), .ref a2]) (rest := []) (wr := [(a1, .inr (18, [.ref a15, .ref a16, .int 0, .ref a17, .int 0, .ref a18, .int 0, .null, .int 0, .null, .long 0, .int 0, .null]))]) (c57_BLaw_ballots l z hl0 a0 a2 a4 a5 a6 a7 a8 a9 a10 a11 a12 a13 a14 (xs 1) h0 h1) hx hb hml hown hts w_907 w_905 w_906 w_0 md_d3d456 ⟨Nat.le_of_ble_eq_true rfl, Nat.le_of_ble_eq_true rfl⟩ hG hZ hP hD hS hA [0] [1] rfl rfl rfl rfl rfl hl.1 rfl (Nat.le_of_ble_eq_true rfl) d_law_508 ⟨Nat.le_of_ble_eq_true rfl, Nat.le_of_ble_eq_true rfl⟩ (fun u0 H locs hP hD hS => ?_)
  have hP : va_P z.1 classes [(a1, .inr (18, [.ref a15, .ref a16, .int 0, .ref a17, .int 0, .ref a18, .int 0, .null, .int 0, .null, .long 0, .int 0, .null])), (a0, .inr (11, [.ref a4, .ref a5, .ref a6, .ref a7, .ref a8, .ref a9, .ref a10, .ref a11, .ref a12, .ref a13, .int 0, .int 0, .ref a14, .int 0]))] H := hP
  have hD : va_D A [(a1, .inr (18, [.ref a15, .ref a16, .int 0, .ref a17, .int 0, .ref a18, .int 0, .null, .int 0, .null, .long 0, .int 0, .null])), (a0, .inr (11, [.ref a4, .ref a5, .ref a6, .ref a7, .ref a8, .ref a9, .ref a10, .ref a11, .ref a12, .ref a13, .int 0, .int 0, .ref a14, .int 0]))] := hD
  refine W.eq (g2 := F0 m 511 ls [.int 1]) rfl ?_
  refine lv_istore (lv' := [(6, .int 1), (0, .ref b), (1, .ref a0), (2, .ref a1), (3, .ref a2), (4, .ref a3), (5, .int 0)]) hx hb d_law_511 hl (by decide) rfl (fun ls hl => ?_)
  refine lv_aload_n hx hb d_law_513 rfl (lv_at hl 3 rfl) ?_
  refine lv_aload_n hx hb d_law_514 rfl (lv_at hl 1 rfl) ?_
  refine lv_iload hx hb d_law_515 (lv_at hl 6 rfl) ?_
  refine lv_iconst (v := 1) hx hb d_law_517 (by decide +kernel) ?_
  refine lv_iadd hx hb d_law_518 ?_
  refine nrm (x1 := 1) (by decide +kernel) ?_
  refine va_sld hx hb hX hbl hbA hS (hin4 (i := 1) rfl) d_law_519 ?_
  refine nrm (x1 := xs 1) rfl ?_
  refine kV (As := [.int (xs 1)]) (rest := []) (wr := [(a0, .inr (11, [.ref a4, .ref a5, .ref a6, .ref a7, .ref a8, .ref a9, .ref a10, .ref a11, .ref a12, .ref a13, .int 0, .int 0, .ref a14, .int 0]))]) (c59_BModel_ballots l z a1 a15 a16 a17 a18 (xs 1) h0 h1) hx hb hml hown hts w_1731 w_1728 w_1729 w_1730 w_12 md_574ee6 ⟨Nat.le_of_ble_eq_true rfl, Nat.le_of_ble_eq_true rfl⟩ hG hZ hP hD hS hA 0 rfl rfl rfl [0] [1] rfl rfl rfl rfl rfl hl.1 rfl (Nat.le_of_ble_eq_true rfl) d_law_520 ⟨Nat.le_of_ble_eq_true rfl, Nat.le_of_ble_eq_true rfl⟩ (fun u1 H locs hP hD hS => ?_)
  have hP : va_P z.1 classes [(a0, .inr (11, [.ref a4, .ref a5, .ref a6, .ref a7, .ref a8, .ref a9, .ref a10, .ref a11, .ref a12, .ref a13, .int 0, .int 0, .ref a14, .int 0])), (a1, .inr (18, [.ref a15, .ref a16, .int 0, .ref a17, .int 0, .ref a18, .int 1, .null, .int 0, .null, .long 0, .int 0, .null]))] H := hP
  have hD : va_D A [(a0, .inr (11, [.ref a4, .ref a5, .ref a6, .ref a7, .ref a8, .ref a9, .ref a10, .ref a11, .ref a12, .ref a13, .int 0, .int 0, .ref a14, .int 0])), (a1, .inr (18, [.ref a15, .ref a16, .int 0, .ref a17, .int 0, .ref a18, .int 1, .null, .int 0, .null, .long 0, .int 0, .null]))] := hD
  refine W.eq (g2 := F0 m 523 ls [.int 0]) rfl ?_
  refine lv_istore (lv' := [(7, .int 0), (6, .int 1), (0, .ref b), (1, .ref a0), (2, .ref a1), (3, .ref a2), (4, .ref a3), (5, .int 0)]) hx hb d_law_523 hl (by decide) rfl (fun ls hl => ?_)
  refine lv_aload_n hx hb d_law_525 rfl (lv_at hl 4 rfl) ?_
  refine kV (As := []) (rest := []) (wr := [(a0, .inr (11, [.ref a4, .ref a5, .ref a6, .ref a7, .ref a8, .ref a9, .ref a10, .ref a11, .ref a12, .ref a13, .int 0, .int 0, .ref a14, .int 0]))]) (c33_BModel_thrown l z a1 a15 a16 a17 a18) hx hb hml hown hts w_1688 w_1685 w_1686 w_1687 w_12 md_c48e0f ⟨Nat.le_of_ble_eq_true rfl, Nat.le_of_ble_eq_true rfl⟩ hG hZ hP hD hS hA 1 rfl rfl rfl [1] [0] rfl rfl rfl rfl rfl hl.1 rfl (Nat.le_of_ble_eq_true rfl) d_law_526 ⟨Nat.le_of_ble_eq_true rfl, Nat.le_of_ble_eq_true rfl⟩ (fun u2 H locs hP hD hS => ?_)
  have hP : va_P z.1 classes [(a0, .inr (11, [.ref a4, .ref a5, .ref a6, .ref a7, .ref a8, .ref a9, .ref a10, .ref a11, .ref a12, .ref a13, .int 0, .int 0, .ref a14, .int 0])), (a1, .inr (18, [.ref a15, .ref a16, .int 0, .ref a17, .int 0, .ref a18, .int 1, .null, .int 0, .null, .long 0, .int 0, .null]))] H := hP
  have hD : va_D A [(a0, .inr (11, [.ref a4, .ref a5, .ref a6, .ref a7, .ref a8, .ref a9, .ref a10, .ref a11, .ref a12, .ref a13, .int 0, .int 0, .ref a14, .int 0])), (a1, .inr (18, [.ref a15, .ref a16, .int 0, .ref a17, .int 0, .ref a18, .int 1, .null, .int 0, .null, .long 0, .int 0, .null]))] := hD
  refine W.eq (g2 := F0 m 529 ls [.int 1]) rfl ?_
  refine lv_iload hx hb d_law_529 (lv_at hl 1 rfl) ?_
  refine lv_icmp_eq (tgt := 536) hx hb d_law_531 (by decide) (fun _ => ?_) (fun c9 => absurd (by decide +kernel) c9)
  refine lv_iload hx hb d_law_536 (lv_at hl 1 rfl) ?_
  refine lv_if_ne (tgt := 553) hx hb d_law_538 (by decide) (fun _ => ?_) (fun c9 => absurd c9 (by decide +kernel))
  refine lv_goto (tgt := 3072) hx hb d_law_553 (by decide) ?_
  refine W.widen (k := 600002) (n := 7302232) (Nat.le_of_ble_eq_true rfl) (Nat.le_of_ble_eq_true rfl) ?_
  exact ht H locs ls hS (lv_sub hl [2, 7] rfl)
set_option maxRecDepth 100000 in
set_option maxHeartbeats 4000000 in
theorem L3_2 (l : Launch) (hl0 : l.stackTraces = false) (z : Zz) {p : Program} {e : Env} {s : State} {m : MethodId} {below : List Frame} {meth : Method} {c : Code} {A : Nat → Prop} {b : Nat} {xs : Nat → Int32} {Q : State → Prop} (hx : p.tables.exec = Jvm.exec) (hb : c.code = code) (hml : c.maxLocals = 9) (hts : ∀ w ∈ WG, w.before #[Value.ref b] s = true) (hown : s.vm.findClass "BallothallLaw" = some m.cls) (hA : ∀ q, s.heap.size ≤ q → A q) (hG : KG z s) (hZ : XZ A s) (hX : va_X b 4 xs s s.heap) (hbl : b < s.heap.size) (hbA : ¬ A b) (ht : ∀ (H : Heap) (locs : List Loc) (ls : Array Slot), va_S A s.heap H locs → lv_has ls 9 [(0, .ref b), (5, .int 0)] → W p l e room_1 s m #[Value.ref b] below meth c H locs 600002 7302232 Q (F0 m 3072 ls [])) (a0 : Nat) (a1 : Nat) (a2 : Nat) (a3 : Nat) (a4 : Nat) (a5 : Nat) (a6 : Nat) (a7 : Nat) (a8 : Nat) (a9 : Nat) (a10 : Nat) (a11 : Nat) (a12 : Nat) (a13 : Nat) (a14 : Nat) (a15 : Nat) (a16 : Nat) (a17 : Nat) (a18 : Nat) (a19 : Nat) (a20 : Nat) (a21 : Nat) (a22 : Nat) (a23 : Nat) (a24 : Nat) (a25 : Nat) (a26 : Nat) (a27 : Nat) (a28 : Nat) (a29 : Nat) (a30 : Nat) (a31 : Nat) (a32 : Nat) (a33 : Nat) (a34 : Nat) (a35 : Nat) (a36 : Nat) (g0 : Nat → Option Nat) (h0 : ¬ (xs 1) < 1) (h1 : ¬ 100000 < (xs 1)) (h2 : ¬ 1000000 < (xs 1)) (H : Heap) (locs : List Loc) (ls : Array Slot) (hP : va_P z.1 classes [(a0, .inr (11, [.ref a4, .ref a5, .ref a6, .ref a7, .ref a8, .ref a9, .ref a10, .ref a11, .ref a12, .ref a13, .int 0, .int 0, .ref a14, .int 0])), (a4, .inr (0, [.ref a15, .int 0, .int 0, .int 0, .ref a16, .ref a17, .ref a18, .ref a19, .ref a20, .ref a21])), (a19, .inl (z.2 0, 31, .inl (fun _ => 0))), (a18, .inl (z.2 0, 31, .inl (fun _ => 0))), (a20, .inl (z.2 8, 31, .inr (.inr (.inr (.inr (va_up (va_up g0 0 (some a22)) 30 (some a23))))))), (a23, .inl (z.2 0, 8, .inl (fun _ => 0))), (a17, .inl (z.2 0, 31, .inl (fun _ => 0))), (a22, .inl (z.2 0, 8, .inl (fun _ => 0))), (a11, .inl (z.2 0, 20, .inl (fun _ => 0))), (a12, .inl (z.2 0, 20, .inl (fun _ => 0))), (a13, .inl (z.2 0, 20, .inl (fun _ => 0))), (a2, .inl (z.2 1, 1, .inr (.inl (fun _ => 0)))), (a1, .inr (18, [.ref a24, .ref a25, .int 0, .ref a26, .int 0, .ref a27, .int 0, .null, .int 0, .null, .long 0, .int 0, .null])), (a24, .inr (17, [.int 0, .ref a28, .ref a29, .int 0, .ref a30, .ref a31, .ref a32, .null, .null, .int 0, .ref a33, .ref a34, .ref a35, .int 0, .ref a36, .int 1])), (a29, .inl (z.2 7, 0, .inr (.inr (.inr (.inr (fun _ => none)))))), (a28, .inl (z.2 0, 8, .inl (fun _ => 0))), (a30, .inl (z.2 0, 8, .inl (fun _ => 0))), (a31, .inl (z.2 0, 8, .inl (fun _ => 0))), (a32, .inl (z.2 0, 8, .inl (fun _ => 0))), (a33, .inl (z.2 0, 16, .inl (fun _ => 0))), (a34, .inl (z.2 0, 16, .inl (fun _ => 0))), (a35, .inl (z.2 0, 16, .inl (fun _ => 0))), (a36, .inl (z.2 0, 12, .inl (fun _ => 0))), (a25, .inl (z.2 6, 20, .inr (.inr (.inr (.inr (fun _ => none))))))] H) (hD : va_D A [(a0, .inr (11, [.ref a4, .ref a5, .ref a6, .ref a7, .ref a8, .ref a9, .ref a10, .ref a11, .ref a12, .ref a13, .int 0, .int 0, .ref a14, .int 0])), (a4, .inr (0, [.ref a15, .int 0, .int 0, .int 0, .ref a16, .ref a17, .ref a18, .ref a19, .ref a20, .ref a21])), (a19, .inl (z.2 0, 31, .inl (fun _ => 0))), (a18, .inl (z.2 0, 31, .inl (fun _ => 0))), (a20, .inl (z.2 8, 31, .inr (.inr (.inr (.inr (va_up (va_up g0 0 (some a22)) 30 (some a23))))))), (a23, .inl (z.2 0, 8, .inl (fun _ => 0))), (a17, .inl (z.2 0, 31, .inl (fun _ => 0))), (a22, .inl (z.2 0, 8, .inl (fun _ => 0))), (a11, .inl (z.2 0, 20, .inl (fun _ => 0))), (a12, .inl (z.2 0, 20, .inl (fun _ => 0))), (a13, .inl (z.2 0, 20, .inl (fun _ => 0))), (a2, .inl (z.2 1, 1, .inr (.inl (fun _ => 0)))), (a1, .inr (18, [.ref a24, .ref a25, .int 0, .ref a26, .int 0, .ref a27, .int 0, .null, .int 0, .null, .long 0, .int 0, .null])), (a24, .inr (17, [.int 0, .ref a28, .ref a29, .int 0, .ref a30, .ref a31, .ref a32, .null, .null, .int 0, .ref a33, .ref a34, .ref a35, .int 0, .ref a36, .int 1])), (a29, .inl (z.2 7, 0, .inr (.inr (.inr (.inr (fun _ => none)))))), (a28, .inl (z.2 0, 8, .inl (fun _ => 0))), (a30, .inl (z.2 0, 8, .inl (fun _ => 0))), (a31, .inl (z.2 0, 8, .inl (fun _ => 0))), (a32, .inl (z.2 0, 8, .inl (fun _ => 0))), (a33, .inl (z.2 0, 16, .inl (fun _ => 0))), (a34, .inl (z.2 0, 16, .inl (fun _ => 0))), (a35, .inl (z.2 0, 16, .inl (fun _ => 0))), (a36, .inl (z.2 0, 12, .inl (fun _ => 0))), (a25, .inl (z.2 6, 20, .inr (.inr (.inr (.inr (fun _ => none))))))]) (hS : va_S A s.heap H locs) (hl : lv_has ls 9 [(0, .ref b), (1, .ref a0), (2, .ref a1), (3, .ref a2), (4, .ref a3), (5, .int 0)]) : W p l e room_1 s m #[Value.ref b] below meth c H locs 265 8866 Q (F0 m 44 ls [.int 3]) := by
  refine lv_tableIn (tgt := 500) hx hb d_law_44 (by decide +kernel) (by decide +kernel) rfl (by decide) ?_
  refine lv_aload_n hx hb d_law_500 rfl (lv_at hl 1 rfl) ?_
  refine lv_aload_n hx hb d_law_501 rfl (lv_at hl 0 rfl) ?_
  refine lv_iload hx hb d_law_502 (lv_at hl 5 rfl) ?_
  refine lv_iconst (v := 1) hx hb d_law_504 (by decide +kernel) ?_
  refine lv_iadd hx hb d_law_505 ?_
  refine nrm (x1 := 1) (by decide +kernel) ?_
  refine va_sld hx hb hX hbl hbA hS (hin4 (i := 1) rfl) d_law_506 ?_
  refine nrm (x1 := xs 1) rfl ?_
  refine lv_aload_n hx hb d_law_507 rfl (lv_at hl 3 rfl) ?_
  refine kH (As := [.ref a0, .int (xs 1), .ref a2]) (rest := []) (wr := [(a1, .inr (18, [.ref a24, .ref a25, .int 0, .ref a26, .int 0, .ref a27, .int 0, .null, .int 0, .null, .long 0, .int 0, .null])), (a24, .inr (17, [.int 0, .ref a28, .ref a29, .int 0, .ref a30, .ref a31, .ref a32, .null, .null, .int 0, .ref a33, .ref a34, .ref a35, .int 0, .ref a36, .int 1])), (a29, .inl (z.2 7, 0, .inr (.inr (.inr (.inr (fun _ => none)))))), (a28, .inl (z.2 0, 8, .inl (fun _ => 0))), (a30, .inl (z.2 0, 8, .inl (fun _ => 0))), (a31, .inl (z.2 0, 8, .inl (fun _ => 0))), (a32, .inl (z.2 0, 8, .inl (fun _ => 0))), (a33, .inl (z.2 0, 16, .inl (fun _ => 0))), (a34, .inl (z.2 0, 16, .inl (fun _ => 0))), (a35, .inl (z.2 0, 16, .inl (fun _ => 0))), (a36, .inl (z.2 0, 12, .inl (fun _ => 0))), (a25, .inl (z.2 6, 20, .inr (.inr (.inr (.inr (fun _ => none))))))]) (c68_BLaw_ballots l z a0 a2 a4 a5 a6 a7 a8 a9 a10 a11 a12 a13 a14 a15 a16 a17 a18 a19 a20 a21 a22 a23 g0 (xs 1) h0 h1) hx hb hml hown hts w_907 w_905 w_906 w_0 md_d3d456 ⟨Nat.le_of_ble_eq_true rfl, Nat.le_of_ble_eq_true rfl⟩ hG hZ hP hD hS hA [0, 1, 2, 3, 4, 5, 6, 7, 8, 9, 10, 11] [12, 13, 14, 15, 16, 17, 18, 19, 20, 21, 22, 23] rfl rfl rfl rfl rfl hl.1 rfl (Nat.le_of_ble_eq_true rfl) d_law_508 ⟨Nat.le_of_ble_eq_true rfl, Nat.le_of_ble_eq_true rfl⟩ (fun u0 H locs hP hD hS => ?_)
  have hP : va_P z.1 classes [(a1, .inr (18, [.ref a24, .ref a25, .int 0, .ref a26, .int 0, .ref a27, .int 0, .null, .int 0, .null, .long 0, .int 0, .null])), (a24, .inr (17, [.int 0, .ref a28, .ref a29, .int 0, .ref a30, .ref a31, .ref a32, .null, .null, .int 0, .ref a33, .ref a34, .ref a35, .int 0, .ref a36, .int 1])), (a29, .inl (z.2 7, 0, .inr (.inr (.inr (.inr (fun _ => none)))))), (a28, .inl (z.2 0, 8, .inl (fun _ => 0))), (a30, .inl (z.2 0, 8, .inl (fun _ => 0))), (a31, .inl (z.2 0, 8, .inl (fun _ => 0))), (a32, .inl (z.2 0, 8, .inl (fun _ => 0))), (a33, .inl (z.2 0, 16, .inl (fun _ => 0))), (a34, .inl (z.2 0, 16, .inl (fun _ => 0))), (a35, .inl (z.2 0, 16, .inl (fun _ => 0))), (a36, .inl (z.2 0, 12, .inl (fun _ => 0))), (a25, .inl (z.2 6, 20, .inr (.inr (.inr (.inr (fun _ => none)))))), (a0, .inr (11, [.ref a4, .ref a5, .ref a6, .ref a7, .ref a8, .ref a9, .ref a10, .ref a11, .ref a12, .ref a13, .int 1, .int 1, .ref a14, .int 0])), (a4, .inr (0, [.ref a15, .int 0, .int 0, .int 1, .ref a16, .ref a17, .ref a18, .ref a19, .ref a20, .ref a21])), (a19, .inl (z.2 0, 31, .inl (fun _ => 0))), (a18, .inl (z.2 0, 31, .inl (fun _ => 0))), (a20, .inl (z.2 8, 31, .inr (.inr (.inr (.inr (va_up (va_up g0 0 (some a22)) 30 (some a23))))))), (a23, .inl (z.2 0, 8, .inl (fun _ => 0))), (a17, .inl (z.2 0, 31, .inl (upd (fun _ => 0) 0 (xs 1)))), (a22, .inl (z.2 0, 8, .inl (fun _ => 0))), (a11, .inl (z.2 0, 20, .inl (upd (fun _ => 0) 1 3))), (a12, .inl (z.2 0, 20, .inl (fun _ => 0))), (a13, .inl (z.2 0, 20, .inl (fun _ => 0))), (a2, .inl (z.2 1, 1, .inr (.inl (fun _ => 0))))] H := hP
  have hD : va_D A [(a1, .inr (18, [.ref a24, .ref a25, .int 0, .ref a26, .int 0, .ref a27, .int 0, .null, .int 0, .null, .long 0, .int 0, .null])), (a24, .inr (17, [.int 0, .ref a28, .ref a29, .int 0, .ref a30, .ref a31, .ref a32, .null, .null, .int 0, .ref a33, .ref a34, .ref a35, .int 0, .ref a36, .int 1])), (a29, .inl (z.2 7, 0, .inr (.inr (.inr (.inr (fun _ => none)))))), (a28, .inl (z.2 0, 8, .inl (fun _ => 0))), (a30, .inl (z.2 0, 8, .inl (fun _ => 0))), (a31, .inl (z.2 0, 8, .inl (fun _ => 0))), (a32, .inl (z.2 0, 8, .inl (fun _ => 0))), (a33, .inl (z.2 0, 16, .inl (fun _ => 0))), (a34, .inl (z.2 0, 16, .inl (fun _ => 0))), (a35, .inl (z.2 0, 16, .inl (fun _ => 0))), (a36, .inl (z.2 0, 12, .inl (fun _ => 0))), (a25, .inl (z.2 6, 20, .inr (.inr (.inr (.inr (fun _ => none)))))), (a0, .inr (11, [.ref a4, .ref a5, .ref a6, .ref a7, .ref a8, .ref a9, .ref a10, .ref a11, .ref a12, .ref a13, .int 1, .int 1, .ref a14, .int 0])), (a4, .inr (0, [.ref a15, .int 0, .int 0, .int 1, .ref a16, .ref a17, .ref a18, .ref a19, .ref a20, .ref a21])), (a19, .inl (z.2 0, 31, .inl (fun _ => 0))), (a18, .inl (z.2 0, 31, .inl (fun _ => 0))), (a20, .inl (z.2 8, 31, .inr (.inr (.inr (.inr (va_up (va_up g0 0 (some a22)) 30 (some a23))))))), (a23, .inl (z.2 0, 8, .inl (fun _ => 0))), (a17, .inl (z.2 0, 31, .inl (upd (fun _ => 0) 0 (xs 1)))), (a22, .inl (z.2 0, 8, .inl (fun _ => 0))), (a11, .inl (z.2 0, 20, .inl (upd (fun _ => 0) 1 3))), (a12, .inl (z.2 0, 20, .inl (fun _ => 0))), (a13, .inl (z.2 0, 20, .inl (fun _ => 0))), (a2, .inl (z.2 1, 1, .inr (.inl (fun _ => 0))))] := hD
  refine W.eq (g2 := F0 m 511 ls [.int 0]) rfl ?_
  refine lv_istore (lv' := [(6, .int 0), (0, .ref b), (1, .ref a0), (2, .ref a1), (3, .ref a2), (4, .ref a3), (5, .int 0)]) hx hb d_law_511 hl (by decide) rfl (fun ls hl => ?_)
  refine lv_aload_n hx hb d_law_513 rfl (lv_at hl 3 rfl) ?_
  refine lv_aload_n hx hb d_law_514 rfl (lv_at hl 1 rfl) ?_
  refine lv_iload hx hb d_law_515 (lv_at hl 6 rfl) ?_
  refine lv_iconst (v := 1) hx hb d_law_517 (by decide +kernel) ?_
  refine lv_iadd hx hb d_law_518 ?_
  refine nrm (x1 := 1) (by decide +kernel) ?_
  refine va_sld hx hb hX hbl hbA hS (hin4 (i := 1) rfl) d_law_519 ?_
  refine nrm (x1 := xs 1) rfl ?_
  refine kV (As := [.int (xs 1)]) (rest := []) (wr := [(a0, .inr (11, [.ref a4, .ref a5, .ref a6, .ref a7, .ref a8, .ref a9, .ref a10, .ref a11, .ref a12, .ref a13, .int 1, .int 1, .ref a14, .int 0])), (a4, .inr (0, [.ref a15, .int 0, .int 0, .int 1, .ref a16, .ref a17, .ref a18, .ref a19, .ref a20, .ref a21])), (a19, .inl (z.2 0, 31, .inl (fun _ => 0))), (a18, .inl (z.2 0, 31, .inl (fun _ => 0))), (a20, .inl (z.2 8, 31, .inr (.inr (.inr (.inr (va_up (va_up g0 0 (some a22)) 30 (some a23))))))), (a23, .inl (z.2 0, 8, .inl (fun _ => 0))), (a17, .inl (z.2 0, 31, .inl (upd (fun _ => 0) 0 (xs 1)))), (a22, .inl (z.2 0, 8, .inl (fun _ => 0))), (a11, .inl (z.2 0, 20, .inl (upd (fun _ => 0) 1 3))), (a12, .inl (z.2 0, 20, .inl (fun _ => 0))), (a13, .inl (z.2 0, 20, .inl (fun _ => 0))), (a2, .inl (z.2 1, 1, .inr (.inl (fun _ => 0))))]) (c78_BModel_ballots l z a1 a24 a25 a26 a27 a28 a29 a30 a31 a32 a33 a34 a35 a36 (xs 1) h0 h1 h2) hx hb hml hown hts w_1731 w_1728 w_1729 w_1730 w_12 md_574ee6 ⟨Nat.le_of_ble_eq_true rfl, Nat.le_of_ble_eq_true rfl⟩ hG hZ hP hD hS hA 0 rfl rfl rfl [0, 1, 2, 3, 4, 5, 6, 7, 8, 9, 10, 11] [12, 13, 14, 15, 16, 17, 18, 19, 20, 21, 22, 23] rfl rfl rfl rfl rfl hl.1 rfl (Nat.le_of_ble_eq_true rfl) d_law_520 ⟨Nat.le_of_ble_eq_true rfl, Nat.le_of_ble_eq_true rfl⟩ (fun u1 H locs hP hD hS => ?_)
  have hP : va_P z.1 classes [(a0, .inr (11, [.ref a4, .ref a5, .ref a6, .ref a7, .ref a8, .ref a9, .ref a10, .ref a11, .ref a12, .ref a13, .int 1, .int 1, .ref a14, .int 0])), (a4, .inr (0, [.ref a15, .int 0, .int 0, .int 1, .ref a16, .ref a17, .ref a18, .ref a19, .ref a20, .ref a21])), (a19, .inl (z.2 0, 31, .inl (fun _ => 0))), (a18, .inl (z.2 0, 31, .inl (fun _ => 0))), (a20, .inl (z.2 8, 31, .inr (.inr (.inr (.inr (va_up (va_up g0 0 (some a22)) 30 (some a23))))))), (a23, .inl (z.2 0, 8, .inl (fun _ => 0))), (a17, .inl (z.2 0, 31, .inl (upd (fun _ => 0) 0 (xs 1)))), (a22, .inl (z.2 0, 8, .inl (fun _ => 0))), (a11, .inl (z.2 0, 20, .inl (upd (fun _ => 0) 1 3))), (a12, .inl (z.2 0, 20, .inl (fun _ => 0))), (a13, .inl (z.2 0, 20, .inl (fun _ => 0))), (a2, .inl (z.2 1, 1, .inr (.inl (fun _ => 0)))), (a1, .inr (18, [.ref a24, .ref a25, .int 1, .ref a26, .int 0, .ref a27, .int 0, .ref (u1.1 0), .int (-1), .null, .long 0, .int 0, .null])), (a24, .inr (17, [.int 0, .ref a28, .ref (u1.1 1), .int 0, .ref a30, .ref a31, .ref a32, .null, .null, .int 0, .ref a33, .ref a34, .ref a35, .int 0, .ref a36, .int 1])), (a29, .inl (z.2 7, 0, .inr (.inr (.inr (.inr (fun _ => none)))))), (a28, .inl (z.2 0, 8, .inl (fun _ => 0))), (a30, .inl (z.2 0, 8, .inl (fun _ => 0))), (a31, .inl (z.2 0, 8, .inl (fun _ => 0))), (a32, .inl (z.2 0, 8, .inl (fun _ => 0))), (a33, .inl (z.2 0, 16, .inl (fun _ => 0))), (a34, .inl (z.2 0, 16, .inl (fun _ => 0))), (a35, .inl (z.2 0, 16, .inl (fun _ => 0))), (a36, .inl (z.2 0, 12, .inl (fun _ => 0))), (a25, .inl (z.2 6, 20, .inr (.inr (.inr (.inr (va_up (fun _ => none) 0 (some (u1.1 2))))))))] H := hP
  have hD : va_D A [(a0, .inr (11, [.ref a4, .ref a5, .ref a6, .ref a7, .ref a8, .ref a9, .ref a10, .ref a11, .ref a12, .ref a13, .int 1, .int 1, .ref a14, .int 0])), (a4, .inr (0, [.ref a15, .int 0, .int 0, .int 1, .ref a16, .ref a17, .ref a18, .ref a19, .ref a20, .ref a21])), (a19, .inl (z.2 0, 31, .inl (fun _ => 0))), (a18, .inl (z.2 0, 31, .inl (fun _ => 0))), (a20, .inl (z.2 8, 31, .inr (.inr (.inr (.inr (va_up (va_up g0 0 (some a22)) 30 (some a23))))))), (a23, .inl (z.2 0, 8, .inl (fun _ => 0))), (a17, .inl (z.2 0, 31, .inl (upd (fun _ => 0) 0 (xs 1)))), (a22, .inl (z.2 0, 8, .inl (fun _ => 0))), (a11, .inl (z.2 0, 20, .inl (upd (fun _ => 0) 1 3))), (a12, .inl (z.2 0, 20, .inl (fun _ => 0))), (a13, .inl (z.2 0, 20, .inl (fun _ => 0))), (a2, .inl (z.2 1, 1, .inr (.inl (fun _ => 0)))), (a1, .inr (18, [.ref a24, .ref a25, .int 1, .ref a26, .int 0, .ref a27, .int 0, .ref (u1.1 0), .int (-1), .null, .long 0, .int 0, .null])), (a24, .inr (17, [.int 0, .ref a28, .ref (u1.1 1), .int 0, .ref a30, .ref a31, .ref a32, .null, .null, .int 0, .ref a33, .ref a34, .ref a35, .int 0, .ref a36, .int 1])), (a29, .inl (z.2 7, 0, .inr (.inr (.inr (.inr (fun _ => none)))))), (a28, .inl (z.2 0, 8, .inl (fun _ => 0))), (a30, .inl (z.2 0, 8, .inl (fun _ => 0))), (a31, .inl (z.2 0, 8, .inl (fun _ => 0))), (a32, .inl (z.2 0, 8, .inl (fun _ => 0))), (a33, .inl (z.2 0, 16, .inl (fun _ => 0))), (a34, .inl (z.2 0, 16, .inl (fun _ => 0))), (a35, .inl (z.2 0, 16, .inl (fun _ => 0))), (a36, .inl (z.2 0, 12, .inl (fun _ => 0))), (a25, .inl (z.2 6, 20, .inr (.inr (.inr (.inr (va_up (fun _ => none) 0 (some (u1.1 2))))))))] := hD
  refine W.eq (g2 := F0 m 523 ls [.int 0]) rfl ?_
  refine lv_istore (lv' := [(7, .int 0), (6, .int 0), (0, .ref b), (1, .ref a0), (2, .ref a1), (3, .ref a2), (4, .ref a3), (5, .int 0)]) hx hb d_law_523 hl (by decide) rfl (fun ls hl => ?_)
  refine lv_aload_n hx hb d_law_525 rfl (lv_at hl 4 rfl) ?_
  refine kV (As := []) (rest := []) (wr := [(a0, .inr (11, [.ref a4, .ref a5, .ref a6, .ref a7, .ref a8, .ref a9, .ref a10, .ref a11, .ref a12, .ref a13, .int 1, .int 1, .ref a14, .int 0])), (a4, .inr (0, [.ref a15, .int 0, .int 0, .int 1, .ref a16, .ref a17, .ref a18, .ref a19, .ref a20, .ref a21])), (a19, .inl (z.2 0, 31, .inl (fun _ => 0))), (a18, .inl (z.2 0, 31, .inl (fun _ => 0))), (a20, .inl (z.2 8, 31, .inr (.inr (.inr (.inr (va_up (va_up g0 0 (some a22)) 30 (some a23))))))), (a23, .inl (z.2 0, 8, .inl (fun _ => 0))), (a17, .inl (z.2 0, 31, .inl (upd (fun _ => 0) 0 (xs 1)))), (a22, .inl (z.2 0, 8, .inl (fun _ => 0))), (a11, .inl (z.2 0, 20, .inl (upd (fun _ => 0) 1 3))), (a12, .inl (z.2 0, 20, .inl (fun _ => 0))), (a13, .inl (z.2 0, 20, .inl (fun _ => 0))), (a2, .inl (z.2 1, 1, .inr (.inl (fun _ => 0)))), (a24, .inr (17, [.int 0, .ref a28, .ref (u1.1 1), .int 0, .ref a30, .ref a31, .ref a32, .null, .null, .int 0, .ref a33, .ref a34, .ref a35, .int 0, .ref a36, .int 1])), (a29, .inl (z.2 7, 0, .inr (.inr (.inr (.inr (fun _ => none)))))), (a28, .inl (z.2 0, 8, .inl (fun _ => 0))), (a30, .inl (z.2 0, 8, .inl (fun _ => 0))), (a31, .inl (z.2 0, 8, .inl (fun _ => 0))), (a32, .inl (z.2 0, 8, .inl (fun _ => 0))), (a33, .inl (z.2 0, 16, .inl (fun _ => 0))), (a34, .inl (z.2 0, 16, .inl (fun _ => 0))), (a35, .inl (z.2 0, 16, .inl (fun _ => 0))), (a36, .inl (z.2 0, 12, .inl (fun _ => 0))), (a25, .inl (z.2 6, 20, .inr (.inr (.inr (.inr (va_up (fun _ => none) 0 (some (u1.1 2))))))))]) (c79_BModel_thrown l z a1 a24 a25 a26 a27 (u1.1 0)) hx hb hml hown hts w_1688 w_1685 w_1686 w_1687 w_12 md_c48e0f ⟨Nat.le_of_ble_eq_true rfl, Nat.le_of_ble_eq_true rfl⟩ hG hZ hP hD hS hA 12 rfl rfl rfl [12] [0, 1, 2, 3, 4, 5, 6, 7, 8, 9, 10, 11, 13, 14, 15, 16, 17, 18, 19, 20, 21, 22, 23] rfl rfl rfl rfl rfl hl.1 rfl (Nat.le_of_ble_eq_true rfl) d_law_526 ⟨Nat.le_of_ble_eq_true rfl, Nat.le_of_ble_eq_true rfl⟩ (fun u2 H locs hP hD hS => ?_)
  have hP : va_P z.1 classes [(a0, .inr (11, [.ref a4, .ref a5, .ref a6, .ref a7, .ref a8, .ref a9, .ref a10, .ref a11, .ref a12, .ref a13, .int 1, .int 1, .ref a14, .int 0])), (a4, .inr (0, [.ref a15, .int 0, .int 0, .int 1, .ref a16, .ref a17, .ref a18, .ref a19, .ref a20, .ref a21])), (a19, .inl (z.2 0, 31, .inl (fun _ => 0))), (a18, .inl (z.2 0, 31, .inl (fun _ => 0))), (a20, .inl (z.2 8, 31, .inr (.inr (.inr (.inr (va_up (va_up g0 0 (some a22)) 30 (some a23))))))), (a23, .inl (z.2 0, 8, .inl (fun _ => 0))), (a17, .inl (z.2 0, 31, .inl (upd (fun _ => 0) 0 (xs 1)))), (a22, .inl (z.2 0, 8, .inl (fun _ => 0))), (a11, .inl (z.2 0, 20, .inl (upd (fun _ => 0) 1 3))), (a12, .inl (z.2 0, 20, .inl (fun _ => 0))), (a13, .inl (z.2 0, 20, .inl (fun _ => 0))), (a2, .inl (z.2 1, 1, .inr (.inl (fun _ => 0)))), (a24, .inr (17, [.int 0, .ref a28, .ref (u1.1 1), .int 0, .ref a30, .ref a31, .ref a32, .null, .null, .int 0, .ref a33, .ref a34, .ref a35, .int 0, .ref a36, .int 1])), (a29, .inl (z.2 7, 0, .inr (.inr (.inr (.inr (fun _ => none)))))), (a28, .inl (z.2 0, 8, .inl (fun _ => 0))), (a30, .inl (z.2 0, 8, .inl (fun _ => 0))), (a31, .inl (z.2 0, 8, .inl (fun _ => 0))), (a32, .inl (z.2 0, 8, .inl (fun _ => 0))), (a33, .inl (z.2 0, 16, .inl (fun _ => 0))), (a34, .inl (z.2 0, 16, .inl (fun _ => 0))), (a35, .inl (z.2 0, 16, .inl (fun _ => 0))), (a36, .inl (z.2 0, 12, .inl (fun _ => 0))), (a25, .inl (z.2 6, 20, .inr (.inr (.inr (.inr (va_up (fun _ => none) 0 (some (u1.1 2)))))))), (a1, .inr (18, [.ref a24, .ref a25, .int 1, .ref a26, .int 0, .ref a27, .int 0, .ref (u1.1 0), .int (-1), .null, .long 0, .int 0, .null]))] H := hP
  have hD : va_D A [(a0, .inr (11, [.ref a4, .ref a5, .ref a6, .ref a7, .ref a8, .ref a9, .ref a10, .ref a11, .ref a12, .ref a13, .int 1, .int 1, .ref a14, .int 0])), (a4, .inr (0, [.ref a15, .int 0, .int 0, .int 1, .ref a16, .ref a17, .ref a18, .ref a19, .ref a20, .ref a21])), (a19, .inl (z.2 0, 31, .inl (fun _ => 0))), (a18, .inl (z.2 0, 31, .inl (fun _ => 0))), (a20, .inl (z.2 8, 31, .inr (.inr (.inr (.inr (va_up (va_up g0 0 (some a22)) 30 (some a23))))))), (a23, .inl (z.2 0, 8, .inl (fun _ => 0))), (a17, .inl (z.2 0, 31, .inl (upd (fun _ => 0) 0 (xs 1)))), (a22, .inl (z.2 0, 8, .inl (fun _ => 0))), (a11, .inl (z.2 0, 20, .inl (upd (fun _ => 0) 1 3))), (a12, .inl (z.2 0, 20, .inl (fun _ => 0))), (a13, .inl (z.2 0, 20, .inl (fun _ => 0))), (a2, .inl (z.2 1, 1, .inr (.inl (fun _ => 0)))), (a24, .inr (17, [.int 0, .ref a28, .ref (u1.1 1), .int 0, .ref a30, .ref a31, .ref a32, .null, .null, .int 0, .ref a33, .ref a34, .ref a35, .int 0, .ref a36, .int 1])), (a29, .inl (z.2 7, 0, .inr (.inr (.inr (.inr (fun _ => none)))))), (a28, .inl (z.2 0, 8, .inl (fun _ => 0))), (a30, .inl (z.2 0, 8, .inl (fun _ => 0))), (a31, .inl (z.2 0, 8, .inl (fun _ => 0))), (a32, .inl (z.2 0, 8, .inl (fun _ => 0))), (a33, .inl (z.2 0, 16, .inl (fun _ => 0))), (a34, .inl (z.2 0, 16, .inl (fun _ => 0))), (a35, .inl (z.2 0, 16, .inl (fun _ => 0))), (a36, .inl (z.2 0, 12, .inl (fun _ => 0))), (a25, .inl (z.2 6, 20, .inr (.inr (.inr (.inr (va_up (fun _ => none) 0 (some (u1.1 2)))))))), (a1, .inr (18, [.ref a24, .ref a25, .int 1, .ref a26, .int 0, .ref a27, .int 0, .ref (u1.1 0), .int (-1), .null, .long 0, .int 0, .null]))] := hD
  refine W.eq (g2 := F0 m 529 ls [.int 0]) rfl ?_
  refine lv_iload hx hb d_law_529 (lv_at hl 1 rfl) ?_
  refine lv_icmp_eq (tgt := 536) hx hb d_law_531 (by decide) (fun _ => ?_) (fun c9 => absurd (by decide +kernel) c9)
  refine lv_iload hx hb d_law_536 (lv_at hl 1 rfl) ?_
  refine lv_if_ne (tgt := 553) hx hb d_law_538 (by decide) (fun c9 => absurd (by decide +kernel) c9) (fun _ => ?_)
  refine lv_aload_n hx hb d_law_541 rfl (lv_at hl 5 rfl) ?_
  refine lv_iconst (v := 0) hx hb d_law_542 (by decide +kernel) ?_
  refine va_lald hx hb hG.1 hP 11 1 rfl rfl (vin rfl) d_law_543 ?_
  refine nrmL (x1 := 0) rfl ?_
  refine lv_iload hx hb d_law_544 (lv_at hl 0 rfl) ?_
  refine lv_i2l (v := 0) hx hb d_law_546 (by decide +kernel) ?_
  refine W.lcmp hx hb d_law_547 ?_
  refine nrm (x1 := 0) (by decide +kernel) ?_
  refine lv_if_eq (tgt := 553) hx hb d_law_548 (by decide) (fun _ => ?_) (fun c9 => absurd (by decide +kernel) c9)
  refine lv_goto (tgt := 3072) hx hb d_law_553 (by decide) ?_
  refine W.widen (k := 600002) (n := 7302232) (Nat.le_of_ble_eq_true rfl) (Nat.le_of_ble_eq_true rfl) ?_
  exact ht H locs ls hS (lv_sub hl [2, 7] rfl)
set_option maxRecDepth 100000 in
set_option maxHeartbeats 4000000 in
theorem L4_0 (l : Launch) (hl0 : l.stackTraces = false) (z : Zz) {p : Program} {e : Env} {s : State} {m : MethodId} {below : List Frame} {meth : Method} {c : Code} {A : Nat → Prop} {b : Nat} {xs : Nat → Int32} {Q : State → Prop} (hx : p.tables.exec = Jvm.exec) (hb : c.code = code) (hml : c.maxLocals = 9) (hts : ∀ w ∈ WG, w.before #[Value.ref b] s = true) (hown : s.vm.findClass "BallothallLaw" = some m.cls) (hA : ∀ q, s.heap.size ≤ q → A q) (hG : KG z s) (hZ : XZ A s) (hX : va_X b 4 xs s s.heap) (hbl : b < s.heap.size) (hbA : ¬ A b) (ht : ∀ (H : Heap) (locs : List Loc) (ls : Array Slot), va_S A s.heap H locs → lv_has ls 9 [(0, .ref b), (5, .int 0)] → W p l e room_1 s m #[Value.ref b] below meth c H locs 600002 7302232 Q (F0 m 3072 ls [])) (a0 : Nat) (a1 : Nat) (a2 : Nat) (a3 : Nat) (a4 : Nat) (a5 : Nat) (a6 : Nat) (a7 : Nat) (a8 : Nat) (a9 : Nat) (a10 : Nat) (a11 : Nat) (a12 : Nat) (a13 : Nat) (a14 : Nat) (a15 : Nat) (a16 : Nat) (a17 : Nat) (a18 : Nat) (a19 : Nat) (a20 : Nat) (a21 : Nat) (a22 : Nat) (a23 : Nat) (a24 : Nat) (a25 : Nat) (a26 : Nat) (a27 : Nat) (a28 : Nat) (a29 : Nat) (a30 : Nat) (a31 : Nat) (a32 : Nat) (a33 : Nat) (a34 : Nat) (h0 : (xs 1) < 0) (H : Heap) (locs : List Loc) (ls : Array Slot) (hP : va_P z.1 classes [(a0, .inr (11, [.ref a4, .ref a5, .ref a6, .ref a7, .ref a8, .ref a9, .ref a10, .ref a11, .ref a12, .ref a13, .int 0, .int 0, .ref a14, .int 0])), (a4, .inr (0, [.ref a15, .int 0, .int 0, .int 0, .ref a16, .ref a17, .ref a18, .ref a19, .ref a20, .ref a21])), (a1, .inr (18, [.ref a22, .ref a23, .int 0, .ref a24, .int 0, .ref a25, .int 0, .null, .int 0, .null, .long 0, .int 0, .null])), (a22, .inr (17, [.int 0, .ref a26, .ref a27, .int 0, .ref a28, .ref a29, .ref a30, .null, .null, .int 0, .ref a31, .ref a32, .ref a33, .int 0, .ref a34, .int 1])), (a27, .inl (z.2 7, 0, .inr (.inr (.inr (.inr (fun _ => none))))))] H) (hD : va_D A [(a0, .inr (11, [.ref a4, .ref a5, .ref a6, .ref a7, .ref a8, .ref a9, .ref a10, .ref a11, .ref a12, .ref a13, .int 0, .int 0, .ref a14, .int 0])), (a4, .inr (0, [.ref a15, .int 0, .int 0, .int 0, .ref a16, .ref a17, .ref a18, .ref a19, .ref a20, .ref a21])), (a1, .inr (18, [.ref a22, .ref a23, .int 0, .ref a24, .int 0, .ref a25, .int 0, .null, .int 0, .null, .long 0, .int 0, .null])), (a22, .inr (17, [.int 0, .ref a26, .ref a27, .int 0, .ref a28, .ref a29, .ref a30, .null, .null, .int 0, .ref a31, .ref a32, .ref a33, .int 0, .ref a34, .int 1])), (a27, .inl (z.2 7, 0, .inr (.inr (.inr (.inr (fun _ => none))))))]) (hS : va_S A s.heap H locs) (hl : lv_has ls 9 [(0, .ref b), (1, .ref a0), (2, .ref a1), (3, .ref a2), (4, .ref a3), (5, .int 0)]) : W p l e room_1 s m #[Value.ref b] below meth c H locs 265 8866 Q (F0 m 44 ls [.int 4]) := by
  refine lv_tableIn (tgt := 556) hx hb d_law_44 (by decide +kernel) (by decide +kernel) rfl (by decide) ?_
  refine lv_aload_n hx hb d_law_556 rfl (lv_at hl 1 rfl) ?_
  refine lv_aload_n hx hb d_law_557 rfl (lv_at hl 0 rfl) ?_
  refine lv_iload hx hb d_law_558 (lv_at hl 5 rfl) ?_
  refine lv_iconst (v := 1) hx hb d_law_560 (by decide +kernel) ?_
  refine lv_iadd hx hb d_law_561 ?_
  refine nrm (x1 := 1) (by decide +kernel) ?_
  refine va_sld hx hb hX hbl hbA hS (hin4 (i := 1) rfl) d_law_562 ?_
  refine nrm (x1 := xs 1) rfl ?_
  refine lv_aload_n hx hb d_law_563 rfl (lv_at hl 0 rfl) ?_
  refine lv_iload hx hb d_law_564 (lv_at hl 5 rfl) ?_
  refine lv_iconst (v := 2) hx hb d_law_566 (by decide +kernel) ?_
  refine lv_iadd hx hb d_law_567 ?_
  refine nrm (x1 := 2) (by decide +kernel) ?_
  refine va_sld hx hb hX hbl hbA hS (hin4 (i := 2) rfl) d_law_568 ?_
  refine nrm (x1 := xs 2) rfl ?_
  refine lv_aload_n hx hb d_law_569 rfl (lv_at hl 3 rfl) ?_
  refine kH (As := [.ref a0, .int (xs 1), .int (xs 2), .ref a2]) (rest := []) (wr := [(a1, .inr (18, [.ref a22, .ref a23, .int 0, .ref a24, .int 0, .ref a25, .int 0, .null, .int 0, .null, .long 0, .int 0, .null])), (a22, .inr (17, [.int 0, .ref a26, .ref a27, .int 0, .ref a28, .ref a29, .ref a30, .null, .null, .int 0, .ref a31, .ref a32, .ref a33, .int 0, .ref a34, .int 1])), (a27, .inl (z.2 7, 0, .inr (.inr (.inr (.inr (fun _ => none))))))]) (c81_BLaw_takeBack l z hl0 a0 a2 a4 a5 a6 a7 a8 a9 a10 a11 a12 a13 a14 a15 a16 a17 a18 a19 a20 a21 (xs 1) (xs 2) h0) hx hb hml hown hts w_943 w_941 w_942 w_0 md_10ac91 ⟨Nat.le_of_ble_eq_true rfl, Nat.le_of_ble_eq_true rfl⟩ hG hZ hP hD hS hA [0, 1] [2, 3, 4] rfl rfl rfl rfl rfl hl.1 rfl (Nat.le_of_ble_eq_true rfl) d_law_570 ⟨Nat.le_of_ble_eq_true rfl, Nat.le_of_ble_eq_true rfl⟩ (fun u0 H locs hP hD hS => ?_)
  have hP : va_P z.1 classes [(a1, .inr (18, [.ref a22, .ref a23, .int 0, .ref a24, .int 0, .ref a25, .int 0, .null, .int 0, .null, .long 0, .int 0, .null])), (a22, .inr (17, [.int 0, .ref a26, .ref a27, .int 0, .ref a28, .ref a29, .ref a30, .null, .null, .int 0, .ref a31, .ref a32, .ref a33, .int 0, .ref a34, .int 1])), (a27, .inl (z.2 7, 0, .inr (.inr (.inr (.inr (fun _ => none))))))] H := hP
  have hD : va_D A [(a1, .inr (18, [.ref a22, .ref a23, .int 0, .ref a24, .int 0, .ref a25, .int 0, .null, .int 0, .null, .long 0, .int 0, .null])), (a22, .inr (17, [.int 0, .ref a26, .ref a27, .int 0, .ref a28, .ref a29, .ref a30, .null, .null, .int 0, .ref a31, .ref a32, .ref a33, .int 0, .ref a34, .int 1])), (a27, .inl (z.2 7, 0, .inr (.inr (.inr (.inr (fun _ => none))))))] := hD
  refine W.eq (g2 := F0 m 573 ls [.int 1]) rfl ?_
  refine lv_istore (lv' := [(6, .int 1), (0, .ref b), (1, .ref a0), (2, .ref a1), (3, .ref a2), (4, .ref a3), (5, .int 0)]) hx hb d_law_573 hl (by decide) rfl (fun ls hl => ?_)
  refine lv_aload_n hx hb d_law_575 rfl (lv_at hl 3 rfl) ?_
  refine lv_aload_n hx hb d_law_576 rfl (lv_at hl 1 rfl) ?_
  refine lv_iload hx hb d_law_577 (lv_at hl 6 rfl) ?_
  refine lv_iconst (v := 1) hx hb d_law_579 (by decide +kernel) ?_
  refine lv_iadd hx hb d_law_580 ?_
  refine nrm (x1 := 1) (by decide +kernel) ?_
  refine va_sld hx hb hX hbl hbA hS (hin4 (i := 1) rfl) d_law_581 ?_
  refine nrm (x1 := xs 1) rfl ?_
  refine lv_aload_n hx hb d_law_582 rfl (lv_at hl 1 rfl) ?_
  refine lv_iload hx hb d_law_583 (lv_at hl 6 rfl) ?_
  refine lv_iconst (v := 2) hx hb d_law_585 (by decide +kernel) ?_
  refine lv_iadd hx hb d_law_586 ?_
  refine nrm (x1 := 2) (by decide +kernel) ?_
  refine va_sld hx hb hX hbl hbA hS (hin4 (i := 2) rfl) d_law_587 ?_
  refine nrm (x1 := xs 2) rfl ?_
  refine kV (As := [.int (xs 1), .int (xs 2)]) (rest := []) (wr := []) (c83_BModel_takeBack l z a1 a22 a23 a24 a25 a26 a27 a28 a29 a30 a31 a32 a33 a34 (xs 1) (xs 2) h0) hx hb hml hown hts w_1784 w_1781 w_1782 w_1783 w_12 md_4126ad ⟨Nat.le_of_ble_eq_true rfl, Nat.le_of_ble_eq_true rfl⟩ hG hZ hP hD hS hA 0 rfl rfl rfl [0, 1, 2] [] rfl rfl rfl rfl rfl hl.1 rfl (Nat.le_of_ble_eq_true rfl) d_law_588 ⟨Nat.le_of_ble_eq_true rfl, Nat.le_of_ble_eq_true rfl⟩ (fun u1 H locs hP hD hS => ?_)
  have hP : va_P z.1 classes [(a1, .inr (18, [.ref a22, .ref a23, .int 0, .ref a24, .int 0, .ref a25, .int 1, .null, .int 0, .null, .long 0, .int 0, .null])), (a22, .inr (17, [.int 0, .ref a26, .ref a27, .int 0, .ref a28, .ref a29, .ref a30, .null, .null, .int 0, .ref a31, .ref a32, .ref a33, .int 0, .ref a34, .int 1])), (a27, .inl (z.2 7, 0, .inr (.inr (.inr (.inr (fun _ => none))))))] H := hP
  have hD : va_D A [(a1, .inr (18, [.ref a22, .ref a23, .int 0, .ref a24, .int 0, .ref a25, .int 1, .null, .int 0, .null, .long 0, .int 0, .null])), (a22, .inr (17, [.int 0, .ref a26, .ref a27, .int 0, .ref a28, .ref a29, .ref a30, .null, .null, .int 0, .ref a31, .ref a32, .ref a33, .int 0, .ref a34, .int 1])), (a27, .inl (z.2 7, 0, .inr (.inr (.inr (.inr (fun _ => none))))))] := hD
  refine W.eq (g2 := F0 m 591 ls [.int 0]) rfl ?_
  refine lv_istore (lv' := [(7, .int 0), (6, .int 1), (0, .ref b), (1, .ref a0), (2, .ref a1), (3, .ref a2), (4, .ref a3), (5, .int 0)]) hx hb d_law_591 hl (by decide) rfl (fun ls hl => ?_)
  refine lv_aload_n hx hb d_law_593 rfl (lv_at hl 4 rfl) ?_
  refine kV (As := []) (rest := []) (wr := [(a22, .inr (17, [.int 0, .ref a26, .ref a27, .int 0, .ref a28, .ref a29, .ref a30, .null, .null, .int 0, .ref a31, .ref a32, .ref a33, .int 0, .ref a34, .int 1])), (a27, .inl (z.2 7, 0, .inr (.inr (.inr (.inr (fun _ => none))))))]) (c33_BModel_thrown l z a1 a22 a23 a24 a25) hx hb hml hown hts w_1688 w_1685 w_1686 w_1687 w_12 md_c48e0f ⟨Nat.le_of_ble_eq_true rfl, Nat.le_of_ble_eq_true rfl⟩ hG hZ hP hD hS hA 0 rfl rfl rfl [0] [1, 2] rfl rfl rfl rfl rfl hl.1 rfl (Nat.le_of_ble_eq_true rfl) d_law_594 ⟨Nat.le_of_ble_eq_true rfl, Nat.le_of_ble_eq_true rfl⟩ (fun u2 H locs hP hD hS => ?_)
  have hP : va_P z.1 classes [(a22, .inr (17, [.int 0, .ref a26, .ref a27, .int 0, .ref a28, .ref a29, .ref a30, .null, .null, .int 0, .ref a31, .ref a32, .ref a33, .int 0, .ref a34, .int 1])), (a27, .inl (z.2 7, 0, .inr (.inr (.inr (.inr (fun _ => none)))))), (a1, .inr (18, [.ref a22, .ref a23, .int 0, .ref a24, .int 0, .ref a25, .int 1, .null, .int 0, .null, .long 0, .int 0, .null]))] H := hP
  have hD : va_D A [(a22, .inr (17, [.int 0, .ref a26, .ref a27, .int 0, .ref a28, .ref a29, .ref a30, .null, .null, .int 0, .ref a31, .ref a32, .ref a33, .int 0, .ref a34, .int 1])), (a27, .inl (z.2 7, 0, .inr (.inr (.inr (.inr (fun _ => none)))))), (a1, .inr (18, [.ref a22, .ref a23, .int 0, .ref a24, .int 0, .ref a25, .int 1, .null, .int 0, .null, .long 0, .int 0, .null]))] := hD
  refine W.eq (g2 := F0 m 597 ls [.int 1]) rfl ?_
  refine lv_iload hx hb d_law_597 (lv_at hl 1 rfl) ?_
  refine lv_icmp_eq (tgt := 604) hx hb d_law_599 (by decide) (fun _ => ?_) (fun c9 => absurd (by decide +kernel) c9)
  refine lv_iload hx hb d_law_604 (lv_at hl 1 rfl) ?_
  refine lv_if_ne (tgt := 621) hx hb d_law_606 (by decide) (fun _ => ?_) (fun c9 => absurd c9 (by decide +kernel))
  refine lv_goto (tgt := 3072) hx hb d_law_621 (by decide) ?_
  refine W.widen (k := 600002) (n := 7302232) (Nat.le_of_ble_eq_true rfl) (Nat.le_of_ble_eq_true rfl) ?_
  exact ht H locs ls hS (lv_sub hl [2, 7] rfl)
set_option maxRecDepth 100000 in
set_option maxHeartbeats 4000000 in
theorem L4_1 (l : Launch) (hl0 : l.stackTraces = false) (z : Zz) {p : Program} {e : Env} {s : State} {m : MethodId} {below : List Frame} {meth : Method} {c : Code} {A : Nat → Prop} {b : Nat} {xs : Nat → Int32} {Q : State → Prop} (hx : p.tables.exec = Jvm.exec) (hb : c.code = code) (hml : c.maxLocals = 9) (hts : ∀ w ∈ WG, w.before #[Value.ref b] s = true) (hown : s.vm.findClass "BallothallLaw" = some m.cls) (hA : ∀ q, s.heap.size ≤ q → A q) (hG : KG z s) (hZ : XZ A s) (hX : va_X b 4 xs s s.heap) (hbl : b < s.heap.size) (hbA : ¬ A b) (ht : ∀ (H : Heap) (locs : List Loc) (ls : Array Slot), va_S A s.heap H locs → lv_has ls 9 [(0, .ref b), (5, .int 0)] → W p l e room_1 s m #[Value.ref b] below meth c H locs 600002 7302232 Q (F0 m 3072 ls [])) (a0 : Nat) (a1 : Nat) (a2 : Nat) (a3 : Nat) (a4 : Nat) (a5 : Nat) (a6 : Nat) (a7 : Nat) (a8 : Nat) (a9 : Nat) (a10 : Nat) (a11 : Nat) (a12 : Nat) (a13 : Nat) (a14 : Nat) (a15 : Nat) (a16 : Nat) (a17 : Nat) (a18 : Nat) (a19 : Nat) (a20 : Nat) (a21 : Nat) (a22 : Nat) (a23 : Nat) (a24 : Nat) (a25 : Nat) (a26 : Nat) (a27 : Nat) (a28 : Nat) (a29 : Nat) (a30 : Nat) (a31 : Nat) (a32 : Nat) (a33 : Nat) (a34 : Nat) (h0 : ¬ (xs 1) < 0) (h1 : (-1) < (xs 1)) (H : Heap) (locs : List Loc) (ls : Array Slot) (hP : va_P z.1 classes [(a0, .inr (11, [.ref a4, .ref a5, .ref a6, .ref a7, .ref a8, .ref a9, .ref a10, .ref a11, .ref a12, .ref a13, .int 0, .int 0, .ref a14, .int 0])), (a4, .inr (0, [.ref a15, .int 0, .int 0, .int 0, .ref a16, .ref a17, .ref a18, .ref a19, .ref a20, .ref a21])), (a1, .inr (18, [.ref a22, .ref a23, .int 0, .ref a24, .int 0, .ref a25, .int 0, .null, .int 0, .null, .long 0, .int 0, .null])), (a22, .inr (17, [.int 0, .ref a26, .ref a27, .int 0, .ref a28, .ref a29, .ref a30, .null, .null, .int 0, .ref a31, .ref a32, .ref a33, .int 0, .ref a34, .int 1])), (a27, .inl (z.2 7, 0, .inr (.inr (.inr (.inr (fun _ => none))))))] H) (hD : va_D A [(a0, .inr (11, [.ref a4, .ref a5, .ref a6, .ref a7, .ref a8, .ref a9, .ref a10, .ref a11, .ref a12, .ref a13, .int 0, .int 0, .ref a14, .int 0])), (a4, .inr (0, [.ref a15, .int 0, .int 0, .int 0, .ref a16, .ref a17, .ref a18, .ref a19, .ref a20, .ref a21])), (a1, .inr (18, [.ref a22, .ref a23, .int 0, .ref a24, .int 0, .ref a25, .int 0, .null, .int 0, .null, .long 0, .int 0, .null])), (a22, .inr (17, [.int 0, .ref a26, .ref a27, .int 0, .ref a28, .ref a29, .ref a30, .null, .null, .int 0, .ref a31, .ref a32, .ref a33, .int 0, .ref a34, .int 1])), (a27, .inl (z.2 7, 0, .inr (.inr (.inr (.inr (fun _ => none))))))]) (hS : va_S A s.heap H locs) (hl : lv_has ls 9 [(0, .ref b), (1, .ref a0), (2, .ref a1), (3, .ref a2), (4, .ref a3), (5, .int 0)]) : W p l e room_1 s m #[Value.ref b] below meth c H locs 265 8866 Q (F0 m 44 ls [.int 4]) := by
  refine lv_tableIn (tgt := 556) hx hb d_law_44 (by decide +kernel) (by decide +kernel) rfl (by decide) ?_
  refine lv_aload_n hx hb d_law_556 rfl (lv_at hl 1 rfl) ?_
  refine lv_aload_n hx hb d_law_557 rfl (lv_at hl 0 rfl) ?_
  refine lv_iload hx hb d_law_558 (lv_at hl 5 rfl) ?_
  refine lv_iconst (v := 1) hx hb d_law_560 (by decide +kernel) ?_
  refine lv_iadd hx hb d_law_561 ?_
  refine nrm (x1 := 1) (by decide +kernel) ?_
  refine va_sld hx hb hX hbl hbA hS (hin4 (i := 1) rfl) d_law_562 ?_
  refine nrm (x1 := xs 1) rfl ?_
  refine lv_aload_n hx hb d_law_563 rfl (lv_at hl 0 rfl) ?_
  refine lv_iload hx hb d_law_564 (lv_at hl 5 rfl) ?_
  refine lv_iconst (v := 2) hx hb d_law_566 (by decide +kernel) ?_
  refine lv_iadd hx hb d_law_567 ?_
  refine nrm (x1 := 2) (by decide +kernel) ?_
  refine va_sld hx hb hX hbl hbA hS (hin4 (i := 2) rfl) d_law_568 ?_
  refine nrm (x1 := xs 2) rfl ?_
  refine lv_aload_n hx hb d_law_569 rfl (lv_at hl 3 rfl) ?_
  refine kH (As := [.ref a0, .int (xs 1), .int (xs 2), .ref a2]) (rest := []) (wr := [(a1, .inr (18, [.ref a22, .ref a23, .int 0, .ref a24, .int 0, .ref a25, .int 0, .null, .int 0, .null, .long 0, .int 0, .null])), (a22, .inr (17, [.int 0, .ref a26, .ref a27, .int 0, .ref a28, .ref a29, .ref a30, .null, .null, .int 0, .ref a31, .ref a32, .ref a33, .int 0, .ref a34, .int 1])), (a27, .inl (z.2 7, 0, .inr (.inr (.inr (.inr (fun _ => none))))))]) (c85_BLaw_takeBack l z hl0 a0 a2 a4 a5 a6 a7 a8 a9 a10 a11 a12 a13 a14 a15 a16 a17 a18 a19 a20 a21 (xs 1) (xs 2) h0) hx hb hml hown hts w_943 w_941 w_942 w_0 md_10ac91 ⟨Nat.le_of_ble_eq_true rfl, Nat.le_of_ble_eq_true rfl⟩ hG hZ hP hD hS hA [0, 1] [2, 3, 4] rfl rfl rfl rfl rfl hl.1 rfl (Nat.le_of_ble_eq_true rfl) d_law_570 ⟨Nat.le_of_ble_eq_true rfl, Nat.le_of_ble_eq_true rfl⟩ (fun u0 H locs hP hD hS => ?_)
  have hP : va_P z.1 classes [(a1, .inr (18, [.ref a22, .ref a23, .int 0, .ref a24, .int 0, .ref a25, .int 0, .null, .int 0, .null, .long 0, .int 0, .null])), (a22, .inr (17, [.int 0, .ref a26, .ref a27, .int 0, .ref a28, .ref a29, .ref a30, .null, .null, .int 0, .ref a31, .ref a32, .ref a33, .int 0, .ref a34, .int 1])), (a27, .inl (z.2 7, 0, .inr (.inr (.inr (.inr (fun _ => none))))))] H := hP
  have hD : va_D A [(a1, .inr (18, [.ref a22, .ref a23, .int 0, .ref a24, .int 0, .ref a25, .int 0, .null, .int 0, .null, .long 0, .int 0, .null])), (a22, .inr (17, [.int 0, .ref a26, .ref a27, .int 0, .ref a28, .ref a29, .ref a30, .null, .null, .int 0, .ref a31, .ref a32, .ref a33, .int 0, .ref a34, .int 1])), (a27, .inl (z.2 7, 0, .inr (.inr (.inr (.inr (fun _ => none))))))] := hD
  refine W.eq (g2 := F0 m 573 ls [.int 1]) rfl ?_
  refine lv_istore (lv' := [(6, .int 1), (0, .ref b), (1, .ref a0), (2, .ref a1), (3, .ref a2), (4, .ref a3), (5, .int 0)]) hx hb d_law_573 hl (by decide) rfl (fun ls hl => ?_)
  refine lv_aload_n hx hb d_law_575 rfl (lv_at hl 3 rfl) ?_
  refine lv_aload_n hx hb d_law_576 rfl (lv_at hl 1 rfl) ?_
  refine lv_iload hx hb d_law_577 (lv_at hl 6 rfl) ?_
  refine lv_iconst (v := 1) hx hb d_law_579 (by decide +kernel) ?_
  refine lv_iadd hx hb d_law_580 ?_
  refine nrm (x1 := 1) (by decide +kernel) ?_
  refine va_sld hx hb hX hbl hbA hS (hin4 (i := 1) rfl) d_law_581 ?_
  refine nrm (x1 := xs 1) rfl ?_
  refine lv_aload_n hx hb d_law_582 rfl (lv_at hl 1 rfl) ?_
  refine lv_iload hx hb d_law_583 (lv_at hl 6 rfl) ?_
  refine lv_iconst (v := 2) hx hb d_law_585 (by decide +kernel) ?_
  refine lv_iadd hx hb d_law_586 ?_
  refine nrm (x1 := 2) (by decide +kernel) ?_
  refine va_sld hx hb hX hbl hbA hS (hin4 (i := 2) rfl) d_law_587 ?_
  refine nrm (x1 := xs 2) rfl ?_
  refine kV (As := [.int (xs 1), .int (xs 2)]) (rest := []) (wr := []) (c87_BModel_takeBack l z a1 a22 a23 a24 a25 a26 a27 a28 a29 a30 a31 a32 a33 a34 (xs 1) (xs 2) h0 h1) hx hb hml hown hts w_1784 w_1781 w_1782 w_1783 w_12 md_4126ad ⟨Nat.le_of_ble_eq_true rfl, Nat.le_of_ble_eq_true rfl⟩ hG hZ hP hD hS hA 0 rfl rfl rfl [0, 1, 2] [] rfl rfl rfl rfl rfl hl.1 rfl (Nat.le_of_ble_eq_true rfl) d_law_588 ⟨Nat.le_of_ble_eq_true rfl, Nat.le_of_ble_eq_true rfl⟩ (fun u1 H locs hP hD hS => ?_)
  have hP : va_P z.1 classes [(a1, .inr (18, [.ref a22, .ref a23, .int 0, .ref a24, .int 0, .ref a25, .int 1, .null, .int 0, .null, .long 0, .int 0, .null])), (a22, .inr (17, [.int 0, .ref a26, .ref a27, .int 0, .ref a28, .ref a29, .ref a30, .null, .null, .int 0, .ref a31, .ref a32, .ref a33, .int 0, .ref a34, .int 1])), (a27, .inl (z.2 7, 0, .inr (.inr (.inr (.inr (fun _ => none))))))] H := hP
  have hD : va_D A [(a1, .inr (18, [.ref a22, .ref a23, .int 0, .ref a24, .int 0, .ref a25, .int 1, .null, .int 0, .null, .long 0, .int 0, .null])), (a22, .inr (17, [.int 0, .ref a26, .ref a27, .int 0, .ref a28, .ref a29, .ref a30, .null, .null, .int 0, .ref a31, .ref a32, .ref a33, .int 0, .ref a34, .int 1])), (a27, .inl (z.2 7, 0, .inr (.inr (.inr (.inr (fun _ => none))))))] := hD
  refine W.eq (g2 := F0 m 591 ls [.int 0]) rfl ?_
  refine lv_istore (lv' := [(7, .int 0), (6, .int 1), (0, .ref b), (1, .ref a0), (2, .ref a1), (3, .ref a2), (4, .ref a3), (5, .int 0)]) hx hb d_law_591 hl (by decide) rfl (fun ls hl => ?_)
  refine lv_aload_n hx hb d_law_593 rfl (lv_at hl 4 rfl) ?_
  refine kV (As := []) (rest := []) (wr := [(a22, .inr (17, [.int 0, .ref a26, .ref a27, .int 0, .ref a28, .ref a29, .ref a30, .null, .null, .int 0, .ref a31, .ref a32, .ref a33, .int 0, .ref a34, .int 1])), (a27, .inl (z.2 7, 0, .inr (.inr (.inr (.inr (fun _ => none))))))]) (c33_BModel_thrown l z a1 a22 a23 a24 a25) hx hb hml hown hts w_1688 w_1685 w_1686 w_1687 w_12 md_c48e0f ⟨Nat.le_of_ble_eq_true rfl, Nat.le_of_ble_eq_true rfl⟩ hG hZ hP hD hS hA 0 rfl rfl rfl [0] [1, 2] rfl rfl rfl rfl rfl hl.1 rfl (Nat.le_of_ble_eq_true rfl) d_law_594 ⟨Nat.le_of_ble_eq_true rfl, Nat.le_of_ble_eq_true rfl⟩ (fun u2 H locs hP hD hS => ?_)
  have hP : va_P z.1 classes [(a22, .inr (17, [.int 0, .ref a26, .ref a27, .int 0, .ref a28, .ref a29, .ref a30, .null, .null, .int 0, .ref a31, .ref a32, .ref a33, .int 0, .ref a34, .int 1])), (a27, .inl (z.2 7, 0, .inr (.inr (.inr (.inr (fun _ => none)))))), (a1, .inr (18, [.ref a22, .ref a23, .int 0, .ref a24, .int 0, .ref a25, .int 1, .null, .int 0, .null, .long 0, .int 0, .null]))] H := hP
  have hD : va_D A [(a22, .inr (17, [.int 0, .ref a26, .ref a27, .int 0, .ref a28, .ref a29, .ref a30, .null, .null, .int 0, .ref a31, .ref a32, .ref a33, .int 0, .ref a34, .int 1])), (a27, .inl (z.2 7, 0, .inr (.inr (.inr (.inr (fun _ => none)))))), (a1, .inr (18, [.ref a22, .ref a23, .int 0, .ref a24, .int 0, .ref a25, .int 1, .null, .int 0, .null, .long 0, .int 0, .null]))] := hD
  refine W.eq (g2 := F0 m 597 ls [.int 1]) rfl ?_
  refine lv_iload hx hb d_law_597 (lv_at hl 1 rfl) ?_
  refine lv_icmp_eq (tgt := 604) hx hb d_law_599 (by decide) (fun _ => ?_) (fun c9 => absurd (by decide +kernel) c9)
  refine lv_iload hx hb d_law_604 (lv_at hl 1 rfl) ?_
  refine lv_if_ne (tgt := 621) hx hb d_law_606 (by decide) (fun _ => ?_) (fun c9 => absurd c9 (by decide +kernel))
  refine lv_goto (tgt := 3072) hx hb d_law_621 (by decide) ?_
  refine W.widen (k := 600002) (n := 7302232) (Nat.le_of_ble_eq_true rfl) (Nat.le_of_ble_eq_true rfl) ?_
  exact ht H locs ls hS (lv_sub hl [2, 7] rfl)
set_option maxRecDepth 100000 in
set_option maxHeartbeats 4000000 in
theorem L5_0 (l : Launch) (hl0 : l.stackTraces = false) (z : Zz) {p : Program} {e : Env} {s : State} {m : MethodId} {below : List Frame} {meth : Method} {c : Code} {A : Nat → Prop} {b : Nat} {xs : Nat → Int32} {Q : State → Prop} (hx : p.tables.exec = Jvm.exec) (hb : c.code = code) (hml : c.maxLocals = 9) (hts : ∀ w ∈ WG, w.before #[Value.ref b] s = true) (hown : s.vm.findClass "BallothallLaw" = some m.cls) (hA : ∀ q, s.heap.size ≤ q → A q) (hG : KG z s) (hZ : XZ A s) (hX : va_X b 4 xs s s.heap) (hbl : b < s.heap.size) (hbA : ¬ A b) (ht : ∀ (H : Heap) (locs : List Loc) (ls : Array Slot), va_S A s.heap H locs → lv_has ls 9 [(0, .ref b), (5, .int 0)] → W p l e room_1 s m #[Value.ref b] below meth c H locs 600002 7302232 Q (F0 m 3072 ls [])) (a0 : Nat) (a1 : Nat) (a2 : Nat) (a3 : Nat) (a4 : Nat) (a5 : Nat) (a6 : Nat) (a7 : Nat) (a8 : Nat) (a9 : Nat) (a10 : Nat) (a11 : Nat) (a12 : Nat) (a13 : Nat) (a14 : Nat) (a15 : Nat) (a16 : Nat) (a17 : Nat) (a18 : Nat) (a19 : Nat) (a20 : Nat) (a21 : Nat) (a22 : Nat) (a23 : Nat) (a24 : Nat) (a25 : Nat) (a26 : Nat) (a27 : Nat) (a28 : Nat) (a29 : Nat) (a30 : Nat) (a31 : Nat) (a32 : Nat) (a33 : Nat) (a34 : Nat) (h0 : (xs 1) < 0) (H : Heap) (locs : List Loc) (ls : Array Slot) (hP : va_P z.1 classes [(a0, .inr (11, [.ref a4, .ref a5, .ref a6, .ref a7, .ref a8, .ref a9, .ref a10, .ref a11, .ref a12, .ref a13, .int 0, .int 0, .ref a14, .int 0])), (a4, .inr (0, [.ref a15, .int 0, .int 0, .int 0, .ref a16, .ref a17, .ref a18, .ref a19, .ref a20, .ref a21])), (a1, .inr (18, [.ref a22, .ref a23, .int 0, .ref a24, .int 0, .ref a25, .int 0, .null, .int 0, .null, .long 0, .int 0, .null])), (a22, .inr (17, [.int 0, .ref a26, .ref a27, .int 0, .ref a28, .ref a29, .ref a30, .null, .null, .int 0, .ref a31, .ref a32, .ref a33, .int 0, .ref a34, .int 1])), (a27, .inl (z.2 7, 0, .inr (.inr (.inr (.inr (fun _ => none))))))] H) (hD : va_D A [(a0, .inr (11, [.ref a4, .ref a5, .ref a6, .ref a7, .ref a8, .ref a9, .ref a10, .ref a11, .ref a12, .ref a13, .int 0, .int 0, .ref a14, .int 0])), (a4, .inr (0, [.ref a15, .int 0, .int 0, .int 0, .ref a16, .ref a17, .ref a18, .ref a19, .ref a20, .ref a21])), (a1, .inr (18, [.ref a22, .ref a23, .int 0, .ref a24, .int 0, .ref a25, .int 0, .null, .int 0, .null, .long 0, .int 0, .null])), (a22, .inr (17, [.int 0, .ref a26, .ref a27, .int 0, .ref a28, .ref a29, .ref a30, .null, .null, .int 0, .ref a31, .ref a32, .ref a33, .int 0, .ref a34, .int 1])), (a27, .inl (z.2 7, 0, .inr (.inr (.inr (.inr (fun _ => none))))))]) (hS : va_S A s.heap H locs) (hl : lv_has ls 9 [(0, .ref b), (1, .ref a0), (2, .ref a1), (3, .ref a2), (4, .ref a3), (5, .int 0)]) : W p l e room_1 s m #[Value.ref b] below meth c H locs 265 8866 Q (F0 m 44 ls [.int 5]) := by
  refine lv_tableIn (tgt := 624) hx hb d_law_44 (by decide +kernel) (by decide +kernel) rfl (by decide) ?_
  refine lv_aload_n hx hb d_law_624 rfl (lv_at hl 1 rfl) ?_
  refine lv_aload_n hx hb d_law_625 rfl (lv_at hl 0 rfl) ?_
  refine lv_iload hx hb d_law_626 (lv_at hl 5 rfl) ?_
  refine lv_iconst (v := 1) hx hb d_law_628 (by decide +kernel) ?_
  refine lv_iadd hx hb d_law_629 ?_
  refine nrm (x1 := 1) (by decide +kernel) ?_
  refine va_sld hx hb hX hbl hbA hS (hin4 (i := 1) rfl) d_law_630 ?_
  refine nrm (x1 := xs 1) rfl ?_
  refine lv_aload_n hx hb d_law_631 rfl (lv_at hl 3 rfl) ?_
  refine kH (As := [.ref a0, .int (xs 1), .ref a2]) (rest := []) (wr := [(a1, .inr (18, [.ref a22, .ref a23, .int 0, .ref a24, .int 0, .ref a25, .int 0, .null, .int 0, .null, .long 0, .int 0, .null])), (a22, .inr (17, [.int 0, .ref a26, .ref a27, .int 0, .ref a28, .ref a29, .ref a30, .null, .null, .int 0, .ref a31, .ref a32, .ref a33, .int 0, .ref a34, .int 1])), (a27, .inl (z.2 7, 0, .inr (.inr (.inr (.inr (fun _ => none))))))]) (c89_BLaw_countOf l z hl0 a0 a2 a4 a5 a6 a7 a8 a9 a10 a11 a12 a13 a14 a15 a16 a17 a18 a19 a20 a21 (xs 1) h0) hx hb hml hown hts w_950 w_948 w_949 w_0 md_170151 ⟨Nat.le_of_ble_eq_true rfl, Nat.le_of_ble_eq_true rfl⟩ hG hZ hP hD hS hA [0, 1] [2, 3, 4] rfl rfl rfl rfl rfl hl.1 rfl (Nat.le_of_ble_eq_true rfl) d_law_632 ⟨Nat.le_of_ble_eq_true rfl, Nat.le_of_ble_eq_true rfl⟩ (fun u0 H locs hP hD hS => ?_)
  have hP : va_P z.1 classes [(a1, .inr (18, [.ref a22, .ref a23, .int 0, .ref a24, .int 0, .ref a25, .int 0, .null, .int 0, .null, .long 0, .int 0, .null])), (a22, .inr (17, [.int 0, .ref a26, .ref a27, .int 0, .ref a28, .ref a29, .ref a30, .null, .null, .int 0, .ref a31, .ref a32, .ref a33, .int 0, .ref a34, .int 1])), (a27, .inl (z.2 7, 0, .inr (.inr (.inr (.inr (fun _ => none))))))] H := hP
  have hD : va_D A [(a1, .inr (18, [.ref a22, .ref a23, .int 0, .ref a24, .int 0, .ref a25, .int 0, .null, .int 0, .null, .long 0, .int 0, .null])), (a22, .inr (17, [.int 0, .ref a26, .ref a27, .int 0, .ref a28, .ref a29, .ref a30, .null, .null, .int 0, .ref a31, .ref a32, .ref a33, .int 0, .ref a34, .int 1])), (a27, .inl (z.2 7, 0, .inr (.inr (.inr (.inr (fun _ => none))))))] := hD
  refine W.eq (g2 := F0 m 635 ls [.int 1]) rfl ?_
  refine lv_istore (lv' := [(6, .int 1), (0, .ref b), (1, .ref a0), (2, .ref a1), (3, .ref a2), (4, .ref a3), (5, .int 0)]) hx hb d_law_635 hl (by decide) rfl (fun ls hl => ?_)
  refine lv_aload_n hx hb d_law_637 rfl (lv_at hl 3 rfl) ?_
  refine lv_aload_n hx hb d_law_638 rfl (lv_at hl 1 rfl) ?_
  refine lv_iload hx hb d_law_639 (lv_at hl 6 rfl) ?_
  refine lv_iconst (v := 1) hx hb d_law_641 (by decide +kernel) ?_
  refine lv_iadd hx hb d_law_642 ?_
  refine nrm (x1 := 1) (by decide +kernel) ?_
  refine va_sld hx hb hX hbl hbA hS (hin4 (i := 1) rfl) d_law_643 ?_
  refine nrm (x1 := xs 1) rfl ?_
  refine kV (As := [.int (xs 1)]) (rest := []) (wr := []) (c90_BModel_countOf l z a1 a22 a23 a24 a25 a26 a27 a28 a29 a30 a31 a32 a33 a34 (xs 1) h0) hx hb hml hown hts w_1792 w_1789 w_1790 w_1791 w_12 md_7201b3 ⟨Nat.le_of_ble_eq_true rfl, Nat.le_of_ble_eq_true rfl⟩ hG hZ hP hD hS hA 0 rfl rfl rfl [0, 1, 2] [] rfl rfl rfl rfl rfl hl.1 rfl (Nat.le_of_ble_eq_true rfl) d_law_644 ⟨Nat.le_of_ble_eq_true rfl, Nat.le_of_ble_eq_true rfl⟩ (fun u1 H locs hP hD hS => ?_)
  have hP : va_P z.1 classes [(a1, .inr (18, [.ref a22, .ref a23, .int 0, .ref a24, .int 0, .ref a25, .int 1, .null, .int 0, .null, .long 0, .int 0, .null])), (a22, .inr (17, [.int 0, .ref a26, .ref a27, .int 0, .ref a28, .ref a29, .ref a30, .null, .null, .int 0, .ref a31, .ref a32, .ref a33, .int 0, .ref a34, .int 1])), (a27, .inl (z.2 7, 0, .inr (.inr (.inr (.inr (fun _ => none))))))] H := hP
  have hD : va_D A [(a1, .inr (18, [.ref a22, .ref a23, .int 0, .ref a24, .int 0, .ref a25, .int 1, .null, .int 0, .null, .long 0, .int 0, .null])), (a22, .inr (17, [.int 0, .ref a26, .ref a27, .int 0, .ref a28, .ref a29, .ref a30, .null, .null, .int 0, .ref a31, .ref a32, .ref a33, .int 0, .ref a34, .int 1])), (a27, .inl (z.2 7, 0, .inr (.inr (.inr (.inr (fun _ => none))))))] := hD
  refine W.eq (g2 := F0 m 647 ls [.int 0]) rfl ?_
  refine lv_istore (lv' := [(7, .int 0), (6, .int 1), (0, .ref b), (1, .ref a0), (2, .ref a1), (3, .ref a2), (4, .ref a3), (5, .int 0)]) hx hb d_law_647 hl (by decide) rfl (fun ls hl => ?_)
  refine lv_aload_n hx hb d_law_649 rfl (lv_at hl 4 rfl) ?_
  refine kV (As := []) (rest := []) (wr := [(a22, .inr (17, [.int 0, .ref a26, .ref a27, .int 0, .ref a28, .ref a29, .ref a30, .null, .null, .int 0, .ref a31, .ref a32, .ref a33, .int 0, .ref a34, .int 1])), (a27, .inl (z.2 7, 0, .inr (.inr (.inr (.inr (fun _ => none))))))]) (c33_BModel_thrown l z a1 a22 a23 a24 a25) hx hb hml hown hts w_1688 w_1685 w_1686 w_1687 w_12 md_c48e0f ⟨Nat.le_of_ble_eq_true rfl, Nat.le_of_ble_eq_true rfl⟩ hG hZ hP hD hS hA 0 rfl rfl rfl [0] [1, 2] rfl rfl rfl rfl rfl hl.1 rfl (Nat.le_of_ble_eq_true rfl) d_law_650 ⟨Nat.le_of_ble_eq_true rfl, Nat.le_of_ble_eq_true rfl⟩ (fun u2 H locs hP hD hS => ?_)
  have hP : va_P z.1 classes [(a22, .inr (17, [.int 0, .ref a26, .ref a27, .int 0, .ref a28, .ref a29, .ref a30, .null, .null, .int 0, .ref a31, .ref a32, .ref a33, .int 0, .ref a34, .int 1])), (a27, .inl (z.2 7, 0, .inr (.inr (.inr (.inr (fun _ => none)))))), (a1, .inr (18, [.ref a22, .ref a23, .int 0, .ref a24, .int 0, .ref a25, .int 1, .null, .int 0, .null, .long 0, .int 0, .null]))] H := hP
  have hD : va_D A [(a22, .inr (17, [.int 0, .ref a26, .ref a27, .int 0, .ref a28, .ref a29, .ref a30, .null, .null, .int 0, .ref a31, .ref a32, .ref a33, .int 0, .ref a34, .int 1])), (a27, .inl (z.2 7, 0, .inr (.inr (.inr (.inr (fun _ => none)))))), (a1, .inr (18, [.ref a22, .ref a23, .int 0, .ref a24, .int 0, .ref a25, .int 1, .null, .int 0, .null, .long 0, .int 0, .null]))] := hD
  refine W.eq (g2 := F0 m 653 ls [.int 1]) rfl ?_
  refine lv_iload hx hb d_law_653 (lv_at hl 1 rfl) ?_
  refine lv_icmp_eq (tgt := 660) hx hb d_law_655 (by decide) (fun _ => ?_) (fun c9 => absurd (by decide +kernel) c9)
  refine lv_iload hx hb d_law_660 (lv_at hl 1 rfl) ?_
  refine lv_if_ne (tgt := 677) hx hb d_law_662 (by decide) (fun _ => ?_) (fun c9 => absurd c9 (by decide +kernel))
  refine lv_goto (tgt := 3072) hx hb d_law_677 (by decide) ?_
  refine W.widen (k := 600002) (n := 7302232) (Nat.le_of_ble_eq_true rfl) (Nat.le_of_ble_eq_true rfl) ?_
  exact ht H locs ls hS (lv_sub hl [2, 7] rfl)
set_option maxRecDepth 100000 in
set_option maxHeartbeats 4000000 in
theorem L5_1 (l : Launch) (hl0 : l.stackTraces = false) (z : Zz) {p : Program} {e : Env} {s : State} {m : MethodId} {below : List Frame} {meth : Method} {c : Code} {A : Nat → Prop} {b : Nat} {xs : Nat → Int32} {Q : State → Prop} (hx : p.tables.exec = Jvm.exec) (hb : c.code = code) (hml : c.maxLocals = 9) (hts : ∀ w ∈ WG, w.before #[Value.ref b] s = true) (hown : s.vm.findClass "BallothallLaw" = some m.cls) (hA : ∀ q, s.heap.size ≤ q → A q) (hG : KG z s) (hZ : XZ A s) (hX : va_X b 4 xs s s.heap) (hbl : b < s.heap.size) (hbA : ¬ A b) (ht : ∀ (H : Heap) (locs : List Loc) (ls : Array Slot), va_S A s.heap H locs → lv_has ls 9 [(0, .ref b), (5, .int 0)] → W p l e room_1 s m #[Value.ref b] below meth c H locs 600002 7302232 Q (F0 m 3072 ls [])) (a0 : Nat) (a1 : Nat) (a2 : Nat) (a3 : Nat) (a4 : Nat) (a5 : Nat) (a6 : Nat) (a7 : Nat) (a8 : Nat) (a9 : Nat) (a10 : Nat) (a11 : Nat) (a12 : Nat) (a13 : Nat) (a14 : Nat) (a15 : Nat) (a16 : Nat) (a17 : Nat) (a18 : Nat) (a19 : Nat) (a20 : Nat) (a21 : Nat) (a22 : Nat) (a23 : Nat) (a24 : Nat) (a25 : Nat) (a26 : Nat) (a27 : Nat) (a28 : Nat) (a29 : Nat) (a30 : Nat) (a31 : Nat) (a32 : Nat) (a33 : Nat) (a34 : Nat) (h0 : ¬ (xs 1) < 0) (h1 : (-1) < (xs 1)) (H : Heap) (locs : List Loc) (ls : Array Slot) (hP : va_P z.1 classes [(a0, .inr (11, [.ref a4, .ref a5, .ref a6, .ref a7, .ref a8, .ref a9, .ref a10, .ref a11, .ref a12, .ref a13, .int 0, .int 0, .ref a14, .int 0])), (a4, .inr (0, [.ref a15, .int 0, .int 0, .int 0, .ref a16, .ref a17, .ref a18, .ref a19, .ref a20, .ref a21])), (a1, .inr (18, [.ref a22, .ref a23, .int 0, .ref a24, .int 0, .ref a25, .int 0, .null, .int 0, .null, .long 0, .int 0, .null])), (a22, .inr (17, [.int 0, .ref a26, .ref a27, .int 0, .ref a28, .ref a29, .ref a30, .null, .null, .int 0, .ref a31, .ref a32, .ref a33, .int 0, .ref a34, .int 1])), (a27, .inl (z.2 7, 0, .inr (.inr (.inr (.inr (fun _ => none))))))] H) (hD : va_D A [(a0, .inr (11, [.ref a4, .ref a5, .ref a6, .ref a7, .ref a8, .ref a9, .ref a10, .ref a11, .ref a12, .ref a13, .int 0, .int 0, .ref a14, .int 0])), (a4, .inr (0, [.ref a15, .int 0, .int 0, .int 0, .ref a16, .ref a17, .ref a18, .ref a19, .ref a20, .ref a21])), (a1, .inr (18, [.ref a22, .ref a23, .int 0, .ref a24, .int 0, .ref a25, .int 0, .null, .int 0, .null, .long 0, .int 0, .null])), (a22, .inr (17, [.int 0, .ref a26, .ref a27, .int 0, .ref a28, .ref a29, .ref a30, .null, .null, .int 0, .ref a31, .ref a32, .ref a33, .int 0, .ref a34, .int 1])), (a27, .inl (z.2 7, 0, .inr (.inr (.inr (.inr (fun _ => none))))))]) (hS : va_S A s.heap H locs) (hl : lv_has ls 9 [(0, .ref b), (1, .ref a0), (2, .ref a1), (3, .ref a2), (4, .ref a3), (5, .int 0)]) : W p l e room_1 s m #[Value.ref b] below meth c H locs 265 8866 Q (F0 m 44 ls [.int 5]) := by
  refine lv_tableIn (tgt := 624) hx hb d_law_44 (by decide +kernel) (by decide +kernel) rfl (by decide) ?_
  refine lv_aload_n hx hb d_law_624 rfl (lv_at hl 1 rfl) ?_
  refine lv_aload_n hx hb d_law_625 rfl (lv_at hl 0 rfl) ?_
  refine lv_iload hx hb d_law_626 (lv_at hl 5 rfl) ?_
  refine lv_iconst (v := 1) hx hb d_law_628 (by decide +kernel) ?_
  refine lv_iadd hx hb d_law_629 ?_
  refine nrm (x1 := 1) (by decide +kernel) ?_
  refine va_sld hx hb hX hbl hbA hS (hin4 (i := 1) rfl) d_law_630 ?_
  refine nrm (x1 := xs 1) rfl ?_
  refine lv_aload_n hx hb d_law_631 rfl (lv_at hl 3 rfl) ?_
  refine kH (As := [.ref a0, .int (xs 1), .ref a2]) (rest := []) (wr := [(a1, .inr (18, [.ref a22, .ref a23, .int 0, .ref a24, .int 0, .ref a25, .int 0, .null, .int 0, .null, .long 0, .int 0, .null])), (a22, .inr (17, [.int 0, .ref a26, .ref a27, .int 0, .ref a28, .ref a29, .ref a30, .null, .null, .int 0, .ref a31, .ref a32, .ref a33, .int 0, .ref a34, .int 1])), (a27, .inl (z.2 7, 0, .inr (.inr (.inr (.inr (fun _ => none))))))]) (c92_BLaw_countOf l z hl0 a0 a2 a4 a5 a6 a7 a8 a9 a10 a11 a12 a13 a14 a15 a16 a17 a18 a19 a20 a21 (xs 1) h0) hx hb hml hown hts w_950 w_948 w_949 w_0 md_170151 ⟨Nat.le_of_ble_eq_true rfl, Nat.le_of_ble_eq_true rfl⟩ hG hZ hP hD hS hA [0, 1] [2, 3, 4] rfl rfl rfl rfl rfl hl.1 rfl (Nat.le_of_ble_eq_true rfl) d_law_632 ⟨Nat.le_of_ble_eq_true rfl, Nat.le_of_ble_eq_true rfl⟩ (fun u0 H locs hP hD hS => ?_)
  have hP : va_P z.1 classes [(a1, .inr (18, [.ref a22, .ref a23, .int 0, .ref a24, .int 0, .ref a25, .int 0, .null, .int 0, .null, .long 0, .int 0, .null])), (a22, .inr (17, [.int 0, .ref a26, .ref a27, .int 0, .ref a28, .ref a29, .ref a30, .null, .null, .int 0, .ref a31, .ref a32, .ref a33, .int 0, .ref a34, .int 1])), (a27, .inl (z.2 7, 0, .inr (.inr (.inr (.inr (fun _ => none))))))] H := hP
  have hD : va_D A [(a1, .inr (18, [.ref a22, .ref a23, .int 0, .ref a24, .int 0, .ref a25, .int 0, .null, .int 0, .null, .long 0, .int 0, .null])), (a22, .inr (17, [.int 0, .ref a26, .ref a27, .int 0, .ref a28, .ref a29, .ref a30, .null, .null, .int 0, .ref a31, .ref a32, .ref a33, .int 0, .ref a34, .int 1])), (a27, .inl (z.2 7, 0, .inr (.inr (.inr (.inr (fun _ => none))))))] := hD
  refine W.eq (g2 := F0 m 635 ls [.int 1]) rfl ?_
  refine lv_istore (lv' := [(6, .int 1), (0, .ref b), (1, .ref a0), (2, .ref a1), (3, .ref a2), (4, .ref a3), (5, .int 0)]) hx hb d_law_635 hl (by decide) rfl (fun ls hl => ?_)
  refine lv_aload_n hx hb d_law_637 rfl (lv_at hl 3 rfl) ?_
  refine lv_aload_n hx hb d_law_638 rfl (lv_at hl 1 rfl) ?_
  refine lv_iload hx hb d_law_639 (lv_at hl 6 rfl) ?_
  refine lv_iconst (v := 1) hx hb d_law_641 (by decide +kernel) ?_
  refine lv_iadd hx hb d_law_642 ?_
  refine nrm (x1 := 1) (by decide +kernel) ?_
  refine va_sld hx hb hX hbl hbA hS (hin4 (i := 1) rfl) d_law_643 ?_
  refine nrm (x1 := xs 1) rfl ?_
  refine kV (As := [.int (xs 1)]) (rest := []) (wr := []) (c93_BModel_countOf l z a1 a22 a23 a24 a25 a26 a27 a28 a29 a30 a31 a32 a33 a34 (xs 1) h0 h1) hx hb hml hown hts w_1792 w_1789 w_1790 w_1791 w_12 md_7201b3 ⟨Nat.le_of_ble_eq_true rfl, Nat.le_of_ble_eq_true rfl⟩ hG hZ hP hD hS hA 0 rfl rfl rfl [0, 1, 2] [] rfl rfl rfl rfl rfl hl.1 rfl (Nat.le_of_ble_eq_true rfl) d_law_644 ⟨Nat.le_of_ble_eq_true rfl, Nat.le_of_ble_eq_true rfl⟩ (fun u1 H locs hP hD hS => ?_)
  have hP : va_P z.1 classes [(a1, .inr (18, [.ref a22, .ref a23, .int 0, .ref a24, .int 0, .ref a25, .int 1, .null, .int 0, .null, .long 0, .int 0, .null])), (a22, .inr (17, [.int 0, .ref a26, .ref a27, .int 0, .ref a28, .ref a29, .ref a30, .null, .null, .int 0, .ref a31, .ref a32, .ref a33, .int 0, .ref a34, .int 1])), (a27, .inl (z.2 7, 0, .inr (.inr (.inr (.inr (fun _ => none))))))] H := hP
  have hD : va_D A [(a1, .inr (18, [.ref a22, .ref a23, .int 0, .ref a24, .int 0, .ref a25, .int 1, .null, .int 0, .null, .long 0, .int 0, .null])), (a22, .inr (17, [.int 0, .ref a26, .ref a27, .int 0, .ref a28, .ref a29, .ref a30, .null, .null, .int 0, .ref a31, .ref a32, .ref a33, .int 0, .ref a34, .int 1])), (a27, .inl (z.2 7, 0, .inr (.inr (.inr (.inr (fun _ => none))))))] := hD
  refine W.eq (g2 := F0 m 647 ls [.int 0]) rfl ?_
  refine lv_istore (lv' := [(7, .int 0), (6, .int 1), (0, .ref b), (1, .ref a0), (2, .ref a1), (3, .ref a2), (4, .ref a3), (5, .int 0)]) hx hb d_law_647 hl (by decide) rfl (fun ls hl => ?_)
  refine lv_aload_n hx hb d_law_649 rfl (lv_at hl 4 rfl) ?_
  refine kV (As := []) (rest := []) (wr := [(a22, .inr (17, [.int 0, .ref a26, .ref a27, .int 0, .ref a28, .ref a29, .ref a30, .null, .null, .int 0, .ref a31, .ref a32, .ref a33, .int 0, .ref a34, .int 1])), (a27, .inl (z.2 7, 0, .inr (.inr (.inr (.inr (fun _ => none))))))]) (c33_BModel_thrown l z a1 a22 a23 a24 a25) hx hb hml hown hts w_1688 w_1685 w_1686 w_1687 w_12 md_c48e0f ⟨Nat.le_of_ble_eq_true rfl, Nat.le_of_ble_eq_true rfl⟩ hG hZ hP hD hS hA 0 rfl rfl rfl [0] [1, 2] rfl rfl rfl rfl rfl hl.1 rfl (Nat.le_of_ble_eq_true rfl) d_law_650 ⟨Nat.le_of_ble_eq_true rfl, Nat.le_of_ble_eq_true rfl⟩ (fun u2 H locs hP hD hS => ?_)
  have hP : va_P z.1 classes [(a22, .inr (17, [.int 0, .ref a26, .ref a27, .int 0, .ref a28, .ref a29, .ref a30, .null, .null, .int 0, .ref a31, .ref a32, .ref a33, .int 0, .ref a34, .int 1])), (a27, .inl (z.2 7, 0, .inr (.inr (.inr (.inr (fun _ => none)))))), (a1, .inr (18, [.ref a22, .ref a23, .int 0, .ref a24, .int 0, .ref a25, .int 1, .null, .int 0, .null, .long 0, .int 0, .null]))] H := hP
  have hD : va_D A [(a22, .inr (17, [.int 0, .ref a26, .ref a27, .int 0, .ref a28, .ref a29, .ref a30, .null, .null, .int 0, .ref a31, .ref a32, .ref a33, .int 0, .ref a34, .int 1])), (a27, .inl (z.2 7, 0, .inr (.inr (.inr (.inr (fun _ => none)))))), (a1, .inr (18, [.ref a22, .ref a23, .int 0, .ref a24, .int 0, .ref a25, .int 1, .null, .int 0, .null, .long 0, .int 0, .null]))] := hD
  refine W.eq (g2 := F0 m 653 ls [.int 1]) rfl ?_
  refine lv_iload hx hb d_law_653 (lv_at hl 1 rfl) ?_
  refine lv_icmp_eq (tgt := 660) hx hb d_law_655 (by decide) (fun _ => ?_) (fun c9 => absurd (by decide +kernel) c9)
  refine lv_iload hx hb d_law_660 (lv_at hl 1 rfl) ?_
  refine lv_if_ne (tgt := 677) hx hb d_law_662 (by decide) (fun _ => ?_) (fun c9 => absurd c9 (by decide +kernel))
  refine lv_goto (tgt := 3072) hx hb d_law_677 (by decide) ?_
  refine W.widen (k := 600002) (n := 7302232) (Nat.le_of_ble_eq_true rfl) (Nat.le_of_ble_eq_true rfl) ?_
  exact ht H locs ls hS (lv_sub hl [2, 7] rfl)
set_option maxRecDepth 100000 in
set_option maxHeartbeats 4000000 in
theorem L6_0 (l : Launch) (hl0 : l.stackTraces = false) (z : Zz) {p : Program} {e : Env} {s : State} {m : MethodId} {below : List Frame} {meth : Method} {c : Code} {A : Nat → Prop} {b : Nat} {xs : Nat → Int32} {Q : State → Prop} (hx : p.tables.exec = Jvm.exec) (hb : c.code = code) (hml : c.maxLocals = 9) (hts : ∀ w ∈ WG, w.before #[Value.ref b] s = true) (hown : s.vm.findClass "BallothallLaw" = some m.cls) (hA : ∀ q, s.heap.size ≤ q → A q) (hG : KG z s) (hZ : XZ A s) (hX : va_X b 4 xs s s.heap) (hbl : b < s.heap.size) (hbA : ¬ A b) (ht : ∀ (H : Heap) (locs : List Loc) (ls : Array Slot), va_S A s.heap H locs → lv_has ls 9 [(0, .ref b), (5, .int 0)] → W p l e room_1 s m #[Value.ref b] below meth c H locs 600002 7302232 Q (F0 m 3072 ls [])) (a0 : Nat) (a1 : Nat) (a2 : Nat) (a3 : Nat) (a4 : Nat) (a5 : Nat) (a6 : Nat) (a7 : Nat) (a8 : Nat) (a9 : Nat) (a10 : Nat) (a11 : Nat) (a12 : Nat) (a13 : Nat) (a14 : Nat) (a15 : Nat) (a16 : Nat) (a17 : Nat) (a18 : Nat) (a19 : Nat) (a20 : Nat) (a21 : Nat) (a22 : Nat) (a23 : Nat) (a24 : Nat) (a25 : Nat) (a26 : Nat) (a27 : Nat) (a28 : Nat) (a29 : Nat) (a30 : Nat) (a31 : Nat) (a32 : Nat) (a33 : Nat) (a34 : Nat) (h0 : (xs 3) = 0) (h1 : (xs 1) < 0) (H : Heap) (locs : List Loc) (ls : Array Slot) (hP : va_P z.1 classes [(a0, .inr (11, [.ref a4, .ref a5, .ref a6, .ref a7, .ref a8, .ref a9, .ref a10, .ref a11, .ref a12, .ref a13, .int 0, .int 0, .ref a14, .int 0])), (a4, .inr (0, [.ref a15, .int 0, .int 0, .int 0, .ref a16, .ref a17, .ref a18, .ref a19, .ref a20, .ref a21])), (a1, .inr (18, [.ref a22, .ref a23, .int 0, .ref a24, .int 0, .ref a25, .int 0, .null, .int 0, .null, .long 0, .int 0, .null])), (a22, .inr (17, [.int 0, .ref a26, .ref a27, .int 0, .ref a28, .ref a29, .ref a30, .null, .null, .int 0, .ref a31, .ref a32, .ref a33, .int 0, .ref a34, .int 1])), (a27, .inl (z.2 7, 0, .inr (.inr (.inr (.inr (fun _ => none))))))] H) (hD : va_D A [(a0, .inr (11, [.ref a4, .ref a5, .ref a6, .ref a7, .ref a8, .ref a9, .ref a10, .ref a11, .ref a12, .ref a13, .int 0, .int 0, .ref a14, .int 0])), (a4, .inr (0, [.ref a15, .int 0, .int 0, .int 0, .ref a16, .ref a17, .ref a18, .ref a19, .ref a20, .ref a21])), (a1, .inr (18, [.ref a22, .ref a23, .int 0, .ref a24, .int 0, .ref a25, .int 0, .null, .int 0, .null, .long 0, .int 0, .null])), (a22, .inr (17, [.int 0, .ref a26, .ref a27, .int 0, .ref a28, .ref a29, .ref a30, .null, .null, .int 0, .ref a31, .ref a32, .ref a33, .int 0, .ref a34, .int 1])), (a27, .inl (z.2 7, 0, .inr (.inr (.inr (.inr (fun _ => none))))))]) (hS : va_S A s.heap H locs) (hl : lv_has ls 9 [(0, .ref b), (1, .ref a0), (2, .ref a1), (3, .ref a2), (4, .ref a3), (5, .int 0)]) : W p l e room_1 s m #[Value.ref b] below meth c H locs 265 8866 Q (F0 m 44 ls [.int 6]) := by
  refine lv_tableIn (tgt := 680) hx hb d_law_44 (by decide +kernel) (by decide +kernel) rfl (by decide) ?_
  refine lv_aload_n hx hb d_law_680 rfl (lv_at hl 1 rfl) ?_
  refine lv_aload_n hx hb d_law_681 rfl (lv_at hl 0 rfl) ?_
  refine lv_iload hx hb d_law_682 (lv_at hl 5 rfl) ?_
  refine lv_iconst (v := 1) hx hb d_law_684 (by decide +kernel) ?_
  refine lv_iadd hx hb d_law_685 ?_
  refine nrm (x1 := 1) (by decide +kernel) ?_
  refine va_sld hx hb hX hbl hbA hS (hin4 (i := 1) rfl) d_law_686 ?_
  refine nrm (x1 := xs 1) rfl ?_
  refine lv_aload_n hx hb d_law_687 rfl (lv_at hl 0 rfl) ?_
  refine lv_iload hx hb d_law_688 (lv_at hl 5 rfl) ?_
  refine lv_iconst (v := 2) hx hb d_law_690 (by decide +kernel) ?_
  refine lv_iadd hx hb d_law_691 ?_
  refine nrm (x1 := 2) (by decide +kernel) ?_
  refine va_sld hx hb hX hbl hbA hS (hin4 (i := 2) rfl) d_law_692 ?_
  refine nrm (x1 := xs 2) rfl ?_
  refine lv_aload_n hx hb d_law_693 rfl (lv_at hl 0 rfl) ?_
  refine lv_iload hx hb d_law_694 (lv_at hl 5 rfl) ?_
  refine lv_iconst (v := 3) hx hb d_law_696 (by decide +kernel) ?_
  refine lv_iadd hx hb d_law_697 ?_
  refine nrm (x1 := 3) (by decide +kernel) ?_
  refine va_sld hx hb hX hbl hbA hS (hin4 (i := 3) rfl) d_law_698 ?_
  refine nrm (x1 := xs 3) rfl ?_
  refine lv_if_eq (tgt := 706) hx hb d_law_699 (by decide) (fun _ => ?_) (fun c9 => absurd h0 c9)
  refine lv_iconst (v := 0) hx hb d_law_706 (by decide +kernel) ?_
  refine lv_aload_n hx hb d_law_707 rfl (lv_at hl 3 rfl) ?_
  refine kH (As := [.ref a0, .int (xs 1), .int (xs 2), .int 0, .ref a2]) (rest := []) (wr := [(a1, .inr (18, [.ref a22, .ref a23, .int 0, .ref a24, .int 0, .ref a25, .int 0, .null, .int 0, .null, .long 0, .int 0, .null])), (a22, .inr (17, [.int 0, .ref a26, .ref a27, .int 0, .ref a28, .ref a29, .ref a30, .null, .null, .int 0, .ref a31, .ref a32, .ref a33, .int 0, .ref a34, .int 1])), (a27, .inl (z.2 7, 0, .inr (.inr (.inr (.inr (fun _ => none))))))]) (c95_BLaw_kindAt l z hl0 a0 a2 a4 a5 a6 a7 a8 a9 a10 a11 a12 a13 a14 a15 a16 a17 a18 a19 a20 a21 (xs 1) (xs 2) h1) hx hb hml hown hts w_957 w_955 w_956 w_0 md_c97f81 ⟨Nat.le_of_ble_eq_true rfl, Nat.le_of_ble_eq_true rfl⟩ hG hZ hP hD hS hA [0, 1] [2, 3, 4] rfl rfl rfl rfl rfl hl.1 rfl (Nat.le_of_ble_eq_true rfl) d_law_708 ⟨Nat.le_of_ble_eq_true rfl, Nat.le_of_ble_eq_true rfl⟩ (fun u0 H locs hP hD hS => ?_)
  have hP : va_P z.1 classes [(a1, .inr (18, [.ref a22, .ref a23, .int 0, .ref a24, .int 0, .ref a25, .int 0, .null, .int 0, .null, .long 0, .int 0, .null])), (a22, .inr (17, [.int 0, .ref a26, .ref a27, .int 0, .ref a28, .ref a29, .ref a30, .null, .null, .int 0, .ref a31, .ref a32, .ref a33, .int 0, .ref a34, .int 1])), (a27, .inl (z.2 7, 0, .inr (.inr (.inr (.inr (fun _ => none))))))] H := hP
  have hD : va_D A [(a1, .inr (18, [.ref a22, .ref a23, .int 0, .ref a24, .int 0, .ref a25, .int 0, .null, .int 0, .null, .long 0, .int 0, .null])), (a22, .inr (17, [.int 0, .ref a26, .ref a27, .int 0, .ref a28, .ref a29, .ref a30, .null, .null, .int 0, .ref a31, .ref a32, .ref a33, .int 0, .ref a34, .int 1])), (a27, .inl (z.2 7, 0, .inr (.inr (.inr (.inr (fun _ => none))))))] := hD
  refine W.eq (g2 := F0 m 711 ls [.int 1]) rfl ?_
  refine lv_istore (lv' := [(6, .int 1), (0, .ref b), (1, .ref a0), (2, .ref a1), (3, .ref a2), (4, .ref a3), (5, .int 0)]) hx hb d_law_711 hl (by decide) rfl (fun ls hl => ?_)
  refine lv_aload_n hx hb d_law_713 rfl (lv_at hl 3 rfl) ?_
  refine lv_aload_n hx hb d_law_714 rfl (lv_at hl 1 rfl) ?_
  refine lv_iload hx hb d_law_715 (lv_at hl 6 rfl) ?_
  refine lv_iconst (v := 1) hx hb d_law_717 (by decide +kernel) ?_
  refine lv_iadd hx hb d_law_718 ?_
  refine nrm (x1 := 1) (by decide +kernel) ?_
  refine va_sld hx hb hX hbl hbA hS (hin4 (i := 1) rfl) d_law_719 ?_
  refine nrm (x1 := xs 1) rfl ?_
  refine lv_aload_n hx hb d_law_720 rfl (lv_at hl 1 rfl) ?_
  refine lv_iload hx hb d_law_721 (lv_at hl 6 rfl) ?_
  refine lv_iconst (v := 2) hx hb d_law_723 (by decide +kernel) ?_
  refine lv_iadd hx hb d_law_724 ?_
  refine nrm (x1 := 2) (by decide +kernel) ?_
  refine va_sld hx hb hX hbl hbA hS (hin4 (i := 2) rfl) d_law_725 ?_
  refine nrm (x1 := xs 2) rfl ?_
  refine lv_aload_n hx hb d_law_726 rfl (lv_at hl 1 rfl) ?_
  refine lv_iload hx hb d_law_727 (lv_at hl 6 rfl) ?_
  refine lv_iconst (v := 3) hx hb d_law_729 (by decide +kernel) ?_
  refine lv_iadd hx hb d_law_730 ?_
  refine nrm (x1 := 3) (by decide +kernel) ?_
  refine va_sld hx hb hX hbl hbA hS (hin4 (i := 3) rfl) d_law_731 ?_
  refine nrm (x1 := xs 3) rfl ?_
  refine lv_if_eq (tgt := 739) hx hb d_law_732 (by decide) (fun _ => ?_) (fun c9 => absurd h0 c9)
  refine lv_iconst (v := 0) hx hb d_law_739 (by decide +kernel) ?_
  refine kV (As := [.int (xs 1), .int (xs 2), .int 0]) (rest := []) (wr := []) (c96_BModel_kindAt l z a1 a22 a23 a24 a25 a26 a27 a28 a29 a30 a31 a32 a33 a34 (xs 1) (xs 2) h1) hx hb hml hown hts w_1796 w_1793 w_1794 w_1795 w_12 md_762f31 ⟨Nat.le_of_ble_eq_true rfl, Nat.le_of_ble_eq_true rfl⟩ hG hZ hP hD hS hA 0 rfl rfl rfl [0, 1, 2] [] rfl rfl rfl rfl rfl hl.1 rfl (Nat.le_of_ble_eq_true rfl) d_law_740 ⟨Nat.le_of_ble_eq_true rfl, Nat.le_of_ble_eq_true rfl⟩ (fun u1 H locs hP hD hS => ?_)
  have hP : va_P z.1 classes [(a1, .inr (18, [.ref a22, .ref a23, .int 0, .ref a24, .int 0, .ref a25, .int 1, .null, .int 0, .null, .long 0, .int 0, .null])), (a22, .inr (17, [.int 0, .ref a26, .ref a27, .int 0, .ref a28, .ref a29, .ref a30, .null, .null, .int 0, .ref a31, .ref a32, .ref a33, .int 0, .ref a34, .int 1])), (a27, .inl (z.2 7, 0, .inr (.inr (.inr (.inr (fun _ => none))))))] H := hP
  have hD : va_D A [(a1, .inr (18, [.ref a22, .ref a23, .int 0, .ref a24, .int 0, .ref a25, .int 1, .null, .int 0, .null, .long 0, .int 0, .null])), (a22, .inr (17, [.int 0, .ref a26, .ref a27, .int 0, .ref a28, .ref a29, .ref a30, .null, .null, .int 0, .ref a31, .ref a32, .ref a33, .int 0, .ref a34, .int 1])), (a27, .inl (z.2 7, 0, .inr (.inr (.inr (.inr (fun _ => none))))))] := hD
  refine W.eq (g2 := F0 m 743 ls [.int 0]) rfl ?_
  refine lv_istore (lv' := [(7, .int 0), (6, .int 1), (0, .ref b), (1, .ref a0), (2, .ref a1), (3, .ref a2), (4, .ref a3), (5, .int 0)]) hx hb d_law_743 hl (by decide) rfl (fun ls hl => ?_)
  refine lv_aload_n hx hb d_law_745 rfl (lv_at hl 4 rfl) ?_
  refine kV (As := []) (rest := []) (wr := [(a22, .inr (17, [.int 0, .ref a26, .ref a27, .int 0, .ref a28, .ref a29, .ref a30, .null, .null, .int 0, .ref a31, .ref a32, .ref a33, .int 0, .ref a34, .int 1])), (a27, .inl (z.2 7, 0, .inr (.inr (.inr (.inr (fun _ => none))))))]) (c33_BModel_thrown l z a1 a22 a23 a24 a25) hx hb hml hown hts w_1688 w_1685 w_1686 w_1687 w_12 md_c48e0f ⟨Nat.le_of_ble_eq_true rfl, Nat.le_of_ble_eq_true rfl⟩ hG hZ hP hD hS hA 0 rfl rfl rfl [0] [1, 2] rfl rfl rfl rfl rfl hl.1 rfl (Nat.le_of_ble_eq_true rfl) d_law_746 ⟨Nat.le_of_ble_eq_true rfl, Nat.le_of_ble_eq_true rfl⟩ (fun u2 H locs hP hD hS => ?_)
  have hP : va_P z.1 classes [(a22, .inr (17, [.int 0, .ref a26, .ref a27, .int 0, .ref a28, .ref a29, .ref a30, .null, .null, .int 0, .ref a31, .ref a32, .ref a33, .int 0, .ref a34, .int 1])), (a27, .inl (z.2 7, 0, .inr (.inr (.inr (.inr (fun _ => none)))))), (a1, .inr (18, [.ref a22, .ref a23, .int 0, .ref a24, .int 0, .ref a25, .int 1, .null, .int 0, .null, .long 0, .int 0, .null]))] H := hP
  have hD : va_D A [(a22, .inr (17, [.int 0, .ref a26, .ref a27, .int 0, .ref a28, .ref a29, .ref a30, .null, .null, .int 0, .ref a31, .ref a32, .ref a33, .int 0, .ref a34, .int 1])), (a27, .inl (z.2 7, 0, .inr (.inr (.inr (.inr (fun _ => none)))))), (a1, .inr (18, [.ref a22, .ref a23, .int 0, .ref a24, .int 0, .ref a25, .int 1, .null, .int 0, .null, .long 0, .int 0, .null]))] := hD
  refine W.eq (g2 := F0 m 749 ls [.int 1]) rfl ?_
  refine lv_iload hx hb d_law_749 (lv_at hl 1 rfl) ?_
  refine lv_icmp_eq (tgt := 756) hx hb d_law_751 (by decide) (fun _ => ?_) (fun c9 => absurd (by decide +kernel) c9)
  refine lv_iload hx hb d_law_756 (lv_at hl 1 rfl) ?_
  refine lv_if_ne (tgt := 773) hx hb d_law_758 (by decide) (fun _ => ?_) (fun c9 => absurd c9 (by decide +kernel))
  refine lv_goto (tgt := 3072) hx hb d_law_773 (by decide) ?_
  refine W.widen (k := 600002) (n := 7302232) (Nat.le_of_ble_eq_true rfl) (Nat.le_of_ble_eq_true rfl) ?_
  exact ht H locs ls hS (lv_sub hl [2, 7] rfl)
set_option maxRecDepth 100000 in
set_option maxHeartbeats 4000000 in
theorem L6_1 (l : Launch) (hl0 : l.stackTraces = false) (z : Zz) {p : Program} {e : Env} {s : State} {m : MethodId} {below : List Frame} {meth : Method} {c : Code} {A : Nat → Prop} {b : Nat} {xs : Nat → Int32} {Q : State → Prop} (hx : p.tables.exec = Jvm.exec) (hb : c.code = code) (hml : c.maxLocals = 9) (hts : ∀ w ∈ WG, w.before #[Value.ref b] s = true) (hown : s.vm.findClass "BallothallLaw" = some m.cls) (hA : ∀ q, s.heap.size ≤ q → A q) (hG : KG z s) (hZ : XZ A s) (hX : va_X b 4 xs s s.heap) (hbl : b < s.heap.size) (hbA : ¬ A b) (ht : ∀ (H : Heap) (locs : List Loc) (ls : Array Slot), va_S A s.heap H locs → lv_has ls 9 [(0, .ref b), (5, .int 0)] → W p l e room_1 s m #[Value.ref b] below meth c H locs 600002 7302232 Q (F0 m 3072 ls [])) (a0 : Nat) (a1 : Nat) (a2 : Nat) (a3 : Nat) (a4 : Nat) (a5 : Nat) (a6 : Nat) (a7 : Nat) (a8 : Nat) (a9 : Nat) (a10 : Nat) (a11 : Nat) (a12 : Nat) (a13 : Nat) (a14 : Nat) (a15 : Nat) (a16 : Nat) (a17 : Nat) (a18 : Nat) (a19 : Nat) (a20 : Nat) (a21 : Nat) (a22 : Nat) (a23 : Nat) (a24 : Nat) (a25 : Nat) (a26 : Nat) (a27 : Nat) (a28 : Nat) (a29 : Nat) (a30 : Nat) (a31 : Nat) (a32 : Nat) (a33 : Nat) (a34 : Nat) (h0 : (xs 3) = 0) (h1 : ¬ (xs 1) < 0) (h2 : (-1) < (xs 1)) (H : Heap) (locs : List Loc) (ls : Array Slot) (hP : va_P z.1 classes [(a0, .inr (11, [.ref a4, .ref a5, .ref a6, .ref a7, .ref a8, .ref a9, .ref a10, .ref a11, .ref a12, .ref a13, .int 0, .int 0, .ref a14, .int 0])), (a4, .inr (0, [.ref a15, .int 0, .int 0, .int 0, .ref a16, .ref a17, .ref a18, .ref a19, .ref a20, .ref a21])), (a1, .inr (18, [.ref a22, .ref a23, .int 0, .ref a24, .int 0, .ref a25, .int 0, .null, .int 0, .null, .long 0, .int 0, .null])), (a22, .inr (17, [.int 0, .ref a26, .ref a27, .int 0, .ref a28, .ref a29, .ref a30, .null, .null, .int 0, .ref a31, .ref a32, .ref a33, .int 0, .ref a34, .int 1])), (a27, .inl (z.2 7, 0, .inr (.inr (.inr (.inr (fun _ => none))))))] H) (hD : va_D A [(a0, .inr (11, [.ref a4, .ref a5, .ref a6, .ref a7, .ref a8, .ref a9, .ref a10, .ref a11, .ref a12, .ref a13, .int 0, .int 0, .ref a14, .int 0])), (a4, .inr (0, [.ref a15, .int 0, .int 0, .int 0, .ref a16, .ref a17, .ref a18, .ref a19, .ref a20, .ref a21])), (a1, .inr (18, [.ref a22, .ref a23, .int 0, .ref a24, .int 0, .ref a25, .int 0, .null, .int 0, .null, .long 0, .int 0, .null])), (a22, .inr (17, [.int 0, .ref a26, .ref a27, .int 0, .ref a28, .ref a29, .ref a30, .null, .null, .int 0, .ref a31, .ref a32, .ref a33, .int 0, .ref a34, .int 1])), (a27, .inl (z.2 7, 0, .inr (.inr (.inr (.inr (fun _ => none))))))]) (hS : va_S A s.heap H locs) (hl : lv_has ls 9 [(0, .ref b), (1, .ref a0), (2, .ref a1), (3, .ref a2), (4, .ref a3), (5, .int 0)]) : W p l e room_1 s m #[Value.ref b] below meth c H locs 265 8866 Q (F0 m 44 ls [.int 6]) := by
  refine lv_tableIn (tgt := 680) hx hb d_law_44 (by decide +kernel) (by decide +kernel) rfl (by decide) ?_
  refine lv_aload_n hx hb d_law_680 rfl (lv_at hl 1 rfl) ?_
  refine lv_aload_n hx hb d_law_681 rfl (lv_at hl 0 rfl) ?_
  refine lv_iload hx hb d_law_682 (lv_at hl 5 rfl) ?_
  refine lv_iconst (v := 1) hx hb d_law_684 (by decide +kernel) ?_
  refine lv_iadd hx hb d_law_685 ?_
  refine nrm (x1 := 1) (by decide +kernel) ?_
  refine va_sld hx hb hX hbl hbA hS (hin4 (i := 1) rfl) d_law_686 ?_
  refine nrm (x1 := xs 1) rfl ?_
  refine lv_aload_n hx hb d_law_687 rfl (lv_at hl 0 rfl) ?_
  refine lv_iload hx hb d_law_688 (lv_at hl 5 rfl) ?_
  refine lv_iconst (v := 2) hx hb d_law_690 (by decide +kernel) ?_
  refine lv_iadd hx hb d_law_691 ?_
  refine nrm (x1 := 2) (by decide +kernel) ?_
  refine va_sld hx hb hX hbl hbA hS (hin4 (i := 2) rfl) d_law_692 ?_
  refine nrm (x1 := xs 2) rfl ?_
  refine lv_aload_n hx hb d_law_693 rfl (lv_at hl 0 rfl) ?_
  refine lv_iload hx hb d_law_694 (lv_at hl 5 rfl) ?_
  refine lv_iconst (v := 3) hx hb d_law_696 (by decide +kernel) ?_
  refine lv_iadd hx hb d_law_697 ?_
  refine nrm (x1 := 3) (by decide +kernel) ?_
  refine va_sld hx hb hX hbl hbA hS (hin4 (i := 3) rfl) d_law_698 ?_
  refine nrm (x1 := xs 3) rfl ?_
  refine lv_if_eq (tgt := 706) hx hb d_law_699 (by decide) (fun _ => ?_) (fun c9 => absurd h0 c9)
  refine lv_iconst (v := 0) hx hb d_law_706 (by decide +kernel) ?_
  refine lv_aload_n hx hb d_law_707 rfl (lv_at hl 3 rfl) ?_
  refine kH (As := [.ref a0, .int (xs 1), .int (xs 2), .int 0, .ref a2]) (rest := []) (wr := [(a1, .inr (18, [.ref a22, .ref a23, .int 0, .ref a24, .int 0, .ref a25, .int 0, .null, .int 0, .null, .long 0, .int 0, .null])), (a22, .inr (17, [.int 0, .ref a26, .ref a27, .int 0, .ref a28, .ref a29, .ref a30, .null, .null, .int 0, .ref a31, .ref a32, .ref a33, .int 0, .ref a34, .int 1])), (a27, .inl (z.2 7, 0, .inr (.inr (.inr (.inr (fun _ => none))))))]) (c98_BLaw_kindAt l z hl0 a0 a2 a4 a5 a6 a7 a8 a9 a10 a11 a12 a13 a14 a15 a16 a17 a18 a19 a20 a21 (xs 1) (xs 2) h1) hx hb hml hown hts w_957 w_955 w_956 w_0 md_c97f81 ⟨Nat.le_of_ble_eq_true rfl, Nat.le_of_ble_eq_true rfl⟩ hG hZ hP hD hS hA [0, 1] [2, 3, 4] rfl rfl rfl rfl rfl hl.1 rfl (Nat.le_of_ble_eq_true rfl) d_law_708 ⟨Nat.le_of_ble_eq_true rfl, Nat.le_of_ble_eq_true rfl⟩ (fun u0 H locs hP hD hS => ?_)
  have hP : va_P z.1 classes [(a1, .inr (18, [.ref a22, .ref a23, .int 0, .ref a24, .int 0, .ref a25, .int 0, .null, .int 0, .null, .long 0, .int 0, .null])), (a22, .inr (17, [.int 0, .ref a26, .ref a27, .int 0, .ref a28, .ref a29, .ref a30, .null, .null, .int 0, .ref a31, .ref a32, .ref a33, .int 0, .ref a34, .int 1])), (a27, .inl (z.2 7, 0, .inr (.inr (.inr (.inr (fun _ => none))))))] H := hP
  have hD : va_D A [(a1, .inr (18, [.ref a22, .ref a23, .int 0, .ref a24, .int 0, .ref a25, .int 0, .null, .int 0, .null, .long 0, .int 0, .null])), (a22, .inr (17, [.int 0, .ref a26, .ref a27, .int 0, .ref a28, .ref a29, .ref a30, .null, .null, .int 0, .ref a31, .ref a32, .ref a33, .int 0, .ref a34, .int 1])), (a27, .inl (z.2 7, 0, .inr (.inr (.inr (.inr (fun _ => none))))))] := hD
  refine W.eq (g2 := F0 m 711 ls [.int 1]) rfl ?_
  refine lv_istore (lv' := [(6, .int 1), (0, .ref b), (1, .ref a0), (2, .ref a1), (3, .ref a2), (4, .ref a3), (5, .int 0)]) hx hb d_law_711 hl (by decide) rfl (fun ls hl => ?_)
  refine lv_aload_n hx hb d_law_713 rfl (lv_at hl 3 rfl) ?_
  refine lv_aload_n hx hb d_law_714 rfl (lv_at hl 1 rfl) ?_
  refine lv_iload hx hb d_law_715 (lv_at hl 6 rfl) ?_
  refine lv_iconst (v := 1) hx hb d_law_717 (by decide +kernel) ?_
  refine lv_iadd hx hb d_law_718 ?_
  refine nrm (x1 := 1) (by decide +kernel) ?_
  refine va_sld hx hb hX hbl hbA hS (hin4 (i := 1) rfl) d_law_719 ?_
  refine nrm (x1 := xs 1) rfl ?_
  refine lv_aload_n hx hb d_law_720 rfl (lv_at hl 1 rfl) ?_
  refine lv_iload hx hb d_law_721 (lv_at hl 6 rfl) ?_
  refine lv_iconst (v := 2) hx hb d_law_723 (by decide +kernel) ?_
  refine lv_iadd hx hb d_law_724 ?_
  refine nrm (x1 := 2) (by decide +kernel) ?_
  refine va_sld hx hb hX hbl hbA hS (hin4 (i := 2) rfl) d_law_725 ?_
  refine nrm (x1 := xs 2) rfl ?_
  refine lv_aload_n hx hb d_law_726 rfl (lv_at hl 1 rfl) ?_
  refine lv_iload hx hb d_law_727 (lv_at hl 6 rfl) ?_
  refine lv_iconst (v := 3) hx hb d_law_729 (by decide +kernel) ?_
  refine lv_iadd hx hb d_law_730 ?_
  refine nrm (x1 := 3) (by decide +kernel) ?_
  refine va_sld hx hb hX hbl hbA hS (hin4 (i := 3) rfl) d_law_731 ?_
  refine nrm (x1 := xs 3) rfl ?_
  refine lv_if_eq (tgt := 739) hx hb d_law_732 (by decide) (fun _ => ?_) (fun c9 => absurd h0 c9)
  refine lv_iconst (v := 0) hx hb d_law_739 (by decide +kernel) ?_
  refine kV (As := [.int (xs 1), .int (xs 2), .int 0]) (rest := []) (wr := []) (c99_BModel_kindAt l z a1 a22 a23 a24 a25 a26 a27 a28 a29 a30 a31 a32 a33 a34 (xs 1) (xs 2) h1 h2) hx hb hml hown hts w_1796 w_1793 w_1794 w_1795 w_12 md_762f31 ⟨Nat.le_of_ble_eq_true rfl, Nat.le_of_ble_eq_true rfl⟩ hG hZ hP hD hS hA 0 rfl rfl rfl [0, 1, 2] [] rfl rfl rfl rfl rfl hl.1 rfl (Nat.le_of_ble_eq_true rfl) d_law_740 ⟨Nat.le_of_ble_eq_true rfl, Nat.le_of_ble_eq_true rfl⟩ (fun u1 H locs hP hD hS => ?_)
  have hP : va_P z.1 classes [(a1, .inr (18, [.ref a22, .ref a23, .int 0, .ref a24, .int 0, .ref a25, .int 1, .null, .int 0, .null, .long 0, .int 0, .null])), (a22, .inr (17, [.int 0, .ref a26, .ref a27, .int 0, .ref a28, .ref a29, .ref a30, .null, .null, .int 0, .ref a31, .ref a32, .ref a33, .int 0, .ref a34, .int 1])), (a27, .inl (z.2 7, 0, .inr (.inr (.inr (.inr (fun _ => none))))))] H := hP
  have hD : va_D A [(a1, .inr (18, [.ref a22, .ref a23, .int 0, .ref a24, .int 0, .ref a25, .int 1, .null, .int 0, .null, .long 0, .int 0, .null])), (a22, .inr (17, [.int 0, .ref a26, .ref a27, .int 0, .ref a28, .ref a29, .ref a30, .null, .null, .int 0, .ref a31, .ref a32, .ref a33, .int 0, .ref a34, .int 1])), (a27, .inl (z.2 7, 0, .inr (.inr (.inr (.inr (fun _ => none))))))] := hD
  refine W.eq (g2 := F0 m 743 ls [.int 0]) rfl ?_
  refine lv_istore (lv' := [(7, .int 0), (6, .int 1), (0, .ref b), (1, .ref a0), (2, .ref a1), (3, .ref a2), (4, .ref a3), (5, .int 0)]) hx hb d_law_743 hl (by decide) rfl (fun ls hl => ?_)
  refine lv_aload_n hx hb d_law_745 rfl (lv_at hl 4 rfl) ?_
  refine kV (As := []) (rest := []) (wr := [(a22, .inr (17, [.int 0, .ref a26, .ref a27, .int 0, .ref a28, .ref a29, .ref a30, .null, .null, .int 0, .ref a31, .ref a32, .ref a33, .int 0, .ref a34, .int 1])), (a27, .inl (z.2 7, 0, .inr (.inr (.inr (.inr (fun _ => none))))))]) (c33_BModel_thrown l z a1 a22 a23 a24 a25) hx hb hml hown hts w_1688 w_1685 w_1686 w_1687 w_12 md_c48e0f ⟨Nat.le_of_ble_eq_true rfl, Nat.le_of_ble_eq_true rfl⟩ hG hZ hP hD hS hA 0 rfl rfl rfl [0] [1, 2] rfl rfl rfl rfl rfl hl.1 rfl (Nat.le_of_ble_eq_true rfl) d_law_746 ⟨Nat.le_of_ble_eq_true rfl, Nat.le_of_ble_eq_true rfl⟩ (fun u2 H locs hP hD hS => ?_)
  have hP : va_P z.1 classes [(a22, .inr (17, [.int 0, .ref a26, .ref a27, .int 0, .ref a28, .ref a29, .ref a30, .null, .null, .int 0, .ref a31, .ref a32, .ref a33, .int 0, .ref a34, .int 1])), (a27, .inl (z.2 7, 0, .inr (.inr (.inr (.inr (fun _ => none)))))), (a1, .inr (18, [.ref a22, .ref a23, .int 0, .ref a24, .int 0, .ref a25, .int 1, .null, .int 0, .null, .long 0, .int 0, .null]))] H := hP
  have hD : va_D A [(a22, .inr (17, [.int 0, .ref a26, .ref a27, .int 0, .ref a28, .ref a29, .ref a30, .null, .null, .int 0, .ref a31, .ref a32, .ref a33, .int 0, .ref a34, .int 1])), (a27, .inl (z.2 7, 0, .inr (.inr (.inr (.inr (fun _ => none)))))), (a1, .inr (18, [.ref a22, .ref a23, .int 0, .ref a24, .int 0, .ref a25, .int 1, .null, .int 0, .null, .long 0, .int 0, .null]))] := hD
  refine W.eq (g2 := F0 m 749 ls [.int 1]) rfl ?_
  refine lv_iload hx hb d_law_749 (lv_at hl 1 rfl) ?_
  refine lv_icmp_eq (tgt := 756) hx hb d_law_751 (by decide) (fun _ => ?_) (fun c9 => absurd (by decide +kernel) c9)
  refine lv_iload hx hb d_law_756 (lv_at hl 1 rfl) ?_
  refine lv_if_ne (tgt := 773) hx hb d_law_758 (by decide) (fun _ => ?_) (fun c9 => absurd c9 (by decide +kernel))
  refine lv_goto (tgt := 3072) hx hb d_law_773 (by decide) ?_
  refine W.widen (k := 600002) (n := 7302232) (Nat.le_of_ble_eq_true rfl) (Nat.le_of_ble_eq_true rfl) ?_
  exact ht H locs ls hS (lv_sub hl [2, 7] rfl)
set_option maxRecDepth 100000 in
set_option maxHeartbeats 4000000 in
theorem L6_2 (l : Launch) (hl0 : l.stackTraces = false) (z : Zz) {p : Program} {e : Env} {s : State} {m : MethodId} {below : List Frame} {meth : Method} {c : Code} {A : Nat → Prop} {b : Nat} {xs : Nat → Int32} {Q : State → Prop} (hx : p.tables.exec = Jvm.exec) (hb : c.code = code) (hml : c.maxLocals = 9) (hts : ∀ w ∈ WG, w.before #[Value.ref b] s = true) (hown : s.vm.findClass "BallothallLaw" = some m.cls) (hA : ∀ q, s.heap.size ≤ q → A q) (hG : KG z s) (hZ : XZ A s) (hX : va_X b 4 xs s s.heap) (hbl : b < s.heap.size) (hbA : ¬ A b) (ht : ∀ (H : Heap) (locs : List Loc) (ls : Array Slot), va_S A s.heap H locs → lv_has ls 9 [(0, .ref b), (5, .int 0)] → W p l e room_1 s m #[Value.ref b] below meth c H locs 600002 7302232 Q (F0 m 3072 ls [])) (a0 : Nat) (a1 : Nat) (a2 : Nat) (a3 : Nat) (a4 : Nat) (a5 : Nat) (a6 : Nat) (a7 : Nat) (a8 : Nat) (a9 : Nat) (a10 : Nat) (a11 : Nat) (a12 : Nat) (a13 : Nat) (a14 : Nat) (a15 : Nat) (a16 : Nat) (a17 : Nat) (a18 : Nat) (a19 : Nat) (a20 : Nat) (a21 : Nat) (a22 : Nat) (a23 : Nat) (a24 : Nat) (a25 : Nat) (a26 : Nat) (a27 : Nat) (a28 : Nat) (a29 : Nat) (a30 : Nat) (a31 : Nat) (a32 : Nat) (a33 : Nat) (a34 : Nat) (h0 : ¬ (xs 3) = 0) (h1 : (xs 1) < 0) (H : Heap) (locs : List Loc) (ls : Array Slot) (hP : va_P z.1 classes [(a0, .inr (11, [.ref a4, .ref a5, .ref a6, .ref a7, .ref a8, .ref a9, .ref a10, .ref a11, .ref a12, .ref a13, .int 0, .int 0, .ref a14, .int 0])), (a4, .inr (0, [.ref a15, .int 0, .int 0, .int 0, .ref a16, .ref a17, .ref a18, .ref a19, .ref a20, .ref a21])), (a1, .inr (18, [.ref a22, .ref a23, .int 0, .ref a24, .int 0, .ref a25, .int 0, .null, .int 0, .null, .long 0, .int 0, .null])), (a22, .inr (17, [.int 0, .ref a26, .ref a27, .int 0, .ref a28, .ref a29, .ref a30, .null, .null, .int 0, .ref a31, .ref a32, .ref a33, .int 0, .ref a34, .int 1])), (a27, .inl (z.2 7, 0, .inr (.inr (.inr (.inr (fun _ => none))))))] H) (hD : va_D A [(a0, .inr (11, [.ref a4, .ref a5, .ref a6, .ref a7, .ref a8, .ref a9, .ref a10, .ref a11, .ref a12, .ref a13, .int 0, .int 0, .ref a14, .int 0])), (a4, .inr (0, [.ref a15, .int 0, .int 0, .int 0, .ref a16, .ref a17, .ref a18, .ref a19, .ref a20, .ref a21])), (a1, .inr (18, [.ref a22, .ref a23, .int 0, .ref a24, .int 0, .ref a25, .int 0, .null, .int 0, .null, .long 0, .int 0, .null])), (a22, .inr (17, [.int 0, .ref a26, .ref a27, .int 0, .ref a28, .ref a29, .ref a30, .null, .null, .int 0, .ref a31, .ref a32, .ref a33, .int 0, .ref a34, .int 1])), (a27, .inl (z.2 7, 0, .inr (.inr (.inr (.inr (fun _ => none))))))]) (hS : va_S A s.heap H locs) (hl : lv_has ls 9 [(0, .ref b), (1, .ref a0), (2, .ref a1), (3, .ref a2), (4, .ref a3), (5, .int 0)]) : W p l e room_1 s m #[Value.ref b] below meth c H locs 265 8866 Q (F0 m 44 ls [.int 6]) := by
  refine lv_tableIn (tgt := 680) hx hb d_law_44 (by decide +kernel) (by decide +kernel) rfl (by decide) ?_
  refine lv_aload_n hx hb d_law_680 rfl (lv_at hl 1 rfl) ?_
  refine lv_aload_n hx hb d_law_681 rfl (lv_at hl 0 rfl) ?_
  refine lv_iload hx hb d_law_682 (lv_at hl 5 rfl) ?_
  refine lv_iconst (v := 1) hx hb d_law_684 (by decide +kernel) ?_
  refine lv_iadd hx hb d_law_685 ?_
  refine nrm (x1 := 1) (by decide +kernel) ?_
  refine va_sld hx hb hX hbl hbA hS (hin4 (i := 1) rfl) d_law_686 ?_
  refine nrm (x1 := xs 1) rfl ?_
  refine lv_aload_n hx hb d_law_687 rfl (lv_at hl 0 rfl) ?_
  refine lv_iload hx hb d_law_688 (lv_at hl 5 rfl) ?_
  refine lv_iconst (v := 2) hx hb d_law_690 (by decide +kernel) ?_
  refine lv_iadd hx hb d_law_691 ?_
  refine nrm (x1 := 2) (by decide +kernel) ?_
  refine va_sld hx hb hX hbl hbA hS (hin4 (i := 2) rfl) d_law_692 ?_
  refine nrm (x1 := xs 2) rfl ?_
  refine lv_aload_n hx hb d_law_693 rfl (lv_at hl 0 rfl) ?_
  refine lv_iload hx hb d_law_694 (lv_at hl 5 rfl) ?_
  refine lv_iconst (v := 3) hx hb d_law_696 (by decide +kernel) ?_
  refine lv_iadd hx hb d_law_697 ?_
  refine nrm (x1 := 3) (by decide +kernel) ?_
  refine va_sld hx hb hX hbl hbA hS (hin4 (i := 3) rfl) d_law_698 ?_
  refine nrm (x1 := xs 3) rfl ?_
  refine lv_if_eq (tgt := 706) hx hb d_law_699 (by decide) (fun c9 => absurd c9 h0) (fun _ => ?_)
  refine lv_iconst (v := 1) hx hb d_law_702 (by decide +kernel) ?_
  refine lv_goto (tgt := 707) hx hb d_law_703 (by decide) ?_
  refine lv_aload_n hx hb d_law_707 rfl (lv_at hl 3 rfl) ?_
  refine kH (As := [.ref a0, .int (xs 1), .int (xs 2), .int 1, .ref a2]) (rest := []) (wr := [(a1, .inr (18, [.ref a22, .ref a23, .int 0, .ref a24, .int 0, .ref a25, .int 0, .null, .int 0, .null, .long 0, .int 0, .null])), (a22, .inr (17, [.int 0, .ref a26, .ref a27, .int 0, .ref a28, .ref a29, .ref a30, .null, .null, .int 0, .ref a31, .ref a32, .ref a33, .int 0, .ref a34, .int 1])), (a27, .inl (z.2 7, 0, .inr (.inr (.inr (.inr (fun _ => none))))))]) (c101_BLaw_kindAt l z hl0 a0 a2 a4 a5 a6 a7 a8 a9 a10 a11 a12 a13 a14 a15 a16 a17 a18 a19 a20 a21 (xs 1) (xs 2) h1) hx hb hml hown hts w_957 w_955 w_956 w_0 md_c97f81 ⟨Nat.le_of_ble_eq_true rfl, Nat.le_of_ble_eq_true rfl⟩ hG hZ hP hD hS hA [0, 1] [2, 3, 4] rfl rfl rfl rfl rfl hl.1 rfl (Nat.le_of_ble_eq_true rfl) d_law_708 ⟨Nat.le_of_ble_eq_true rfl, Nat.le_of_ble_eq_true rfl⟩ (fun u0 H locs hP hD hS => ?_)
  have hP : va_P z.1 classes [(a1, .inr (18, [.ref a22, .ref a23, .int 0, .ref a24, .int 0, .ref a25, .int 0, .null, .int 0, .null, .long 0, .int 0, .null])), (a22, .inr (17, [.int 0, .ref a26, .ref a27, .int 0, .ref a28, .ref a29, .ref a30, .null, .null, .int 0, .ref a31, .ref a32, .ref a33, .int 0, .ref a34, .int 1])), (a27, .inl (z.2 7, 0, .inr (.inr (.inr (.inr (fun _ => none))))))] H := hP
  have hD : va_D A [(a1, .inr (18, [.ref a22, .ref a23, .int 0, .ref a24, .int 0, .ref a25, .int 0, .null, .int 0, .null, .long 0, .int 0, .null])), (a22, .inr (17, [.int 0, .ref a26, .ref a27, .int 0, .ref a28, .ref a29, .ref a30, .null, .null, .int 0, .ref a31, .ref a32, .ref a33, .int 0, .ref a34, .int 1])), (a27, .inl (z.2 7, 0, .inr (.inr (.inr (.inr (fun _ => none))))))] := hD
  refine W.eq (g2 := F0 m 711 ls [.int 1]) rfl ?_
  refine lv_istore (lv' := [(6, .int 1), (0, .ref b), (1, .ref a0), (2, .ref a1), (3, .ref a2), (4, .ref a3), (5, .int 0)]) hx hb d_law_711 hl (by decide) rfl (fun ls hl => ?_)
  refine lv_aload_n hx hb d_law_713 rfl (lv_at hl 3 rfl) ?_
  refine lv_aload_n hx hb d_law_714 rfl (lv_at hl 1 rfl) ?_
  refine lv_iload hx hb d_law_715 (lv_at hl 6 rfl) ?_
  refine lv_iconst (v := 1) hx hb d_law_717 (by decide +kernel) ?_
  refine lv_iadd hx hb d_law_718 ?_
  refine nrm (x1 := 1) (by decide +kernel) ?_
  refine va_sld hx hb hX hbl hbA hS (hin4 (i := 1) rfl) d_law_719 ?_
  refine nrm (x1 := xs 1) rfl ?_
  refine lv_aload_n hx hb d_law_720 rfl (lv_at hl 1 rfl) ?_
  refine lv_iload hx hb d_law_721 (lv_at hl 6 rfl) ?_
  refine lv_iconst (v := 2) hx hb d_law_723 (by decide +kernel) ?_
  refine lv_iadd hx hb d_law_724 ?_
  refine nrm (x1 := 2) (by decide +kernel) ?_
  refine va_sld hx hb hX hbl hbA hS (hin4 (i := 2) rfl) d_law_725 ?_
  refine nrm (x1 := xs 2) rfl ?_
  refine lv_aload_n hx hb d_law_726 rfl (lv_at hl 1 rfl) ?_
  refine lv_iload hx hb d_law_727 (lv_at hl 6 rfl) ?_
  refine lv_iconst (v := 3) hx hb d_law_729 (by decide +kernel) ?_
  refine lv_iadd hx hb d_law_730 ?_
  refine nrm (x1 := 3) (by decide +kernel) ?_
  refine va_sld hx hb hX hbl hbA hS (hin4 (i := 3) rfl) d_law_731 ?_
  refine nrm (x1 := xs 3) rfl ?_
  refine lv_if_eq (tgt := 739) hx hb d_law_732 (by decide) (fun c9 => absurd c9 h0) (fun _ => ?_)
  refine lv_iconst (v := 1) hx hb d_law_735 (by decide +kernel) ?_
  refine lv_goto (tgt := 740) hx hb d_law_736 (by decide) ?_
  refine kV (As := [.int (xs 1), .int (xs 2), .int 1]) (rest := []) (wr := []) (c102_BModel_kindAt l z a1 a22 a23 a24 a25 a26 a27 a28 a29 a30 a31 a32 a33 a34 (xs 1) (xs 2) h1) hx hb hml hown hts w_1796 w_1793 w_1794 w_1795 w_12 md_762f31 ⟨Nat.le_of_ble_eq_true rfl, Nat.le_of_ble_eq_true rfl⟩ hG hZ hP hD hS hA 0 rfl rfl rfl [0, 1, 2] [] rfl rfl rfl rfl rfl hl.1 rfl (Nat.le_of_ble_eq_true rfl) d_law_740 ⟨Nat.le_of_ble_eq_true rfl, Nat.le_of_ble_eq_true rfl⟩ (fun u1 H locs hP hD hS => ?_)
  have hP : va_P z.1 classes [(a1, .inr (18, [.ref a22, .ref a23, .int 0, .ref a24, .int 0, .ref a25, .int 1, .null, .int 0, .null, .long 0, .int 0, .null])), (a22, .inr (17, [.int 0, .ref a26, .ref a27, .int 0, .ref a28, .ref a29, .ref a30, .null, .null, .int 0, .ref a31, .ref a32, .ref a33, .int 0, .ref a34, .int 1])), (a27, .inl (z.2 7, 0, .inr (.inr (.inr (.inr (fun _ => none))))))] H := hP
  have hD : va_D A [(a1, .inr (18, [.ref a22, .ref a23, .int 0, .ref a24, .int 0, .ref a25, .int 1, .null, .int 0, .null, .long 0, .int 0, .null])), (a22, .inr (17, [.int 0, .ref a26, .ref a27, .int 0, .ref a28, .ref a29, .ref a30, .null, .null, .int 0, .ref a31, .ref a32, .ref a33, .int 0, .ref a34, .int 1])), (a27, .inl (z.2 7, 0, .inr (.inr (.inr (.inr (fun _ => none))))))] := hD
  refine W.eq (g2 := F0 m 743 ls [.int 0]) rfl ?_
  refine lv_istore (lv' := [(7, .int 0), (6, .int 1), (0, .ref b), (1, .ref a0), (2, .ref a1), (3, .ref a2), (4, .ref a3), (5, .int 0)]) hx hb d_law_743 hl (by decide) rfl (fun ls hl => ?_)
  refine lv_aload_n hx hb d_law_745 rfl (lv_at hl 4 rfl) ?_
  refine kV (As := []) (rest := []) (wr := [(a22, .inr (17, [.int 0, .ref a26, .ref a27, .int 0, .ref a28, .ref a29, .ref a30, .null, .null, .int 0, .ref a31, .ref a32, .ref a33, .int 0, .ref a34, .int 1])), (a27, .inl (z.2 7, 0, .inr (.inr (.inr (.inr (fun _ => none))))))]) (c33_BModel_thrown l z a1 a22 a23 a24 a25) hx hb hml hown hts w_1688 w_1685 w_1686 w_1687 w_12 md_c48e0f ⟨Nat.le_of_ble_eq_true rfl, Nat.le_of_ble_eq_true rfl⟩ hG hZ hP hD hS hA 0 rfl rfl rfl [0] [1, 2] rfl rfl rfl rfl rfl hl.1 rfl (Nat.le_of_ble_eq_true rfl) d_law_746 ⟨Nat.le_of_ble_eq_true rfl, Nat.le_of_ble_eq_true rfl⟩ (fun u2 H locs hP hD hS => ?_)
  have hP : va_P z.1 classes [(a22, .inr (17, [.int 0, .ref a26, .ref a27, .int 0, .ref a28, .ref a29, .ref a30, .null, .null, .int 0, .ref a31, .ref a32, .ref a33, .int 0, .ref a34, .int 1])), (a27, .inl (z.2 7, 0, .inr (.inr (.inr (.inr (fun _ => none)))))), (a1, .inr (18, [.ref a22, .ref a23, .int 0, .ref a24, .int 0, .ref a25, .int 1, .null, .int 0, .null, .long 0, .int 0, .null]))] H := hP
  have hD : va_D A [(a22, .inr (17, [.int 0, .ref a26, .ref a27, .int 0, .ref a28, .ref a29, .ref a30, .null, .null, .int 0, .ref a31, .ref a32, .ref a33, .int 0, .ref a34, .int 1])), (a27, .inl (z.2 7, 0, .inr (.inr (.inr (.inr (fun _ => none)))))), (a1, .inr (18, [.ref a22, .ref a23, .int 0, .ref a24, .int 0, .ref a25, .int 1, .null, .int 0, .null, .long 0, .int 0, .null]))] := hD
  refine W.eq (g2 := F0 m 749 ls [.int 1]) rfl ?_
  refine lv_iload hx hb d_law_749 (lv_at hl 1 rfl) ?_
  refine lv_icmp_eq (tgt := 756) hx hb d_law_751 (by decide) (fun _ => ?_) (fun c9 => absurd (by decide +kernel) c9)
  refine lv_iload hx hb d_law_756 (lv_at hl 1 rfl) ?_
  refine lv_if_ne (tgt := 773) hx hb d_law_758 (by decide) (fun _ => ?_) (fun c9 => absurd c9 (by decide +kernel))
  refine lv_goto (tgt := 3072) hx hb d_law_773 (by decide) ?_
  refine W.widen (k := 600002) (n := 7302232) (Nat.le_of_ble_eq_true rfl) (Nat.le_of_ble_eq_true rfl) ?_
  exact ht H locs ls hS (lv_sub hl [2, 7] rfl)
set_option maxRecDepth 100000 in
set_option maxHeartbeats 4000000 in
theorem L6_3 (l : Launch) (hl0 : l.stackTraces = false) (z : Zz) {p : Program} {e : Env} {s : State} {m : MethodId} {below : List Frame} {meth : Method} {c : Code} {A : Nat → Prop} {b : Nat} {xs : Nat → Int32} {Q : State → Prop} (hx : p.tables.exec = Jvm.exec) (hb : c.code = code) (hml : c.maxLocals = 9) (hts : ∀ w ∈ WG, w.before #[Value.ref b] s = true) (hown : s.vm.findClass "BallothallLaw" = some m.cls) (hA : ∀ q, s.heap.size ≤ q → A q) (hG : KG z s) (hZ : XZ A s) (hX : va_X b 4 xs s s.heap) (hbl : b < s.heap.size) (hbA : ¬ A b) (ht : ∀ (H : Heap) (locs : List Loc) (ls : Array Slot), va_S A s.heap H locs → lv_has ls 9 [(0, .ref b), (5, .int 0)] → W p l e room_1 s m #[Value.ref b] below meth c H locs 600002 7302232 Q (F0 m 3072 ls [])) (a0 : Nat) (a1 : Nat) (a2 : Nat) (a3 : Nat) (a4 : Nat) (a5 : Nat) (a6 : Nat) (a7 : Nat) (a8 : Nat) (a9 : Nat) (a10 : Nat) (a11 : Nat) (a12 : Nat) (a13 : Nat) (a14 : Nat) (a15 : Nat) (a16 : Nat) (a17 : Nat) (a18 : Nat) (a19 : Nat) (a20 : Nat) (a21 : Nat) (a22 : Nat) (a23 : Nat) (a24 : Nat) (a25 : Nat) (a26 : Nat) (a27 : Nat) (a28 : Nat) (a29 : Nat) (a30 : Nat) (a31 : Nat) (a32 : Nat) (a33 : Nat) (a34 : Nat) (h0 : ¬ (xs 3) = 0) (h1 : ¬ (xs 1) < 0) (h2 : (-1) < (xs 1)) (H : Heap) (locs : List Loc) (ls : Array Slot) (hP : va_P z.1 classes [(a0, .inr (11, [.ref a4, .ref a5, .ref a6, .ref a7, .ref a8, .ref a9, .ref a10, .ref a11, .ref a12, .ref a13, .int 0, .int 0, .ref a14, .int 0])), (a4, .inr (0, [.ref a15, .int 0, .int 0, .int 0, .ref a16, .ref a17, .ref a18, .ref a19, .ref a20, .ref a21])), (a1, .inr (18, [.ref a22, .ref a23, .int 0, .ref a24, .int 0, .ref a25, .int 0, .null, .int 0, .null, .long 0, .int 0, .null])), (a22, .inr (17, [.int 0, .ref a26, .ref a27, .int 0, .ref a28, .ref a29, .ref a30, .null, .null, .int 0, .ref a31, .ref a32, .ref a33, .int 0, .ref a34, .int 1])), (a27, .inl (z.2 7, 0, .inr (.inr (.inr (.inr (fun _ => none))))))] H) (hD : va_D A [(a0, .inr (11, [.ref a4, .ref a5, .ref a6, .ref a7, .ref a8, .ref a9, .ref a10, .ref a11, .ref a12, .ref a13, .int 0, .int 0, .ref a14, .int 0])), (a4, .inr (0, [.ref a15, .int 0, .int 0, .int 0, .ref a16, .ref a17, .ref a18, .ref a19, .ref a20, .ref a21])), (a1, .inr (18, [.ref a22, .ref a23, .int 0, .ref a24, .int 0, .ref a25, .int 0, .null, .int 0, .null, .long 0, .int 0, .null])), (a22, .inr (17, [.int 0, .ref a26, .ref a27, .int 0, .ref a28, .ref a29, .ref a30, .null, .null, .int 0, .ref a31, .ref a32, .ref a33, .int 0, .ref a34, .int 1])), (a27, .inl (z.2 7, 0, .inr (.inr (.inr (.inr (fun _ => none))))))]) (hS : va_S A s.heap H locs) (hl : lv_has ls 9 [(0, .ref b), (1, .ref a0), (2, .ref a1), (3, .ref a2), (4, .ref a3), (5, .int 0)]) : W p l e room_1 s m #[Value.ref b] below meth c H locs 265 8866 Q (F0 m 44 ls [.int 6]) := by
  refine lv_tableIn (tgt := 680) hx hb d_law_44 (by decide +kernel) (by decide +kernel) rfl (by decide) ?_
  refine lv_aload_n hx hb d_law_680 rfl (lv_at hl 1 rfl) ?_
  refine lv_aload_n hx hb d_law_681 rfl (lv_at hl 0 rfl) ?_
  refine lv_iload hx hb d_law_682 (lv_at hl 5 rfl) ?_
  refine lv_iconst (v := 1) hx hb d_law_684 (by decide +kernel) ?_
  refine lv_iadd hx hb d_law_685 ?_
  refine nrm (x1 := 1) (by decide +kernel) ?_
  refine va_sld hx hb hX hbl hbA hS (hin4 (i := 1) rfl) d_law_686 ?_
  refine nrm (x1 := xs 1) rfl ?_
  refine lv_aload_n hx hb d_law_687 rfl (lv_at hl 0 rfl) ?_
  refine lv_iload hx hb d_law_688 (lv_at hl 5 rfl) ?_
  refine lv_iconst (v := 2) hx hb d_law_690 (by decide +kernel) ?_
  refine lv_iadd hx hb d_law_691 ?_
  refine nrm (x1 := 2) (by decide +kernel) ?_
  refine va_sld hx hb hX hbl hbA hS (hin4 (i := 2) rfl) d_law_692 ?_
  refine nrm (x1 := xs 2) rfl ?_
  refine lv_aload_n hx hb d_law_693 rfl (lv_at hl 0 rfl) ?_
  refine lv_iload hx hb d_law_694 (lv_at hl 5 rfl) ?_
  refine lv_iconst (v := 3) hx hb d_law_696 (by decide +kernel) ?_
  refine lv_iadd hx hb d_law_697 ?_
  refine nrm (x1 := 3) (by decide +kernel) ?_
  refine va_sld hx hb hX hbl hbA hS (hin4 (i := 3) rfl) d_law_698 ?_
  refine nrm (x1 := xs 3) rfl ?_
  refine lv_if_eq (tgt := 706) hx hb d_law_699 (by decide) (fun c9 => absurd c9 h0) (fun _ => ?_)
  refine lv_iconst (v := 1) hx hb d_law_702 (by decide +kernel) ?_
  refine lv_goto (tgt := 707) hx hb d_law_703 (by decide) ?_
  refine lv_aload_n hx hb d_law_707 rfl (lv_at hl 3 rfl) ?_
  refine kH (As := [.ref a0, .int (xs 1), .int (xs 2), .int 1, .ref a2]) (rest := []) (wr := [(a1, .inr (18, [.ref a22, .ref a23, .int 0, .ref a24, .int 0, .ref a25, .int 0, .null, .int 0, .null, .long 0, .int 0, .null])), (a22, .inr (17, [.int 0, .ref a26, .ref a27, .int 0, .ref a28, .ref a29, .ref a30, .null, .null, .int 0, .ref a31, .ref a32, .ref a33, .int 0, .ref a34, .int 1])), (a27, .inl (z.2 7, 0, .inr (.inr (.inr (.inr (fun _ => none))))))]) (c104_BLaw_kindAt l z hl0 a0 a2 a4 a5 a6 a7 a8 a9 a10 a11 a12 a13 a14 a15 a16 a17 a18 a19 a20 a21 (xs 1) (xs 2) h1) hx hb hml hown hts w_957 w_955 w_956 w_0 md_c97f81 ⟨Nat.le_of_ble_eq_true rfl, Nat.le_of_ble_eq_true rfl⟩ hG hZ hP hD hS hA [0, 1] [2, 3, 4] rfl rfl rfl rfl rfl hl.1 rfl (Nat.le_of_ble_eq_true rfl) d_law_708 ⟨Nat.le_of_ble_eq_true rfl, Nat.le_of_ble_eq_true rfl⟩ (fun u0 H locs hP hD hS => ?_)
  have hP : va_P z.1 classes [(a1, .inr (18, [.ref a22, .ref a23, .int 0, .ref a24, .int 0, .ref a25, .int 0, .null, .int 0, .null, .long 0, .int 0, .null])), (a22, .inr (17, [.int 0, .ref a26, .ref a27, .int 0, .ref a28, .ref a29, .ref a30, .null, .null, .int 0, .ref a31, .ref a32, .ref a33, .int 0, .ref a34, .int 1])), (a27, .inl (z.2 7, 0, .inr (.inr (.inr (.inr (fun _ => none))))))] H := hP
  have hD : va_D A [(a1, .inr (18, [.ref a22, .ref a23, .int 0, .ref a24, .int 0, .ref a25, .int 0, .null, .int 0, .null, .long 0, .int 0, .null])), (a22, .inr (17, [.int 0, .ref a26, .ref a27, .int 0, .ref a28, .ref a29, .ref a30, .null, .null, .int 0, .ref a31, .ref a32, .ref a33, .int 0, .ref a34, .int 1])), (a27, .inl (z.2 7, 0, .inr (.inr (.inr (.inr (fun _ => none))))))] := hD
  refine W.eq (g2 := F0 m 711 ls [.int 1]) rfl ?_
  refine lv_istore (lv' := [(6, .int 1), (0, .ref b), (1, .ref a0), (2, .ref a1), (3, .ref a2), (4, .ref a3), (5, .int 0)]) hx hb d_law_711 hl (by decide) rfl (fun ls hl => ?_)
  refine lv_aload_n hx hb d_law_713 rfl (lv_at hl 3 rfl) ?_
  refine lv_aload_n hx hb d_law_714 rfl (lv_at hl 1 rfl) ?_
  refine lv_iload hx hb d_law_715 (lv_at hl 6 rfl) ?_
  refine lv_iconst (v := 1) hx hb d_law_717 (by decide +kernel) ?_
  refine lv_iadd hx hb d_law_718 ?_
  refine nrm (x1 := 1) (by decide +kernel) ?_
  refine va_sld hx hb hX hbl hbA hS (hin4 (i := 1) rfl) d_law_719 ?_
  refine nrm (x1 := xs 1) rfl ?_
  refine lv_aload_n hx hb d_law_720 rfl (lv_at hl 1 rfl) ?_
  refine lv_iload hx hb d_law_721 (lv_at hl 6 rfl) ?_
  refine lv_iconst (v := 2) hx hb d_law_723 (by decide +kernel) ?_
  refine lv_iadd hx hb d_law_724 ?_
  refine nrm (x1 := 2) (by decide +kernel) ?_
  refine va_sld hx hb hX hbl hbA hS (hin4 (i := 2) rfl) d_law_725 ?_
  refine nrm (x1 := xs 2) rfl ?_
  refine lv_aload_n hx hb d_law_726 rfl (lv_at hl 1 rfl) ?_
  refine lv_iload hx hb d_law_727 (lv_at hl 6 rfl) ?_
  refine lv_iconst (v := 3) hx hb d_law_729 (by decide +kernel) ?_
  refine lv_iadd hx hb d_law_730 ?_
  refine nrm (x1 := 3) (by decide +kernel) ?_
  refine va_sld hx hb hX hbl hbA hS (hin4 (i := 3) rfl) d_law_731 ?_
  refine nrm (x1 := xs 3) rfl ?_
  refine lv_if_eq (tgt := 739) hx hb d_law_732 (by decide) (fun c9 => absurd c9 h0) (fun _ => ?_)
  refine lv_iconst (v := 1) hx hb d_law_735 (by decide +kernel) ?_
  refine lv_goto (tgt := 740) hx hb d_law_736 (by decide) ?_
  refine kV (As := [.int (xs 1), .int (xs 2), .int 1]) (rest := []) (wr := []) (c105_BModel_kindAt l z a1 a22 a23 a24 a25 a26 a27 a28 a29 a30 a31 a32 a33 a34 (xs 1) (xs 2) h1 h2) hx hb hml hown hts w_1796 w_1793 w_1794 w_1795 w_12 md_762f31 ⟨Nat.le_of_ble_eq_true rfl, Nat.le_of_ble_eq_true rfl⟩ hG hZ hP hD hS hA 0 rfl rfl rfl [0, 1, 2] [] rfl rfl rfl rfl rfl hl.1 rfl (Nat.le_of_ble_eq_true rfl) d_law_740 ⟨Nat.le_of_ble_eq_true rfl, Nat.le_of_ble_eq_true rfl⟩ (fun u1 H locs hP hD hS => ?_)
  have hP : va_P z.1 classes [(a1, .inr (18, [.ref a22, .ref a23, .int 0, .ref a24, .int 0, .ref a25, .int 1, .null, .int 0, .null, .long 0, .int 0, .null])), (a22, .inr (17, [.int 0, .ref a26, .ref a27, .int 0, .ref a28, .ref a29, .ref a30, .null, .null, .int 0, .ref a31, .ref a32, .ref a33, .int 0, .ref a34, .int 1])), (a27, .inl (z.2 7, 0, .inr (.inr (.inr (.inr (fun _ => none))))))] H := hP
  have hD : va_D A [(a1, .inr (18, [.ref a22, .ref a23, .int 0, .ref a24, .int 0, .ref a25, .int 1, .null, .int 0, .null, .long 0, .int 0, .null])), (a22, .inr (17, [.int 0, .ref a26, .ref a27, .int 0, .ref a28, .ref a29, .ref a30, .null, .null, .int 0, .ref a31, .ref a32, .ref a33, .int 0, .ref a34, .int 1])), (a27, .inl (z.2 7, 0, .inr (.inr (.inr (.inr (fun _ => none))))))] := hD
  refine W.eq (g2 := F0 m 743 ls [.int 0]) rfl ?_
  refine lv_istore (lv' := [(7, .int 0), (6, .int 1), (0, .ref b), (1, .ref a0), (2, .ref a1), (3, .ref a2), (4, .ref a3), (5, .int 0)]) hx hb d_law_743 hl (by decide) rfl (fun ls hl => ?_)
  refine lv_aload_n hx hb d_law_745 rfl (lv_at hl 4 rfl) ?_
  refine kV (As := []) (rest := []) (wr := [(a22, .inr (17, [.int 0, .ref a26, .ref a27, .int 0, .ref a28, .ref a29, .ref a30, .null, .null, .int 0, .ref a31, .ref a32, .ref a33, .int 0, .ref a34, .int 1])), (a27, .inl (z.2 7, 0, .inr (.inr (.inr (.inr (fun _ => none))))))]) (c33_BModel_thrown l z a1 a22 a23 a24 a25) hx hb hml hown hts w_1688 w_1685 w_1686 w_1687 w_12 md_c48e0f ⟨Nat.le_of_ble_eq_true rfl, Nat.le_of_ble_eq_true rfl⟩ hG hZ hP hD hS hA 0 rfl rfl rfl [0] [1, 2] rfl rfl rfl rfl rfl hl.1 rfl (Nat.le_of_ble_eq_true rfl) d_law_746 ⟨Nat.le_of_ble_eq_true rfl, Nat.le_of_ble_eq_true rfl⟩ (fun u2 H locs hP hD hS => ?_)
  have hP : va_P z.1 classes [(a22, .inr (17, [.int 0, .ref a26, .ref a27, .int 0, .ref a28, .ref a29, .ref a30, .null, .null, .int 0, .ref a31, .ref a32, .ref a33, .int 0, .ref a34, .int 1])), (a27, .inl (z.2 7, 0, .inr (.inr (.inr (.inr (fun _ => none)))))), (a1, .inr (18, [.ref a22, .ref a23, .int 0, .ref a24, .int 0, .ref a25, .int 1, .null, .int 0, .null, .long 0, .int 0, .null]))] H := hP
  have hD : va_D A [(a22, .inr (17, [.int 0, .ref a26, .ref a27, .int 0, .ref a28, .ref a29, .ref a30, .null, .null, .int 0, .ref a31, .ref a32, .ref a33, .int 0, .ref a34, .int 1])), (a27, .inl (z.2 7, 0, .inr (.inr (.inr (.inr (fun _ => none)))))), (a1, .inr (18, [.ref a22, .ref a23, .int 0, .ref a24, .int 0, .ref a25, .int 1, .null, .int 0, .null, .long 0, .int 0, .null]))] := hD
  refine W.eq (g2 := F0 m 749 ls [.int 1]) rfl ?_
  refine lv_iload hx hb d_law_749 (lv_at hl 1 rfl) ?_
  refine lv_icmp_eq (tgt := 756) hx hb d_law_751 (by decide) (fun _ => ?_) (fun c9 => absurd (by decide +kernel) c9)
  refine lv_iload hx hb d_law_756 (lv_at hl 1 rfl) ?_
  refine lv_if_ne (tgt := 773) hx hb d_law_758 (by decide) (fun _ => ?_) (fun c9 => absurd c9 (by decide +kernel))
  refine lv_goto (tgt := 3072) hx hb d_law_773 (by decide) ?_
  refine W.widen (k := 600002) (n := 7302232) (Nat.le_of_ble_eq_true rfl) (Nat.le_of_ble_eq_true rfl) ?_
  exact ht H locs ls hS (lv_sub hl [2, 7] rfl)
set_option maxRecDepth 100000 in
set_option maxHeartbeats 4000000 in
theorem L7_0 (l : Launch) (hl0 : l.stackTraces = false) (z : Zz) {p : Program} {e : Env} {s : State} {m : MethodId} {below : List Frame} {meth : Method} {c : Code} {A : Nat → Prop} {b : Nat} {xs : Nat → Int32} {Q : State → Prop} (hx : p.tables.exec = Jvm.exec) (hb : c.code = code) (hml : c.maxLocals = 9) (hts : ∀ w ∈ WG, w.before #[Value.ref b] s = true) (hown : s.vm.findClass "BallothallLaw" = some m.cls) (hA : ∀ q, s.heap.size ≤ q → A q) (hG : KG z s) (hZ : XZ A s) (hX : va_X b 4 xs s s.heap) (hbl : b < s.heap.size) (hbA : ¬ A b) (ht : ∀ (H : Heap) (locs : List Loc) (ls : Array Slot), va_S A s.heap H locs → lv_has ls 9 [(0, .ref b), (5, .int 0)] → W p l e room_1 s m #[Value.ref b] below meth c H locs 600002 7302232 Q (F0 m 3072 ls [])) (a0 : Nat) (a1 : Nat) (a2 : Nat) (a3 : Nat) (a4 : Nat) (a5 : Nat) (a6 : Nat) (a7 : Nat) (a8 : Nat) (a9 : Nat) (a10 : Nat) (a11 : Nat) (a12 : Nat) (a13 : Nat) (a14 : Nat) (a15 : Nat) (a16 : Nat) (a17 : Nat) (a18 : Nat) (a19 : Nat) (a20 : Nat) (a21 : Nat) (a22 : Nat) (a23 : Nat) (a24 : Nat) (a25 : Nat) (a26 : Nat) (a27 : Nat) (a28 : Nat) (a29 : Nat) (a30 : Nat) (a31 : Nat) (a32 : Nat) (a33 : Nat) (a34 : Nat) (H : Heap) (locs : List Loc) (ls : Array Slot) (hP : va_P z.1 classes [(a0, .inr (11, [.ref a4, .ref a5, .ref a6, .ref a7, .ref a8, .ref a9, .ref a10, .ref a11, .ref a12, .ref a13, .int 0, .int 0, .ref a14, .int 0])), (a4, .inr (0, [.ref a15, .int 0, .int 0, .int 0, .ref a16, .ref a17, .ref a18, .ref a19, .ref a20, .ref a21])), (a1, .inr (18, [.ref a22, .ref a23, .int 0, .ref a24, .int 0, .ref a25, .int 0, .null, .int 0, .null, .long 0, .int 0, .null])), (a22, .inr (17, [.int 0, .ref a26, .ref a27, .int 0, .ref a28, .ref a29, .ref a30, .null, .null, .int 0, .ref a31, .ref a32, .ref a33, .int 0, .ref a34, .int 1])), (a27, .inl (z.2 7, 0, .inr (.inr (.inr (.inr (fun _ => none))))))] H) (hD : va_D A [(a0, .inr (11, [.ref a4, .ref a5, .ref a6, .ref a7, .ref a8, .ref a9, .ref a10, .ref a11, .ref a12, .ref a13, .int 0, .int 0, .ref a14, .int 0])), (a4, .inr (0, [.ref a15, .int 0, .int 0, .int 0, .ref a16, .ref a17, .ref a18, .ref a19, .ref a20, .ref a21])), (a1, .inr (18, [.ref a22, .ref a23, .int 0, .ref a24, .int 0, .ref a25, .int 0, .null, .int 0, .null, .long 0, .int 0, .null])), (a22, .inr (17, [.int 0, .ref a26, .ref a27, .int 0, .ref a28, .ref a29, .ref a30, .null, .null, .int 0, .ref a31, .ref a32, .ref a33, .int 0, .ref a34, .int 1])), (a27, .inl (z.2 7, 0, .inr (.inr (.inr (.inr (fun _ => none))))))]) (hS : va_S A s.heap H locs) (hl : lv_has ls 9 [(0, .ref b), (1, .ref a0), (2, .ref a1), (3, .ref a2), (4, .ref a3), (5, .int 0)]) : W p l e room_1 s m #[Value.ref b] below meth c H locs 265 8866 Q (F0 m 44 ls [.int 7]) := by
  refine lv_tableIn (tgt := 776) hx hb d_law_44 (by decide +kernel) (by decide +kernel) rfl (by decide) ?_
  refine lv_aload_n hx hb d_law_776 rfl (lv_at hl 1 rfl) ?_
  refine kV (As := []) (rest := []) (wr := [(a1, .inr (18, [.ref a22, .ref a23, .int 0, .ref a24, .int 0, .ref a25, .int 0, .null, .int 0, .null, .long 0, .int 0, .null])), (a22, .inr (17, [.int 0, .ref a26, .ref a27, .int 0, .ref a28, .ref a29, .ref a30, .null, .null, .int 0, .ref a31, .ref a32, .ref a33, .int 0, .ref a34, .int 1])), (a27, .inl (z.2 7, 0, .inr (.inr (.inr (.inr (fun _ => none))))))]) (c107_B_allBallots l z a0 a4 a5 a6 a7 a8 a9 a10 a11 a12 a13 a14 a15 a16 a17 a18 a19 a20 a21) hx hb hml hown hts w_452 w_449 w_450 w_451 w_1 md_5369b4 ⟨Nat.le_of_ble_eq_true rfl, Nat.le_of_ble_eq_true rfl⟩ hG hZ hP hD hS hA 0 rfl rfl rfl [0, 1] [2, 3, 4] rfl rfl rfl rfl rfl hl.1 rfl (Nat.le_of_ble_eq_true rfl) d_law_777 ⟨Nat.le_of_ble_eq_true rfl, Nat.le_of_ble_eq_true rfl⟩ (fun u0 H locs hP hD hS => ?_)
  have hP : va_P z.1 classes [(a1, .inr (18, [.ref a22, .ref a23, .int 0, .ref a24, .int 0, .ref a25, .int 0, .null, .int 0, .null, .long 0, .int 0, .null])), (a22, .inr (17, [.int 0, .ref a26, .ref a27, .int 0, .ref a28, .ref a29, .ref a30, .null, .null, .int 0, .ref a31, .ref a32, .ref a33, .int 0, .ref a34, .int 1])), (a27, .inl (z.2 7, 0, .inr (.inr (.inr (.inr (fun _ => none)))))), (a0, .inr (11, [.ref a4, .ref a5, .ref a6, .ref a7, .ref a8, .ref a9, .ref a10, .ref a11, .ref a12, .ref a13, .int 0, .int 0, .ref a14, .int 0])), (a4, .inr (0, [.ref a15, .int 0, .int 0, .int 0, .ref a16, .ref a17, .ref a18, .ref a19, .ref a20, .ref a21]))] H := hP
  have hD : va_D A [(a1, .inr (18, [.ref a22, .ref a23, .int 0, .ref a24, .int 0, .ref a25, .int 0, .null, .int 0, .null, .long 0, .int 0, .null])), (a22, .inr (17, [.int 0, .ref a26, .ref a27, .int 0, .ref a28, .ref a29, .ref a30, .null, .null, .int 0, .ref a31, .ref a32, .ref a33, .int 0, .ref a34, .int 1])), (a27, .inl (z.2 7, 0, .inr (.inr (.inr (.inr (fun _ => none)))))), (a0, .inr (11, [.ref a4, .ref a5, .ref a6, .ref a7, .ref a8, .ref a9, .ref a10, .ref a11, .ref a12, .ref a13, .int 0, .int 0, .ref a14, .int 0])), (a4, .inr (0, [.ref a15, .int 0, .int 0, .int 0, .ref a16, .ref a17, .ref a18, .ref a19, .ref a20, .ref a21]))] := hD
  refine W.eq (g2 := F0 m 780 ls [.int 0]) rfl ?_
  refine lv_aload_n hx hb d_law_780 rfl (lv_at hl 2 rfl) ?_
  refine kV (As := []) (rest := [.int 0]) (wr := [(a0, .inr (11, [.ref a4, .ref a5, .ref a6, .ref a7, .ref a8, .ref a9, .ref a10, .ref a11, .ref a12, .ref a13, .int 0, .int 0, .ref a14, .int 0])), (a4, .inr (0, [.ref a15, .int 0, .int 0, .int 0, .ref a16, .ref a17, .ref a18, .ref a19, .ref a20, .ref a21]))]) (c109_BModel_allBallots l z a1 a22 a23 a24 a25 a26 a27 a28 a29 a30 a31 a32 a33 a34) hx hb hml hown hts w_1804 w_1801 w_1802 w_1803 w_12 md_f7fa1b ⟨Nat.le_of_ble_eq_true rfl, Nat.le_of_ble_eq_true rfl⟩ hG hZ hP hD hS hA 0 rfl rfl rfl [0, 1, 2] [3, 4] rfl rfl rfl rfl rfl hl.1 rfl (Nat.le_of_ble_eq_true rfl) d_law_781 ⟨Nat.le_of_ble_eq_true rfl, Nat.le_of_ble_eq_true rfl⟩ (fun u1 H locs hP hD hS => ?_)
  have hP : va_P z.1 classes [(a0, .inr (11, [.ref a4, .ref a5, .ref a6, .ref a7, .ref a8, .ref a9, .ref a10, .ref a11, .ref a12, .ref a13, .int 0, .int 0, .ref a14, .int 0])), (a4, .inr (0, [.ref a15, .int 0, .int 0, .int 0, .ref a16, .ref a17, .ref a18, .ref a19, .ref a20, .ref a21])), (a1, .inr (18, [.ref a22, .ref a23, .int 0, .ref a24, .int 0, .ref a25, .int 0, .null, .int 0, .null, .long 0, .int 0, .null])), (a22, .inr (17, [.int 0, .ref a26, .ref a27, .int 0, .ref a28, .ref a29, .ref a30, .null, .null, .int 0, .ref a31, .ref a32, .ref a33, .int 0, .ref a34, .int 1])), (a27, .inl (z.2 7, 0, .inr (.inr (.inr (.inr (fun _ => none))))))] H := hP
  have hD : va_D A [(a0, .inr (11, [.ref a4, .ref a5, .ref a6, .ref a7, .ref a8, .ref a9, .ref a10, .ref a11, .ref a12, .ref a13, .int 0, .int 0, .ref a14, .int 0])), (a4, .inr (0, [.ref a15, .int 0, .int 0, .int 0, .ref a16, .ref a17, .ref a18, .ref a19, .ref a20, .ref a21])), (a1, .inr (18, [.ref a22, .ref a23, .int 0, .ref a24, .int 0, .ref a25, .int 0, .null, .int 0, .null, .long 0, .int 0, .null])), (a22, .inr (17, [.int 0, .ref a26, .ref a27, .int 0, .ref a28, .ref a29, .ref a30, .null, .null, .int 0, .ref a31, .ref a32, .ref a33, .int 0, .ref a34, .int 1])), (a27, .inl (z.2 7, 0, .inr (.inr (.inr (.inr (fun _ => none))))))] := hD
  refine W.eq (g2 := F0 m 784 ls [.int 0, .int 0]) rfl ?_
  refine lv_icmp_eq (tgt := 3072) hx hb d_law_784 (by decide) (fun _ => ?_) (fun c9 => absurd (by decide +kernel) c9)
  refine W.widen (k := 600002) (n := 7302232) (Nat.le_of_ble_eq_true rfl) (Nat.le_of_ble_eq_true rfl) ?_
  exact ht H locs ls hS (lv_sub hl [0, 5] rfl)
set_option maxRecDepth 100000 in
set_option maxHeartbeats 4000000 in
theorem L8_0 (l : Launch) (hl0 : l.stackTraces = false) (z : Zz) {p : Program} {e : Env} {s : State} {m : MethodId} {below : List Frame} {meth : Method} {c : Code} {A : Nat → Prop} {b : Nat} {xs : Nat → Int32} {Q : State → Prop} (hx : p.tables.exec = Jvm.exec) (hb : c.code = code) (hml : c.maxLocals = 9) (hts : ∀ w ∈ WG, w.before #[Value.ref b] s = true) (hown : s.vm.findClass "BallothallLaw" = some m.cls) (hA : ∀ q, s.heap.size ≤ q → A q) (hG : KG z s) (hZ : XZ A s) (hX : va_X b 4 xs s s.heap) (hbl : b < s.heap.size) (hbA : ¬ A b) (ht : ∀ (H : Heap) (locs : List Loc) (ls : Array Slot), va_S A s.heap H locs → lv_has ls 9 [(0, .ref b), (5, .int 0)] → W p l e room_1 s m #[Value.ref b] below meth c H locs 600002 7302232 Q (F0 m 3072 ls [])) (a0 : Nat) (a1 : Nat) (a2 : Nat) (a3 : Nat) (a4 : Nat) (a5 : Nat) (a6 : Nat) (a7 : Nat) (a8 : Nat) (a9 : Nat) (a10 : Nat) (a11 : Nat) (a12 : Nat) (a13 : Nat) (a14 : Nat) (a15 : Nat) (a16 : Nat) (a17 : Nat) (a18 : Nat) (h0 : (xs 1) < 0) (H : Heap) (locs : List Loc) (ls : Array Slot) (hP : va_P z.1 classes [(a0, .inr (11, [.ref a4, .ref a5, .ref a6, .ref a7, .ref a8, .ref a9, .ref a10, .ref a11, .ref a12, .ref a13, .int 0, .int 0, .ref a14, .int 0])), (a1, .inr (18, [.ref a15, .ref a16, .int 0, .ref a17, .int 0, .ref a18, .int 0, .null, .int 0, .null, .long 0, .int 0, .null]))] H) (hD : va_D A [(a0, .inr (11, [.ref a4, .ref a5, .ref a6, .ref a7, .ref a8, .ref a9, .ref a10, .ref a11, .ref a12, .ref a13, .int 0, .int 0, .ref a14, .int 0])), (a1, .inr (18, [.ref a15, .ref a16, .int 0, .ref a17, .int 0, .ref a18, .int 0, .null, .int 0, .null, .long 0, .int 0, .null]))]) (hS : va_S A s.heap H locs) (hl : lv_has ls 9 [(0, .ref b), (1, .ref a0), (2, .ref a1), (3, .ref a2), (4, .ref a3), (5, .int 0)]) : W p l e room_1 s m #[Value.ref b] below meth c H locs 265 8866 Q (F0 m 44 ls [.int 8]) := by
  refine lv_tableIn (tgt := 789) hx hb d_law_44 (by decide +kernel) (by decide +kernel) rfl (by decide) ?_
  refine lv_aload_n hx hb d_law_789 rfl (lv_at hl 1 rfl) ?_
  refine lv_aload_n hx hb d_law_790 rfl (lv_at hl 0 rfl) ?_
  refine lv_iload hx hb d_law_791 (lv_at hl 5 rfl) ?_
  refine lv_iconst (v := 1) hx hb d_law_793 (by decide +kernel) ?_
  refine lv_iadd hx hb d_law_794 ?_
  refine nrm (x1 := 1) (by decide +kernel) ?_
  refine va_sld hx hb hX hbl hbA hS (hin4 (i := 1) rfl) d_law_795 ?_
  refine nrm (x1 := xs 1) rfl ?_
  refine lv_aload_n hx hb d_law_796 rfl (lv_at hl 3 rfl) ?_
  refine kH (As := [.ref a0, .int (xs 1), .ref a2]) (rest := []) (wr := [(a1, .inr (18, [.ref a15, .ref a16, .int 0, .ref a17, .int 0, .ref a18, .int 0, .null, .int 0, .null, .long 0, .int 0, .null]))]) (c112_BLaw_list l z hl0 a0 a2 a4 a5 a6 a7 a8 a9 a10 a11 a12 a13 a14 (xs 1) h0) hx hb hml hown hts w_968 w_966 w_967 w_0 md_11ba39 ⟨Nat.le_of_ble_eq_true rfl, Nat.le_of_ble_eq_true rfl⟩ hG hZ hP hD hS hA [0] [1] rfl rfl rfl rfl rfl hl.1 rfl (Nat.le_of_ble_eq_true rfl) d_law_797 ⟨Nat.le_of_ble_eq_true rfl, Nat.le_of_ble_eq_true rfl⟩ (fun u0 H locs hP hD hS => ?_)
  have hP : va_P z.1 classes [(a1, .inr (18, [.ref a15, .ref a16, .int 0, .ref a17, .int 0, .ref a18, .int 0, .null, .int 0, .null, .long 0, .int 0, .null])), (a0, .inr (11, [.ref a4, .ref a5, .ref a6, .ref a7, .ref a8, .ref a9, .ref a10, .ref a11, .ref a12, .ref a13, .int 0, .int 0, .ref a14, .int 0]))] H := hP
  have hD : va_D A [(a1, .inr (18, [.ref a15, .ref a16, .int 0, .ref a17, .int 0, .ref a18, .int 0, .null, .int 0, .null, .long 0, .int 0, .null])), (a0, .inr (11, [.ref a4, .ref a5, .ref a6, .ref a7, .ref a8, .ref a9, .ref a10, .ref a11, .ref a12, .ref a13, .int 0, .int 0, .ref a14, .int 0]))] := hD
  refine W.eq (g2 := F0 m 800 ls [.int 1]) rfl ?_
  refine lv_istore (lv' := [(6, .int 1), (0, .ref b), (1, .ref a0), (2, .ref a1), (3, .ref a2), (4, .ref a3), (5, .int 0)]) hx hb d_law_800 hl (by decide) rfl (fun ls hl => ?_)
  refine lv_aload_n hx hb d_law_802 rfl (lv_at hl 3 rfl) ?_
  refine lv_aload_n hx hb d_law_803 rfl (lv_at hl 1 rfl) ?_
  refine lv_iload hx hb d_law_804 (lv_at hl 6 rfl) ?_
  refine lv_iconst (v := 1) hx hb d_law_806 (by decide +kernel) ?_
  refine lv_iadd hx hb d_law_807 ?_
  refine nrm (x1 := 1) (by decide +kernel) ?_
  refine va_sld hx hb hX hbl hbA hS (hin4 (i := 1) rfl) d_law_808 ?_
  refine nrm (x1 := xs 1) rfl ?_
  refine kV (As := [.int (xs 1)]) (rest := []) (wr := [(a0, .inr (11, [.ref a4, .ref a5, .ref a6, .ref a7, .ref a8, .ref a9, .ref a10, .ref a11, .ref a12, .ref a13, .int 0, .int 0, .ref a14, .int 0]))]) (c114_BModel_list l z a1 a15 a16 a17 a18 (xs 1) h0) hx hb hml hown hts w_1811 w_1808 w_1809 w_1810 w_12 md_c439e8 ⟨Nat.le_of_ble_eq_true rfl, Nat.le_of_ble_eq_true rfl⟩ hG hZ hP hD hS hA 0 rfl rfl rfl [0] [1] rfl rfl rfl rfl rfl hl.1 rfl (Nat.le_of_ble_eq_true rfl) d_law_809 ⟨Nat.le_of_ble_eq_true rfl, Nat.le_of_ble_eq_true rfl⟩ (fun u1 H locs hP hD hS => ?_)
  have hP : va_P z.1 classes [(a0, .inr (11, [.ref a4, .ref a5, .ref a6, .ref a7, .ref a8, .ref a9, .ref a10, .ref a11, .ref a12, .ref a13, .int 0, .int 0, .ref a14, .int 0])), (a1, .inr (18, [.ref a15, .ref a16, .int 0, .ref a17, .int 0, .ref a18, .int 1, .null, .int 0, .null, .long 0, .int 0, .null]))] H := hP
  have hD : va_D A [(a0, .inr (11, [.ref a4, .ref a5, .ref a6, .ref a7, .ref a8, .ref a9, .ref a10, .ref a11, .ref a12, .ref a13, .int 0, .int 0, .ref a14, .int 0])), (a1, .inr (18, [.ref a15, .ref a16, .int 0, .ref a17, .int 0, .ref a18, .int 1, .null, .int 0, .null, .long 0, .int 0, .null]))] := hD
  refine W.eq (g2 := F0 m 812 ls [.int 0]) rfl ?_
  refine lv_istore (lv' := [(7, .int 0), (6, .int 1), (0, .ref b), (1, .ref a0), (2, .ref a1), (3, .ref a2), (4, .ref a3), (5, .int 0)]) hx hb d_law_812 hl (by decide) rfl (fun ls hl => ?_)
  refine lv_aload_n hx hb d_law_814 rfl (lv_at hl 4 rfl) ?_
  refine kV (As := []) (rest := []) (wr := [(a0, .inr (11, [.ref a4, .ref a5, .ref a6, .ref a7, .ref a8, .ref a9, .ref a10, .ref a11, .ref a12, .ref a13, .int 0, .int 0, .ref a14, .int 0]))]) (c33_BModel_thrown l z a1 a15 a16 a17 a18) hx hb hml hown hts w_1688 w_1685 w_1686 w_1687 w_12 md_c48e0f ⟨Nat.le_of_ble_eq_true rfl, Nat.le_of_ble_eq_true rfl⟩ hG hZ hP hD hS hA 1 rfl rfl rfl [1] [0] rfl rfl rfl rfl rfl hl.1 rfl (Nat.le_of_ble_eq_true rfl) d_law_815 ⟨Nat.le_of_ble_eq_true rfl, Nat.le_of_ble_eq_true rfl⟩ (fun u2 H locs hP hD hS => ?_)
  have hP : va_P z.1 classes [(a0, .inr (11, [.ref a4, .ref a5, .ref a6, .ref a7, .ref a8, .ref a9, .ref a10, .ref a11, .ref a12, .ref a13, .int 0, .int 0, .ref a14, .int 0])), (a1, .inr (18, [.ref a15, .ref a16, .int 0, .ref a17, .int 0, .ref a18, .int 1, .null, .int 0, .null, .long 0, .int 0, .null]))] H := hP
  have hD : va_D A [(a0, .inr (11, [.ref a4, .ref a5, .ref a6, .ref a7, .ref a8, .ref a9, .ref a10, .ref a11, .ref a12, .ref a13, .int 0, .int 0, .ref a14, .int 0])), (a1, .inr (18, [.ref a15, .ref a16, .int 0, .ref a17, .int 0, .ref a18, .int 1, .null, .int 0, .null, .long 0, .int 0, .null]))] := hD
  refine W.eq (g2 := F0 m 818 ls [.int 1]) rfl ?_
  refine lv_iload hx hb d_law_818 (lv_at hl 1 rfl) ?_
  refine lv_icmp_eq (tgt := 825) hx hb d_law_820 (by decide) (fun _ => ?_) (fun c9 => absurd (by decide +kernel) c9)
  refine lv_iload hx hb d_law_825 (lv_at hl 1 rfl) ?_
  refine lv_if_ne (tgt := 842) hx hb d_law_827 (by decide) (fun _ => ?_) (fun c9 => absurd c9 (by decide +kernel))
  refine lv_goto (tgt := 3072) hx hb d_law_842 (by decide) ?_
  refine W.widen (k := 600002) (n := 7302232) (Nat.le_of_ble_eq_true rfl) (Nat.le_of_ble_eq_true rfl) ?_
  exact ht H locs ls hS (lv_sub hl [2, 7] rfl)
set_option maxRecDepth 100000 in
set_option maxHeartbeats 4000000 in
theorem L8_1 (l : Launch) (hl0 : l.stackTraces = false) (z : Zz) {p : Program} {e : Env} {s : State} {m : MethodId} {below : List Frame} {meth : Method} {c : Code} {A : Nat → Prop} {b : Nat} {xs : Nat → Int32} {Q : State → Prop} (hx : p.tables.exec = Jvm.exec) (hb : c.code = code) (hml : c.maxLocals = 9) (hts : ∀ w ∈ WG, w.before #[Value.ref b] s = true) (hown : s.vm.findClass "BallothallLaw" = some m.cls) (hA : ∀ q, s.heap.size ≤ q → A q) (hG : KG z s) (hZ : XZ A s) (hX : va_X b 4 xs s s.heap) (hbl : b < s.heap.size) (hbA : ¬ A b) (ht : ∀ (H : Heap) (locs : List Loc) (ls : Array Slot), va_S A s.heap H locs → lv_has ls 9 [(0, .ref b), (5, .int 0)] → W p l e room_1 s m #[Value.ref b] below meth c H locs 600002 7302232 Q (F0 m 3072 ls [])) (a0 : Nat) (a1 : Nat) (a2 : Nat) (a3 : Nat) (a4 : Nat) (a5 : Nat) (a6 : Nat) (a7 : Nat) (a8 : Nat) (a9 : Nat) (a10 : Nat) (a11 : Nat) (a12 : Nat) (a13 : Nat) (a14 : Nat) (a15 : Nat) (a16 : Nat) (a17 : Nat) (a18 : Nat) (h0 : ¬ (xs 1) < 0) (h1 : 10000000 < (xs 1)) (H : Heap) (locs : List Loc) (ls : Array Slot) (hP : va_P z.1 classes [(a0, .inr (11, [.ref a4, .ref a5, .ref a6, .ref a7, .ref a8, .ref a9, .ref a10, .ref a11, .ref a12, .ref a13, .int 0, .int 0, .ref a14, .int 0])), (a1, .inr (18, [.ref a15, .ref a16, .int 0, .ref a17, .int 0, .ref a18, .int 0, .null, .int 0, .null, .long 0, .int 0, .null]))] H) (hD : va_D A [(a0, .inr (11, [.ref a4, .ref a5, .ref a6, .ref a7, .ref a8, .ref a9, .ref a10, .ref a11, .ref a12, .ref a13, .int 0, .int 0, .ref a14, .int 0])), (a1, .inr (18, [.ref a15, .ref a16, .int 0, .ref a17, .int 0, .ref a18, .int 0, .null, .int 0, .null, .long 0, .int 0, .null]))]) (hS : va_S A s.heap H locs) (hl : lv_has ls 9 [(0, .ref b), (1, .ref a0), (2, .ref a1), (3, .ref a2), (4, .ref a3), (5, .int 0)]) : W p l e room_1 s m #[Value.ref b] below meth c H locs 265 8866 Q (F0 m 44 ls [.int 8]) := by
  refine lv_tableIn (tgt := 789) hx hb d_law_44 (by decide +kernel) (by decide +kernel) rfl (by decide) ?_
  refine lv_aload_n hx hb d_law_789 rfl (lv_at hl 1 rfl) ?_
  refine lv_aload_n hx hb d_law_790 rfl (lv_at hl 0 rfl) ?_
  refine lv_iload hx hb d_law_791 (lv_at hl 5 rfl) ?_
  refine lv_iconst (v := 1) hx hb d_law_793 (by decide +kernel) ?_
  refine lv_iadd hx hb d_law_794 ?_
  refine nrm (x1 := 1) (by decide +kernel) ?_
  refine va_sld hx hb hX hbl hbA hS (hin4 (i := 1) rfl) d_law_795 ?_
  refine nrm (x1 := xs 1) rfl ?_
  refine lv_aload_n hx hb d_law_796 rfl (lv_at hl 3 rfl) ?_
  refine kH (As := [.ref a0, .int (xs 1), .ref a2]) (rest := []) (wr := [(a1, .inr (18, [.ref a15, .ref a16, .int 0, .ref a17, .int 0, .ref a18, .int 0, .null, .int 0, .null, .long 0, .int 0, .null]))]) (c117_BLaw_list l z hl0 a0 a2 a4 a5 a6 a7 a8 a9 a10 a11 a12 a13 a14 (xs 1) h0 h1) hx hb hml hown hts w_968 w_966 w_967 w_0 md_11ba39 ⟨Nat.le_of_ble_eq_true rfl, Nat.le_of_ble_eq_true rfl⟩ hG hZ hP hD hS hA [0] [1] rfl rfl rfl rfl rfl hl.1 rfl (Nat.le_of_ble_eq_true rfl) d_law_797 ⟨Nat.le_of_ble_eq_true rfl, Nat.le_of_ble_eq_true rfl⟩ (fun u0 H locs hP hD hS => ?_)
  have hP : va_P z.1 classes [(a1, .inr (18, [.ref a15, .ref a16, .int 0, .ref a17, .int 0, .ref a18, .int 0, .null, .int 0, .null, .long 0, .int 0, .null])), (a0, .inr (11, [.ref a4, .ref a5, .ref a6, .ref a7, .ref a8, .ref a9, .ref a10, .ref a11, .ref a12, .ref a13, .int 0, .int 0, .ref a14, .int 0]))] H := hP
  have hD : va_D A [(a1, .inr (18, [.ref a15, .ref a16, .int 0, .ref a17, .int 0, .ref a18, .int 0, .null, .int 0, .null, .long 0, .int 0, .null])), (a0, .inr (11, [.ref a4, .ref a5, .ref a6, .ref a7, .ref a8, .ref a9, .ref a10, .ref a11, .ref a12, .ref a13, .int 0, .int 0, .ref a14, .int 0]))] := hD
  refine W.eq (g2 := F0 m 800 ls [.int 1]) rfl ?_
  refine lv_istore (lv' := [(6, .int 1), (0, .ref b), (1, .ref a0), (2, .ref a1), (3, .ref a2), (4, .ref a3), (5, .int 0)]) hx hb d_law_800 hl (by decide) rfl (fun ls hl => ?_)
  refine lv_aload_n hx hb d_law_802 rfl (lv_at hl 3 rfl) ?_
  refine lv_aload_n hx hb d_law_803 rfl (lv_at hl 1 rfl) ?_
  refine lv_iload hx hb d_law_804 (lv_at hl 6 rfl) ?_
  refine lv_iconst (v := 1) hx hb d_law_806 (by decide +kernel) ?_
  refine lv_iadd hx hb d_law_807 ?_
  refine nrm (x1 := 1) (by decide +kernel) ?_
  refine va_sld hx hb hX hbl hbA hS (hin4 (i := 1) rfl) d_law_808 ?_
  refine nrm (x1 := xs 1) rfl ?_
  refine kV (As := [.int (xs 1)]) (rest := []) (wr := [(a0, .inr (11, [.ref a4, .ref a5, .ref a6, .ref a7, .ref a8, .ref a9, .ref a10, .ref a11, .ref a12, .ref a13, .int 0, .int 0, .ref a14, .int 0]))]) (c119_BModel_list l z a1 a15 a16 a17 a18 (xs 1) h0 h1) hx hb hml hown hts w_1811 w_1808 w_1809 w_1810 w_12 md_c439e8 ⟨Nat.le_of_ble_eq_true rfl, Nat.le_of_ble_eq_true rfl⟩ hG hZ hP hD hS hA 0 rfl rfl rfl [0] [1] rfl rfl rfl rfl rfl hl.1 rfl (Nat.le_of_ble_eq_true rfl) d_law_809 ⟨Nat.le_of_ble_eq_true rfl, Nat.le_of_ble_eq_true rfl⟩ (fun u1 H locs hP hD hS => ?_)
  have hP : va_P z.1 classes [(a0, .inr (11, [.ref a4, .ref a5, .ref a6, .ref a7, .ref a8, .ref a9, .ref a10, .ref a11, .ref a12, .ref a13, .int 0, .int 0, .ref a14, .int 0])), (a1, .inr (18, [.ref a15, .ref a16, .int 0, .ref a17, .int 0, .ref a18, .int 1, .null, .int 0, .null, .long 0, .int 0, .null]))] H := hP
  have hD : va_D A [(a0, .inr (11, [.ref a4, .ref a5, .ref a6, .ref a7, .ref a8, .ref a9, .ref a10, .ref a11, .ref a12, .ref a13, .int 0, .int 0, .ref a14, .int 0])), (a1, .inr (18, [.ref a15, .ref a16, .int 0, .ref a17, .int 0, .ref a18, .int 1, .null, .int 0, .null, .long 0, .int 0, .null]))] := hD
  refine W.eq (g2 := F0 m 812 ls [.int 0]) rfl ?_
  refine lv_istore (lv' := [(7, .int 0), (6, .int 1), (0, .ref b), (1, .ref a0), (2, .ref a1), (3, .ref a2), (4, .ref a3), (5, .int 0)]) hx hb d_law_812 hl (by decide) rfl (fun ls hl => ?_)
  refine lv_aload_n hx hb d_law_814 rfl (lv_at hl 4 rfl) ?_
  refine kV (As := []) (rest := []) (wr := [(a0, .inr (11, [.ref a4, .ref a5, .ref a6, .ref a7, .ref a8, .ref a9, .ref a10, .ref a11, .ref a12, .ref a13, .int 0, .int 0, .ref a14, .int 0]))]) (c33_BModel_thrown l z a1 a15 a16 a17 a18) hx hb hml hown hts w_1688 w_1685 w_1686 w_1687 w_12 md_c48e0f ⟨Nat.le_of_ble_eq_true rfl, Nat.le_of_ble_eq_true rfl⟩ hG hZ hP hD hS hA 1 rfl rfl rfl [1] [0] rfl rfl rfl rfl rfl hl.1 rfl (Nat.le_of_ble_eq_true rfl) d_law_815 ⟨Nat.le_of_ble_eq_true rfl, Nat.le_of_ble_eq_true rfl⟩ (fun u2 H locs hP hD hS => ?_)
  have hP : va_P z.1 classes [(a0, .inr (11, [.ref a4, .ref a5, .ref a6, .ref a7, .ref a8, .ref a9, .ref a10, .ref a11, .ref a12, .ref a13, .int 0, .int 0, .ref a14, .int 0])), (a1, .inr (18, [.ref a15, .ref a16, .int 0, .ref a17, .int 0, .ref a18, .int 1, .null, .int 0, .null, .long 0, .int 0, .null]))] H := hP
  have hD : va_D A [(a0, .inr (11, [.ref a4, .ref a5, .ref a6, .ref a7, .ref a8, .ref a9, .ref a10, .ref a11, .ref a12, .ref a13, .int 0, .int 0, .ref a14, .int 0])), (a1, .inr (18, [.ref a15, .ref a16, .int 0, .ref a17, .int 0, .ref a18, .int 1, .null, .int 0, .null, .long 0, .int 0, .null]))] := hD
  refine W.eq (g2 := F0 m 818 ls [.int 1]) rfl ?_
  refine lv_iload hx hb d_law_818 (lv_at hl 1 rfl) ?_
  refine lv_icmp_eq (tgt := 825) hx hb d_law_820 (by decide) (fun _ => ?_) (fun c9 => absurd (by decide +kernel) c9)
  refine lv_iload hx hb d_law_825 (lv_at hl 1 rfl) ?_
  refine lv_if_ne (tgt := 842) hx hb d_law_827 (by decide) (fun _ => ?_) (fun c9 => absurd c9 (by decide +kernel))
  refine lv_goto (tgt := 3072) hx hb d_law_842 (by decide) ?_
  refine W.widen (k := 600002) (n := 7302232) (Nat.le_of_ble_eq_true rfl) (Nat.le_of_ble_eq_true rfl) ?_
  exact ht H locs ls hS (lv_sub hl [2, 7] rfl)
set_option maxRecDepth 100000 in
set_option maxHeartbeats 4000000 in
theorem L8_2 (l : Launch) (hl0 : l.stackTraces = false) (z : Zz) {p : Program} {e : Env} {s : State} {m : MethodId} {below : List Frame} {meth : Method} {c : Code} {A : Nat → Prop} {b : Nat} {xs : Nat → Int32} {Q : State → Prop} (hx : p.tables.exec = Jvm.exec) (hb : c.code = code) (hml : c.maxLocals = 9) (hts : ∀ w ∈ WG, w.before #[Value.ref b] s = true) (hown : s.vm.findClass "BallothallLaw" = some m.cls) (hA : ∀ q, s.heap.size ≤ q → A q) (hG : KG z s) (hZ : XZ A s) (hX : va_X b 4 xs s s.heap) (hbl : b < s.heap.size) (hbA : ¬ A b) (ht : ∀ (H : Heap) (locs : List Loc) (ls : Array Slot), va_S A s.heap H locs → lv_has ls 9 [(0, .ref b), (5, .int 0)] → W p l e room_1 s m #[Value.ref b] below meth c H locs 600002 7302232 Q (F0 m 3072 ls [])) (a0 : Nat) (a1 : Nat) (a2 : Nat) (a3 : Nat) (a4 : Nat) (a5 : Nat) (a6 : Nat) (a7 : Nat) (a8 : Nat) (a9 : Nat) (a10 : Nat) (a11 : Nat) (a12 : Nat) (a13 : Nat) (a14 : Nat) (a15 : Nat) (a16 : Nat) (a17 : Nat) (a18 : Nat) (a19 : Nat) (a20 : Nat) (a21 : Nat) (a22 : Nat) (a23 : Nat) (a24 : Nat) (a25 : Nat) (a26 : Nat) (a27 : Nat) (a28 : Nat) (a29 : Nat) (a30 : Nat) (a31 : Nat) (a32 : Nat) (a33 : Nat) (a34 : Nat) (a35 : Nat) (h0 : ¬ (xs 1) < 0) (h1 : ¬ 10000000 < (xs 1)) (H : Heap) (locs : List Loc) (ls : Array Slot) (hP : va_P z.1 classes [(a0, .inr (11, [.ref a4, .ref a5, .ref a6, .ref a7, .ref a8, .ref a9, .ref a10, .ref a11, .ref a12, .ref a13, .int 0, .int 0, .ref a14, .int 0])), (a7, .inr (7, [.int 0, .ref a15, .ref a16, .ref a17, .ref a18, .ref a19, .int 0, .ref a20, .ref a21, .ref a22, .int 0])), (a15, .inl (z.2 0, 8, .inl (fun _ => 0))), (a16, .inl (z.2 0, 8, .inl (fun _ => 0))), (a17, .inl (z.2 0, 8, .inl (fun _ => 0))), (a11, .inl (z.2 0, 20, .inl (fun _ => 0))), (a12, .inl (z.2 0, 20, .inl (fun _ => 0))), (a13, .inl (z.2 0, 20, .inl (fun _ => 0))), (a2, .inl (z.2 1, 1, .inr (.inl (fun _ => 0)))), (a1, .inr (18, [.ref a23, .ref a24, .int 0, .ref a25, .int 0, .ref a26, .int 0, .null, .int 0, .null, .long 0, .int 0, .null])), (a23, .inr (17, [.int 0, .ref a27, .ref a28, .int 0, .ref a29, .ref a30, .ref a31, .null, .null, .int 0, .ref a32, .ref a33, .ref a34, .int 0, .ref a35, .int 1])), (a27, .inl (z.2 0, 8, .inl (fun _ => 0))), (a29, .inl (z.2 0, 8, .inl (fun _ => 0))), (a30, .inl (z.2 0, 8, .inl (fun _ => 0))), (a31, .inl (z.2 0, 8, .inl (fun _ => 0))), (a32, .inl (z.2 0, 16, .inl (fun _ => 0))), (a33, .inl (z.2 0, 16, .inl (fun _ => 0))), (a34, .inl (z.2 0, 16, .inl (fun _ => 0))), (a35, .inl (z.2 0, 12, .inl (fun _ => 0))), (a24, .inl (z.2 6, 20, .inr (.inr (.inr (.inr (fun _ => none))))))] H) (hD : va_D A [(a0, .inr (11, [.ref a4, .ref a5, .ref a6, .ref a7, .ref a8, .ref a9, .ref a10, .ref a11, .ref a12, .ref a13, .int 0, .int 0, .ref a14, .int 0])), (a7, .inr (7, [.int 0, .ref a15, .ref a16, .ref a17, .ref a18, .ref a19, .int 0, .ref a20, .ref a21, .ref a22, .int 0])), (a15, .inl (z.2 0, 8, .inl (fun _ => 0))), (a16, .inl (z.2 0, 8, .inl (fun _ => 0))), (a17, .inl (z.2 0, 8, .inl (fun _ => 0))), (a11, .inl (z.2 0, 20, .inl (fun _ => 0))), (a12, .inl (z.2 0, 20, .inl (fun _ => 0))), (a13, .inl (z.2 0, 20, .inl (fun _ => 0))), (a2, .inl (z.2 1, 1, .inr (.inl (fun _ => 0)))), (a1, .inr (18, [.ref a23, .ref a24, .int 0, .ref a25, .int 0, .ref a26, .int 0, .null, .int 0, .null, .long 0, .int 0, .null])), (a23, .inr (17, [.int 0, .ref a27, .ref a28, .int 0, .ref a29, .ref a30, .ref a31, .null, .null, .int 0, .ref a32, .ref a33, .ref a34, .int 0, .ref a35, .int 1])), (a27, .inl (z.2 0, 8, .inl (fun _ => 0))), (a29, .inl (z.2 0, 8, .inl (fun _ => 0))), (a30, .inl (z.2 0, 8, .inl (fun _ => 0))), (a31, .inl (z.2 0, 8, .inl (fun _ => 0))), (a32, .inl (z.2 0, 16, .inl (fun _ => 0))), (a33, .inl (z.2 0, 16, .inl (fun _ => 0))), (a34, .inl (z.2 0, 16, .inl (fun _ => 0))), (a35, .inl (z.2 0, 12, .inl (fun _ => 0))), (a24, .inl (z.2 6, 20, .inr (.inr (.inr (.inr (fun _ => none))))))]) (hS : va_S A s.heap H locs) (hl : lv_has ls 9 [(0, .ref b), (1, .ref a0), (2, .ref a1), (3, .ref a2), (4, .ref a3), (5, .int 0)]) : W p l e room_1 s m #[Value.ref b] below meth c H locs 265 8866 Q (F0 m 44 ls [.int 8]) := by
  refine lv_tableIn (tgt := 789) hx hb d_law_44 (by decide +kernel) (by decide +kernel) rfl (by decide) ?_
  refine lv_aload_n hx hb d_law_789 rfl (lv_at hl 1 rfl) ?_
  refine lv_aload_n hx hb d_law_790 rfl (lv_at hl 0 rfl) ?_
  refine lv_iload hx hb d_law_791 (lv_at hl 5 rfl) ?_
  refine lv_iconst (v := 1) hx hb d_law_793 (by decide +kernel) ?_
  refine lv_iadd hx hb d_law_794 ?_
  refine nrm (x1 := 1) (by decide +kernel) ?_
  refine va_sld hx hb hX hbl hbA hS (hin4 (i := 1) rfl) d_law_795 ?_
  refine nrm (x1 := xs 1) rfl ?_
  refine lv_aload_n hx hb d_law_796 rfl (lv_at hl 3 rfl) ?_
  refine kH (As := [.ref a0, .int (xs 1), .ref a2]) (rest := []) (wr := [(a1, .inr (18, [.ref a23, .ref a24, .int 0, .ref a25, .int 0, .ref a26, .int 0, .null, .int 0, .null, .long 0, .int 0, .null])), (a23, .inr (17, [.int 0, .ref a27, .ref a28, .int 0, .ref a29, .ref a30, .ref a31, .null, .null, .int 0, .ref a32, .ref a33, .ref a34, .int 0, .ref a35, .int 1])), (a27, .inl (z.2 0, 8, .inl (fun _ => 0))), (a29, .inl (z.2 0, 8, .inl (fun _ => 0))), (a30, .inl (z.2 0, 8, .inl (fun _ => 0))), (a31, .inl (z.2 0, 8, .inl (fun _ => 0))), (a32, .inl (z.2 0, 16, .inl (fun _ => 0))), (a33, .inl (z.2 0, 16, .inl (fun _ => 0))), (a34, .inl (z.2 0, 16, .inl (fun _ => 0))), (a35, .inl (z.2 0, 12, .inl (fun _ => 0))), (a24, .inl (z.2 6, 20, .inr (.inr (.inr (.inr (fun _ => none))))))]) (c124_BLaw_list l z a0 a2 a4 a5 a6 a7 a8 a9 a10 a11 a12 a13 a14 a15 a16 a17 a18 a19 a20 a21 a22 (xs 1) h0 h1) hx hb hml hown hts w_968 w_966 w_967 w_0 md_11ba39 ⟨Nat.le_of_ble_eq_true rfl, Nat.le_of_ble_eq_true rfl⟩ hG hZ hP hD hS hA [0, 1, 2, 3, 4, 5, 6, 7, 8] [9, 10, 11, 12, 13, 14, 15, 16, 17, 18, 19] rfl rfl rfl rfl rfl hl.1 rfl (Nat.le_of_ble_eq_true rfl) d_law_797 ⟨Nat.le_of_ble_eq_true rfl, Nat.le_of_ble_eq_true rfl⟩ (fun u0 H locs hP hD hS => ?_)
  have hP : va_P z.1 classes [(a1, .inr (18, [.ref a23, .ref a24, .int 0, .ref a25, .int 0, .ref a26, .int 0, .null, .int 0, .null, .long 0, .int 0, .null])), (a23, .inr (17, [.int 0, .ref a27, .ref a28, .int 0, .ref a29, .ref a30, .ref a31, .null, .null, .int 0, .ref a32, .ref a33, .ref a34, .int 0, .ref a35, .int 1])), (a27, .inl (z.2 0, 8, .inl (fun _ => 0))), (a29, .inl (z.2 0, 8, .inl (fun _ => 0))), (a30, .inl (z.2 0, 8, .inl (fun _ => 0))), (a31, .inl (z.2 0, 8, .inl (fun _ => 0))), (a32, .inl (z.2 0, 16, .inl (fun _ => 0))), (a33, .inl (z.2 0, 16, .inl (fun _ => 0))), (a34, .inl (z.2 0, 16, .inl (fun _ => 0))), (a35, .inl (z.2 0, 12, .inl (fun _ => 0))), (a24, .inl (z.2 6, 20, .inr (.inr (.inr (.inr (fun _ => none)))))), (a0, .inr (11, [.ref a4, .ref a5, .ref a6, .ref a7, .ref a8, .ref a9, .ref a10, .ref a11, .ref a12, .ref a13, .int 1, .int 1, .ref a14, .int 0])), (a7, .inr (7, [.int 1, .ref a15, .ref a16, .ref a17, .ref a18, .ref a19, .int 0, .ref a20, .ref a21, .ref a22, .int 0])), (a15, .inl (z.2 0, 8, .inl (upd (fun _ => 0) 0 (xs 1)))), (a16, .inl (z.2 0, 8, .inl (fun _ => 0))), (a17, .inl (z.2 0, 8, .inl (fun _ => 0))), (a11, .inl (z.2 0, 20, .inl (upd (fun _ => 0) 1 5))), (a12, .inl (z.2 0, 20, .inl (fun _ => 0))), (a13, .inl (z.2 0, 20, .inl (fun _ => 0))), (a2, .inl (z.2 1, 1, .inr (.inl (fun _ => 0))))] H := hP
  have hD : va_D A [(a1, .inr (18, [.ref a23, .ref a24, .int 0, .ref a25, .int 0, .ref a26, .int 0, .null, .int 0, .null, .long 0, .int 0, .null])), (a23, .inr (17, [.int 0, .ref a27, .ref a28, .int 0, .ref a29, .ref a30, .ref a31, .null, .null, .int 0, .ref a32, .ref a33, .ref a34, .int 0, .ref a35, .int 1])), (a27, .inl (z.2 0, 8, .inl (fun _ => 0))), (a29, .inl (z.2 0, 8, .inl (fun _ => 0))), (a30, .inl (z.2 0, 8, .inl (fun _ => 0))), (a31, .inl (z.2 0, 8, .inl (fun _ => 0))), (a32, .inl (z.2 0, 16, .inl (fun _ => 0))), (a33, .inl (z.2 0, 16, .inl (fun _ => 0))), (a34, .inl (z.2 0, 16, .inl (fun _ => 0))), (a35, .inl (z.2 0, 12, .inl (fun _ => 0))), (a24, .inl (z.2 6, 20, .inr (.inr (.inr (.inr (fun _ => none)))))), (a0, .inr (11, [.ref a4, .ref a5, .ref a6, .ref a7, .ref a8, .ref a9, .ref a10, .ref a11, .ref a12, .ref a13, .int 1, .int 1, .ref a14, .int 0])), (a7, .inr (7, [.int 1, .ref a15, .ref a16, .ref a17, .ref a18, .ref a19, .int 0, .ref a20, .ref a21, .ref a22, .int 0])), (a15, .inl (z.2 0, 8, .inl (upd (fun _ => 0) 0 (xs 1)))), (a16, .inl (z.2 0, 8, .inl (fun _ => 0))), (a17, .inl (z.2 0, 8, .inl (fun _ => 0))), (a11, .inl (z.2 0, 20, .inl (upd (fun _ => 0) 1 5))), (a12, .inl (z.2 0, 20, .inl (fun _ => 0))), (a13, .inl (z.2 0, 20, .inl (fun _ => 0))), (a2, .inl (z.2 1, 1, .inr (.inl (fun _ => 0))))] := hD
  refine W.eq (g2 := F0 m 800 ls [.int 0]) rfl ?_
  refine lv_istore (lv' := [(6, .int 0), (0, .ref b), (1, .ref a0), (2, .ref a1), (3, .ref a2), (4, .ref a3), (5, .int 0)]) hx hb d_law_800 hl (by decide) rfl (fun ls hl => ?_)
  refine lv_aload_n hx hb d_law_802 rfl (lv_at hl 3 rfl) ?_
  refine lv_aload_n hx hb d_law_803 rfl (lv_at hl 1 rfl) ?_
  refine lv_iload hx hb d_law_804 (lv_at hl 6 rfl) ?_
  refine lv_iconst (v := 1) hx hb d_law_806 (by decide +kernel) ?_
  refine lv_iadd hx hb d_law_807 ?_
  refine nrm (x1 := 1) (by decide +kernel) ?_
  refine va_sld hx hb hX hbl hbA hS (hin4 (i := 1) rfl) d_law_808 ?_
  refine nrm (x1 := xs 1) rfl ?_
  refine kV (As := [.int (xs 1)]) (rest := []) (wr := [(a0, .inr (11, [.ref a4, .ref a5, .ref a6, .ref a7, .ref a8, .ref a9, .ref a10, .ref a11, .ref a12, .ref a13, .int 1, .int 1, .ref a14, .int 0])), (a7, .inr (7, [.int 1, .ref a15, .ref a16, .ref a17, .ref a18, .ref a19, .int 0, .ref a20, .ref a21, .ref a22, .int 0])), (a15, .inl (z.2 0, 8, .inl (upd (fun _ => 0) 0 (xs 1)))), (a16, .inl (z.2 0, 8, .inl (fun _ => 0))), (a17, .inl (z.2 0, 8, .inl (fun _ => 0))), (a11, .inl (z.2 0, 20, .inl (upd (fun _ => 0) 1 5))), (a12, .inl (z.2 0, 20, .inl (fun _ => 0))), (a13, .inl (z.2 0, 20, .inl (fun _ => 0))), (a2, .inl (z.2 1, 1, .inr (.inl (fun _ => 0))))]) (c127_BModel_list l z a1 a23 a24 a25 a26 a27 a28 a29 a30 a31 a32 a33 a34 a35 (xs 1) h0 h1) hx hb hml hown hts w_1811 w_1808 w_1809 w_1810 w_12 md_c439e8 ⟨Nat.le_of_ble_eq_true rfl, Nat.le_of_ble_eq_true rfl⟩ hG hZ hP hD hS hA 0 rfl rfl rfl [0, 1, 2, 3, 4, 5, 6, 7, 8, 9, 10] [11, 12, 13, 14, 15, 16, 17, 18, 19] rfl rfl rfl rfl rfl hl.1 rfl (Nat.le_of_ble_eq_true rfl) d_law_809 ⟨Nat.le_of_ble_eq_true rfl, Nat.le_of_ble_eq_true rfl⟩ (fun u1 H locs hP hD hS => ?_)
  have hP : va_P z.1 classes [(a0, .inr (11, [.ref a4, .ref a5, .ref a6, .ref a7, .ref a8, .ref a9, .ref a10, .ref a11, .ref a12, .ref a13, .int 1, .int 1, .ref a14, .int 0])), (a7, .inr (7, [.int 1, .ref a15, .ref a16, .ref a17, .ref a18, .ref a19, .int 0, .ref a20, .ref a21, .ref a22, .int 0])), (a15, .inl (z.2 0, 8, .inl (upd (fun _ => 0) 0 (xs 1)))), (a16, .inl (z.2 0, 8, .inl (fun _ => 0))), (a17, .inl (z.2 0, 8, .inl (fun _ => 0))), (a11, .inl (z.2 0, 20, .inl (upd (fun _ => 0) 1 5))), (a12, .inl (z.2 0, 20, .inl (fun _ => 0))), (a13, .inl (z.2 0, 20, .inl (fun _ => 0))), (a2, .inl (z.2 1, 1, .inr (.inl (fun _ => 0)))), (a1, .inr (18, [.ref a23, .ref a24, .int 1, .ref a25, .int 0, .ref a26, .int 0, .null, .int 0, .null, .long 0, .int 0, .null])), (a23, .inr (17, [.int 0, .ref a27, .ref a28, .int 1, .ref a29, .ref a30, .ref a31, .null, .null, .int 0, .ref a32, .ref a33, .ref a34, .int 0, .ref a35, .int 1])), (a27, .inl (z.2 0, 8, .inl (fun _ => 0))), (a29, .inl (z.2 0, 8, .inl (upd (fun _ => 0) 0 (xs 1)))), (a30, .inl (z.2 0, 8, .inl (fun _ => 0))), (a31, .inl (z.2 0, 8, .inl (fun _ => 0))), (a32, .inl (z.2 0, 16, .inl (fun _ => 0))), (a33, .inl (z.2 0, 16, .inl (fun _ => 0))), (a34, .inl (z.2 0, 16, .inl (fun _ => 0))), (a35, .inl (z.2 0, 12, .inl (fun _ => 0))), (a24, .inl (z.2 6, 20, .inr (.inr (.inr (.inr (va_up (fun _ => none) 0 (some (u1.1 0))))))))] H := hP
  have hD : va_D A [(a0, .inr (11, [.ref a4, .ref a5, .ref a6, .ref a7, .ref a8, .ref a9, .ref a10, .ref a11, .ref a12, .ref a13, .int 1, .int 1, .ref a14, .int 0])), (a7, .inr (7, [.int 1, .ref a15, .ref a16, .ref a17, .ref a18, .ref a19, .int 0, .ref a20, .ref a21, .ref a22, .int 0])), (a15, .inl (z.2 0, 8, .inl (upd (fun _ => 0) 0 (xs 1)))), (a16, .inl (z.2 0, 8, .inl (fun _ => 0))), (a17, .inl (z.2 0, 8, .inl (fun _ => 0))), (a11, .inl (z.2 0, 20, .inl (upd (fun _ => 0) 1 5))), (a12, .inl (z.2 0, 20, .inl (fun _ => 0))), (a13, .inl (z.2 0, 20, .inl (fun _ => 0))), (a2, .inl (z.2 1, 1, .inr (.inl (fun _ => 0)))), (a1, .inr (18, [.ref a23, .ref a24, .int 1, .ref a25, .int 0, .ref a26, .int 0, .null, .int 0, .null, .long 0, .int 0, .null])), (a23, .inr (17, [.int 0, .ref a27, .ref a28, .int 1, .ref a29, .ref a30, .ref a31, .null, .null, .int 0, .ref a32, .ref a33, .ref a34, .int 0, .ref a35, .int 1])), (a27, .inl (z.2 0, 8, .inl (fun _ => 0))), (a29, .inl (z.2 0, 8, .inl (upd (fun _ => 0) 0 (xs 1)))), (a30, .inl (z.2 0, 8, .inl (fun _ => 0))), (a31, .inl (z.2 0, 8, .inl (fun _ => 0))), (a32, .inl (z.2 0, 16, .inl (fun _ => 0))), (a33, .inl (z.2 0, 16, .inl (fun _ => 0))), (a34, .inl (z.2 0, 16, .inl (fun _ => 0))), (a35, .inl (z.2 0, 12, .inl (fun _ => 0))), (a24, .inl (z.2 6, 20, .inr (.inr (.inr (.inr (va_up (fun _ => none) 0 (some (u1.1 0))))))))] := hD
  refine W.eq (g2 := F0 m 812 ls [.int 0]) rfl ?_
  refine lv_istore (lv' := [(7, .int 0), (6, .int 0), (0, .ref b), (1, .ref a0), (2, .ref a1), (3, .ref a2), (4, .ref a3), (5, .int 0)]) hx hb d_law_812 hl (by decide) rfl (fun ls hl => ?_)
  refine lv_aload_n hx hb d_law_814 rfl (lv_at hl 4 rfl) ?_
  refine kV (As := []) (rest := []) (wr := [(a0, .inr (11, [.ref a4, .ref a5, .ref a6, .ref a7, .ref a8, .ref a9, .ref a10, .ref a11, .ref a12, .ref a13, .int 1, .int 1, .ref a14, .int 0])), (a7, .inr (7, [.int 1, .ref a15, .ref a16, .ref a17, .ref a18, .ref a19, .int 0, .ref a20, .ref a21, .ref a22, .int 0])), (a15, .inl (z.2 0, 8, .inl (upd (fun _ => 0) 0 (xs 1)))), (a16, .inl (z.2 0, 8, .inl (fun _ => 0))), (a17, .inl (z.2 0, 8, .inl (fun _ => 0))), (a11, .inl (z.2 0, 20, .inl (upd (fun _ => 0) 1 5))), (a12, .inl (z.2 0, 20, .inl (fun _ => 0))), (a13, .inl (z.2 0, 20, .inl (fun _ => 0))), (a2, .inl (z.2 1, 1, .inr (.inl (fun _ => 0)))), (a23, .inr (17, [.int 0, .ref a27, .ref a28, .int 1, .ref a29, .ref a30, .ref a31, .null, .null, .int 0, .ref a32, .ref a33, .ref a34, .int 0, .ref a35, .int 1])), (a27, .inl (z.2 0, 8, .inl (fun _ => 0))), (a29, .inl (z.2 0, 8, .inl (upd (fun _ => 0) 0 (xs 1)))), (a30, .inl (z.2 0, 8, .inl (fun _ => 0))), (a31, .inl (z.2 0, 8, .inl (fun _ => 0))), (a32, .inl (z.2 0, 16, .inl (fun _ => 0))), (a33, .inl (z.2 0, 16, .inl (fun _ => 0))), (a34, .inl (z.2 0, 16, .inl (fun _ => 0))), (a35, .inl (z.2 0, 12, .inl (fun _ => 0))), (a24, .inl (z.2 6, 20, .inr (.inr (.inr (.inr (va_up (fun _ => none) 0 (some (u1.1 0))))))))]) (c25_BModel_thrown l z a1 a23 a24 a25 a26) hx hb hml hown hts w_1688 w_1685 w_1686 w_1687 w_12 md_c48e0f ⟨Nat.le_of_ble_eq_true rfl, Nat.le_of_ble_eq_true rfl⟩ hG hZ hP hD hS hA 9 rfl rfl rfl [9] [0, 1, 2, 3, 4, 5, 6, 7, 8, 10, 11, 12, 13, 14, 15, 16, 17, 18, 19] rfl rfl rfl rfl rfl hl.1 rfl (Nat.le_of_ble_eq_true rfl) d_law_815 ⟨Nat.le_of_ble_eq_true rfl, Nat.le_of_ble_eq_true rfl⟩ (fun u2 H locs hP hD hS => ?_)
  have hP : va_P z.1 classes [(a0, .inr (11, [.ref a4, .ref a5, .ref a6, .ref a7, .ref a8, .ref a9, .ref a10, .ref a11, .ref a12, .ref a13, .int 1, .int 1, .ref a14, .int 0])), (a7, .inr (7, [.int 1, .ref a15, .ref a16, .ref a17, .ref a18, .ref a19, .int 0, .ref a20, .ref a21, .ref a22, .int 0])), (a15, .inl (z.2 0, 8, .inl (upd (fun _ => 0) 0 (xs 1)))), (a16, .inl (z.2 0, 8, .inl (fun _ => 0))), (a17, .inl (z.2 0, 8, .inl (fun _ => 0))), (a11, .inl (z.2 0, 20, .inl (upd (fun _ => 0) 1 5))), (a12, .inl (z.2 0, 20, .inl (fun _ => 0))), (a13, .inl (z.2 0, 20, .inl (fun _ => 0))), (a2, .inl (z.2 1, 1, .inr (.inl (fun _ => 0)))), (a23, .inr (17, [.int 0, .ref a27, .ref a28, .int 1, .ref a29, .ref a30, .ref a31, .null, .null, .int 0, .ref a32, .ref a33, .ref a34, .int 0, .ref a35, .int 1])), (a27, .inl (z.2 0, 8, .inl (fun _ => 0))), (a29, .inl (z.2 0, 8, .inl (upd (fun _ => 0) 0 (xs 1)))), (a30, .inl (z.2 0, 8, .inl (fun _ => 0))), (a31, .inl (z.2 0, 8, .inl (fun _ => 0))), (a32, .inl (z.2 0, 16, .inl (fun _ => 0))), (a33, .inl (z.2 0, 16, .inl (fun _ => 0))), (a34, .inl (z.2 0, 16, .inl (fun _ => 0))), (a35, .inl (z.2 0, 12, .inl (fun _ => 0))), (a24, .inl (z.2 6, 20, .inr (.inr (.inr (.inr (va_up (fun _ => none) 0 (some (u1.1 0)))))))), (a1, .inr (18, [.ref a23, .ref a24, .int 1, .ref a25, .int 0, .ref a26, .int 0, .null, .int 0, .null, .long 0, .int 0, .null]))] H := hP
  have hD : va_D A [(a0, .inr (11, [.ref a4, .ref a5, .ref a6, .ref a7, .ref a8, .ref a9, .ref a10, .ref a11, .ref a12, .ref a13, .int 1, .int 1, .ref a14, .int 0])), (a7, .inr (7, [.int 1, .ref a15, .ref a16, .ref a17, .ref a18, .ref a19, .int 0, .ref a20, .ref a21, .ref a22, .int 0])), (a15, .inl (z.2 0, 8, .inl (upd (fun _ => 0) 0 (xs 1)))), (a16, .inl (z.2 0, 8, .inl (fun _ => 0))), (a17, .inl (z.2 0, 8, .inl (fun _ => 0))), (a11, .inl (z.2 0, 20, .inl (upd (fun _ => 0) 1 5))), (a12, .inl (z.2 0, 20, .inl (fun _ => 0))), (a13, .inl (z.2 0, 20, .inl (fun _ => 0))), (a2, .inl (z.2 1, 1, .inr (.inl (fun _ => 0)))), (a23, .inr (17, [.int 0, .ref a27, .ref a28, .int 1, .ref a29, .ref a30, .ref a31, .null, .null, .int 0, .ref a32, .ref a33, .ref a34, .int 0, .ref a35, .int 1])), (a27, .inl (z.2 0, 8, .inl (fun _ => 0))), (a29, .inl (z.2 0, 8, .inl (upd (fun _ => 0) 0 (xs 1)))), (a30, .inl (z.2 0, 8, .inl (fun _ => 0))), (a31, .inl (z.2 0, 8, .inl (fun _ => 0))), (a32, .inl (z.2 0, 16, .inl (fun _ => 0))), (a33, .inl (z.2 0, 16, .inl (fun _ => 0))), (a34, .inl (z.2 0, 16, .inl (fun _ => 0))), (a35, .inl (z.2 0, 12, .inl (fun _ => 0))), (a24, .inl (z.2 6, 20, .inr (.inr (.inr (.inr (va_up (fun _ => none) 0 (some (u1.1 0)))))))), (a1, .inr (18, [.ref a23, .ref a24, .int 1, .ref a25, .int 0, .ref a26, .int 0, .null, .int 0, .null, .long 0, .int 0, .null]))] := hD
  refine W.eq (g2 := F0 m 818 ls [.int 0]) rfl ?_
  refine lv_iload hx hb d_law_818 (lv_at hl 1 rfl) ?_
  refine lv_icmp_eq (tgt := 825) hx hb d_law_820 (by decide) (fun _ => ?_) (fun c9 => absurd (by decide +kernel) c9)
  refine lv_iload hx hb d_law_825 (lv_at hl 1 rfl) ?_
  refine lv_if_ne (tgt := 842) hx hb d_law_827 (by decide) (fun c9 => absurd (by decide +kernel) c9) (fun _ => ?_)
  refine lv_aload_n hx hb d_law_830 rfl (lv_at hl 5 rfl) ?_
  refine lv_iconst (v := 0) hx hb d_law_831 (by decide +kernel) ?_
  refine va_lald hx hb hG.1 hP 8 1 rfl rfl (vin rfl) d_law_832 ?_
  refine nrmL (x1 := 0) rfl ?_
  refine lv_iload hx hb d_law_833 (lv_at hl 0 rfl) ?_
  refine lv_i2l (v := 0) hx hb d_law_835 (by decide +kernel) ?_
  refine W.lcmp hx hb d_law_836 ?_
  refine nrm (x1 := 0) (by decide +kernel) ?_
  refine lv_if_eq (tgt := 842) hx hb d_law_837 (by decide) (fun _ => ?_) (fun c9 => absurd (by decide +kernel) c9)
  refine lv_goto (tgt := 3072) hx hb d_law_842 (by decide) ?_
  refine W.widen (k := 600002) (n := 7302232) (Nat.le_of_ble_eq_true rfl) (Nat.le_of_ble_eq_true rfl) ?_
  exact ht H locs ls hS (lv_sub hl [2, 7] rfl)
set_option maxRecDepth 100000 in
set_option maxHeartbeats 4000000 in
theorem L9_0 (l : Launch) (hl0 : l.stackTraces = false) (z : Zz) {p : Program} {e : Env} {s : State} {m : MethodId} {below : List Frame} {meth : Method} {c : Code} {A : Nat → Prop} {b : Nat} {xs : Nat → Int32} {Q : State → Prop} (hx : p.tables.exec = Jvm.exec) (hb : c.code = code) (hml : c.maxLocals = 9) (hts : ∀ w ∈ WG, w.before #[Value.ref b] s = true) (hown : s.vm.findClass "BallothallLaw" = some m.cls) (hA : ∀ q, s.heap.size ≤ q → A q) (hG : KG z s) (hZ : XZ A s) (hX : va_X b 4 xs s s.heap) (hbl : b < s.heap.size) (hbA : ¬ A b) (ht : ∀ (H : Heap) (locs : List Loc) (ls : Array Slot), va_S A s.heap H locs → lv_has ls 9 [(0, .ref b), (5, .int 0)] → W p l e room_1 s m #[Value.ref b] below meth c H locs 600002 7302232 Q (F0 m 3072 ls [])) (a0 : Nat) (a1 : Nat) (a2 : Nat) (a3 : Nat) (a4 : Nat) (a5 : Nat) (a6 : Nat) (a7 : Nat) (a8 : Nat) (a9 : Nat) (a10 : Nat) (a11 : Nat) (a12 : Nat) (a13 : Nat) (a14 : Nat) (a15 : Nat) (a16 : Nat) (a17 : Nat) (a18 : Nat) (a19 : Nat) (a20 : Nat) (a21 : Nat) (a22 : Nat) (a23 : Nat) (a24 : Nat) (a25 : Nat) (a26 : Nat) (a27 : Nat) (a28 : Nat) (a29 : Nat) (a30 : Nat) (a31 : Nat) (a32 : Nat) (a33 : Nat) (a34 : Nat) (a35 : Nat) (h0 : (xs 1) < 0) (H : Heap) (locs : List Loc) (ls : Array Slot) (hP : va_P z.1 classes [(a0, .inr (11, [.ref a4, .ref a5, .ref a6, .ref a7, .ref a8, .ref a9, .ref a10, .ref a11, .ref a12, .ref a13, .int 0, .int 0, .ref a14, .int 0])), (a7, .inr (7, [.int 0, .ref a15, .ref a16, .ref a17, .ref a18, .ref a19, .int 0, .ref a20, .ref a21, .ref a22, .int 0])), (a1, .inr (18, [.ref a23, .ref a24, .int 0, .ref a25, .int 0, .ref a26, .int 0, .null, .int 0, .null, .long 0, .int 0, .null])), (a23, .inr (17, [.int 0, .ref a27, .ref a28, .int 0, .ref a29, .ref a30, .ref a31, .null, .null, .int 0, .ref a32, .ref a33, .ref a34, .int 0, .ref a35, .int 1]))] H) (hD : va_D A [(a0, .inr (11, [.ref a4, .ref a5, .ref a6, .ref a7, .ref a8, .ref a9, .ref a10, .ref a11, .ref a12, .ref a13, .int 0, .int 0, .ref a14, .int 0])), (a7, .inr (7, [.int 0, .ref a15, .ref a16, .ref a17, .ref a18, .ref a19, .int 0, .ref a20, .ref a21, .ref a22, .int 0])), (a1, .inr (18, [.ref a23, .ref a24, .int 0, .ref a25, .int 0, .ref a26, .int 0, .null, .int 0, .null, .long 0, .int 0, .null])), (a23, .inr (17, [.int 0, .ref a27, .ref a28, .int 0, .ref a29, .ref a30, .ref a31, .null, .null, .int 0, .ref a32, .ref a33, .ref a34, .int 0, .ref a35, .int 1]))]) (hS : va_S A s.heap H locs) (hl : lv_has ls 9 [(0, .ref b), (1, .ref a0), (2, .ref a1), (3, .ref a2), (4, .ref a3), (5, .int 0)]) : W p l e room_1 s m #[Value.ref b] below meth c H locs 265 8866 Q (F0 m 44 ls [.int 9]) := by
  refine lv_tableIn (tgt := 845) hx hb d_law_44 (by decide +kernel) (by decide +kernel) rfl (by decide) ?_
  refine lv_aload_n hx hb d_law_845 rfl (lv_at hl 1 rfl) ?_
  refine lv_aload_n hx hb d_law_846 rfl (lv_at hl 0 rfl) ?_
  refine lv_iload hx hb d_law_847 (lv_at hl 5 rfl) ?_
  refine lv_iconst (v := 1) hx hb d_law_849 (by decide +kernel) ?_
  refine lv_iadd hx hb d_law_850 ?_
  refine nrm (x1 := 1) (by decide +kernel) ?_
  refine va_sld hx hb hX hbl hbA hS (hin4 (i := 1) rfl) d_law_851 ?_
  refine nrm (x1 := xs 1) rfl ?_
  refine lv_aload_n hx hb d_law_852 rfl (lv_at hl 0 rfl) ?_
  refine lv_iload hx hb d_law_853 (lv_at hl 5 rfl) ?_
  refine lv_iconst (v := 2) hx hb d_law_855 (by decide +kernel) ?_
  refine lv_iadd hx hb d_law_856 ?_
  refine nrm (x1 := 2) (by decide +kernel) ?_
  refine va_sld hx hb hX hbl hbA hS (hin4 (i := 2) rfl) d_law_857 ?_
  refine nrm (x1 := xs 2) rfl ?_
  refine lv_aload_n hx hb d_law_858 rfl (lv_at hl 3 rfl) ?_
  refine kH (As := [.ref a0, .int (xs 1), .int (xs 2), .ref a2]) (rest := []) (wr := [(a1, .inr (18, [.ref a23, .ref a24, .int 0, .ref a25, .int 0, .ref a26, .int 0, .null, .int 0, .null, .long 0, .int 0, .null])), (a23, .inr (17, [.int 0, .ref a27, .ref a28, .int 0, .ref a29, .ref a30, .ref a31, .null, .null, .int 0, .ref a32, .ref a33, .ref a34, .int 0, .ref a35, .int 1]))]) (c129_BLaw_setVotes l z hl0 a0 a2 a4 a5 a6 a7 a8 a9 a10 a11 a12 a13 a14 a15 a16 a17 a18 a19 a20 a21 a22 (xs 1) (xs 2) h0) hx hb hml hown hts w_980 w_978 w_979 w_0 md_c397b9 ⟨Nat.le_of_ble_eq_true rfl, Nat.le_of_ble_eq_true rfl⟩ hG hZ hP hD hS hA [0, 1] [2, 3] rfl rfl rfl rfl rfl hl.1 rfl (Nat.le_of_ble_eq_true rfl) d_law_859 ⟨Nat.le_of_ble_eq_true rfl, Nat.le_of_ble_eq_true rfl⟩ (fun u0 H locs hP hD hS => ?_)
  have hP : va_P z.1 classes [(a1, .inr (18, [.ref a23, .ref a24, .int 0, .ref a25, .int 0, .ref a26, .int 0, .null, .int 0, .null, .long 0, .int 0, .null])), (a23, .inr (17, [.int 0, .ref a27, .ref a28, .int 0, .ref a29, .ref a30, .ref a31, .null, .null, .int 0, .ref a32, .ref a33, .ref a34, .int 0, .ref a35, .int 1]))] H := hP
  have hD : va_D A [(a1, .inr (18, [.ref a23, .ref a24, .int 0, .ref a25, .int 0, .ref a26, .int 0, .null, .int 0, .null, .long 0, .int 0, .null])), (a23, .inr (17, [.int 0, .ref a27, .ref a28, .int 0, .ref a29, .ref a30, .ref a31, .null, .null, .int 0, .ref a32, .ref a33, .ref a34, .int 0, .ref a35, .int 1]))] := hD
  refine W.eq (g2 := F0 m 862 ls [.int 1]) rfl ?_
  refine lv_istore (lv' := [(6, .int 1), (0, .ref b), (1, .ref a0), (2, .ref a1), (3, .ref a2), (4, .ref a3), (5, .int 0)]) hx hb d_law_862 hl (by decide) rfl (fun ls hl => ?_)
  refine lv_aload_n hx hb d_law_864 rfl (lv_at hl 3 rfl) ?_
  refine lv_aload_n hx hb d_law_865 rfl (lv_at hl 1 rfl) ?_
  refine lv_iload hx hb d_law_866 (lv_at hl 6 rfl) ?_
  refine lv_iconst (v := 1) hx hb d_law_868 (by decide +kernel) ?_
  refine lv_iadd hx hb d_law_869 ?_
  refine nrm (x1 := 1) (by decide +kernel) ?_
  refine va_sld hx hb hX hbl hbA hS (hin4 (i := 1) rfl) d_law_870 ?_
  refine nrm (x1 := xs 1) rfl ?_
  refine lv_aload_n hx hb d_law_871 rfl (lv_at hl 1 rfl) ?_
  refine lv_iload hx hb d_law_872 (lv_at hl 6 rfl) ?_
  refine lv_iconst (v := 2) hx hb d_law_874 (by decide +kernel) ?_
  refine lv_iadd hx hb d_law_875 ?_
  refine nrm (x1 := 2) (by decide +kernel) ?_
  refine va_sld hx hb hX hbl hbA hS (hin4 (i := 2) rfl) d_law_876 ?_
  refine nrm (x1 := xs 2) rfl ?_
  refine kV (As := [.int (xs 1), .int (xs 2)]) (rest := []) (wr := []) (c130_BModel_setVotes l z a1 a23 a24 a25 a26 a27 a28 a29 a30 a31 a32 a33 a34 a35 (xs 1) (xs 2) h0) hx hb hml hown hts w_1816 w_1813 w_1814 w_1815 w_12 md_9ca9ad ⟨Nat.le_of_ble_eq_true rfl, Nat.le_of_ble_eq_true rfl⟩ hG hZ hP hD hS hA 0 rfl rfl rfl [0, 1] [] rfl rfl rfl rfl rfl hl.1 rfl (Nat.le_of_ble_eq_true rfl) d_law_877 ⟨Nat.le_of_ble_eq_true rfl, Nat.le_of_ble_eq_true rfl⟩ (fun u1 H locs hP hD hS => ?_)
  have hP : va_P z.1 classes [(a1, .inr (18, [.ref a23, .ref a24, .int 0, .ref a25, .int 0, .ref a26, .int 1, .null, .int 0, .null, .long 0, .int 0, .null])), (a23, .inr (17, [.int 0, .ref a27, .ref a28, .int 0, .ref a29, .ref a30, .ref a31, .null, .null, .int 0, .ref a32, .ref a33, .ref a34, .int 0, .ref a35, .int 1]))] H := hP
  have hD : va_D A [(a1, .inr (18, [.ref a23, .ref a24, .int 0, .ref a25, .int 0, .ref a26, .int 1, .null, .int 0, .null, .long 0, .int 0, .null])), (a23, .inr (17, [.int 0, .ref a27, .ref a28, .int 0, .ref a29, .ref a30, .ref a31, .null, .null, .int 0, .ref a32, .ref a33, .ref a34, .int 0, .ref a35, .int 1]))] := hD
  refine W.eq (g2 := F0 m 880 ls [.int 0]) rfl ?_
  refine lv_istore (lv' := [(7, .int 0), (6, .int 1), (0, .ref b), (1, .ref a0), (2, .ref a1), (3, .ref a2), (4, .ref a3), (5, .int 0)]) hx hb d_law_880 hl (by decide) rfl (fun ls hl => ?_)
  refine lv_aload_n hx hb d_law_882 rfl (lv_at hl 4 rfl) ?_
  refine kV (As := []) (rest := []) (wr := [(a23, .inr (17, [.int 0, .ref a27, .ref a28, .int 0, .ref a29, .ref a30, .ref a31, .null, .null, .int 0, .ref a32, .ref a33, .ref a34, .int 0, .ref a35, .int 1]))]) (c33_BModel_thrown l z a1 a23 a24 a25 a26) hx hb hml hown hts w_1688 w_1685 w_1686 w_1687 w_12 md_c48e0f ⟨Nat.le_of_ble_eq_true rfl, Nat.le_of_ble_eq_true rfl⟩ hG hZ hP hD hS hA 0 rfl rfl rfl [0] [1] rfl rfl rfl rfl rfl hl.1 rfl (Nat.le_of_ble_eq_true rfl) d_law_883 ⟨Nat.le_of_ble_eq_true rfl, Nat.le_of_ble_eq_true rfl⟩ (fun u2 H locs hP hD hS => ?_)
  have hP : va_P z.1 classes [(a23, .inr (17, [.int 0, .ref a27, .ref a28, .int 0, .ref a29, .ref a30, .ref a31, .null, .null, .int 0, .ref a32, .ref a33, .ref a34, .int 0, .ref a35, .int 1])), (a1, .inr (18, [.ref a23, .ref a24, .int 0, .ref a25, .int 0, .ref a26, .int 1, .null, .int 0, .null, .long 0, .int 0, .null]))] H := hP
  have hD : va_D A [(a23, .inr (17, [.int 0, .ref a27, .ref a28, .int 0, .ref a29, .ref a30, .ref a31, .null, .null, .int 0, .ref a32, .ref a33, .ref a34, .int 0, .ref a35, .int 1])), (a1, .inr (18, [.ref a23, .ref a24, .int 0, .ref a25, .int 0, .ref a26, .int 1, .null, .int 0, .null, .long 0, .int 0, .null]))] := hD
  refine W.eq (g2 := F0 m 886 ls [.int 1]) rfl ?_
  refine lv_iload hx hb d_law_886 (lv_at hl 1 rfl) ?_
  refine lv_icmp_eq (tgt := 893) hx hb d_law_888 (by decide) (fun _ => ?_) (fun c9 => absurd (by decide +kernel) c9)
  refine lv_iload hx hb d_law_893 (lv_at hl 1 rfl) ?_
  refine lv_if_ne (tgt := 910) hx hb d_law_895 (by decide) (fun _ => ?_) (fun c9 => absurd c9 (by decide +kernel))
  refine lv_goto (tgt := 3072) hx hb d_law_910 (by decide) ?_
  refine W.widen (k := 600002) (n := 7302232) (Nat.le_of_ble_eq_true rfl) (Nat.le_of_ble_eq_true rfl) ?_
  exact ht H locs ls hS (lv_sub hl [2, 7] rfl)
