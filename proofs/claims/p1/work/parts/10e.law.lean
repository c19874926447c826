set_option maxRecDepth 100000 in
set_option maxHeartbeats 4000000 in
theorem L39_3 (l : Launch) (hl0 : l.stackTraces = false) (z : Zz) {p : Program} {e : Env} {s : State} {m : MethodId} {below : List Frame} {meth : Method} {c : Code} {A : Nat → Prop} {b : Nat} {xs : Nat → Int32} {Q : State → Prop} (hx : p.tables.exec = Jvm.exec) (hb : c.code = code) (hml : c.maxLocals = 9) (hts : ∀ w ∈ WG, w.before #[Value.ref b] s = true) (hown : s.vm.findClass "BallothallLaw" = some m.cls) (hA : ∀ q, s.heap.size ≤ q → A q) (hG : KG z s) (hZ : XZ A s) (hX : va_X b 4 xs s s.heap) (hbl : b < s.heap.size) (hbA : ¬ A b) (ht : ∀ (H : Heap) (locs : List Loc) (ls : Array Slot), va_S A s.heap H locs → lv_has ls 9 [(0, .ref b), (5, .int 0)] → W p l e room_1 s m #[Value.ref b] below meth c H locs 600002 7302232 Q (F0 m 3072 ls [])) (a0 : Nat) (a1 : Nat) (a2 : Nat) (a3 : Nat) (a4 : Nat) (a5 : Nat) (a6 : Nat) (a7 : Nat) (a8 : Nat) (a9 : Nat) (a10 : Nat) (a11 : Nat) (a12 : Nat) (a13 : Nat) (a14 : Nat) (a15 : Nat) (a16 : Nat) (a17 : Nat) (a18 : Nat) (h0 : ¬ (xs 1) < 1) (h1 : ¬ 100000 < (xs 1)) (h2 : ¬ (xs 2) < 0) (h3 : 100000 < (xs 2)) (H : Heap) (locs : List Loc) (ls : Array Slot) (hP : va_P z.1 classes [(a0, .inr (11, [.ref a4, .ref a5, .ref a6, .ref a7, .ref a8, .ref a9, .ref a10, .ref a11, .ref a12, .ref a13, .int 0, .int 0, .ref a14, .int 0])), (a1, .inr (18, [.ref a15, .ref a16, .int 0, .ref a17, .int 0, .ref a18, .int 0, .null, .int 0, .null, .long 0, .int 0, .null]))] H) (hD : va_D A [(a0, .inr (11, [.ref a4, .ref a5, .ref a6, .ref a7, .ref a8, .ref a9, .ref a10, .ref a11, .ref a12, .ref a13, .int 0, .int 0, .ref a14, .int 0])), (a1, .inr (18, [.ref a15, .ref a16, .int 0, .ref a17, .int 0, .ref a18, .int 0, .null, .int 0, .null, .long 0, .int 0, .null]))]) (hS : va_S A s.heap H locs) (hl : lv_has ls 9 [(0, .ref b), (1, .ref a0), (2, .ref a1), (3, .ref a2), (4, .ref a3), (5, .int 0)]) : W p l e room_1 s m #[Value.ref b] below meth c H locs 265 8866 Q (F0 m 44 ls [.int 39]) := by
  refine lv_tableIn (tgt := 2314) hx hb d_law_44 (by decide +kernel) (by decide +kernel) rfl (by decide) ?_
  refine lv_aload_n hx hb d_law_2314 rfl (lv_at hl 1 rfl) ?_
  refine lv_aload_n hx hb d_law_2315 rfl (lv_at hl 0 rfl) ?_
  refine lv_iload hx hb d_law_2316 (lv_at hl 5 rfl) ?_
  refine lv_iconst (v := 1) hx hb d_law_2318 (by decide +kernel) ?_
  refine lv_iadd hx hb d_law_2319 ?_
  refine nrm (x1 := 1) (by decide +kernel) ?_
  refine va_sld hx hb hX hbl hbA hS (hin4 (i := 1) rfl) d_law_2320 ?_
  refine nrm (x1 := xs 1) rfl ?_
  refine lv_aload_n hx hb d_law_2321 rfl (lv_at hl 0 rfl) ?_
  refine lv_iload hx hb d_law_2322 (lv_at hl 5 rfl) ?_
  refine lv_iconst (v := 2) hx hb d_law_2324 (by decide +kernel) ?_
  refine lv_iadd hx hb d_law_2325 ?_
  refine nrm (x1 := 2) (by decide +kernel) ?_
  refine va_sld hx hb hX hbl hbA hS (hin4 (i := 2) rfl) d_law_2326 ?_
  refine nrm (x1 := xs 2) rfl ?_
  refine lv_aload_n hx hb d_law_2327 rfl (lv_at hl 0 rfl) ?_
  refine lv_iload hx hb d_law_2328 (lv_at hl 5 rfl) ?_
  refine lv_iconst (v := 3) hx hb d_law_2330 (by decide +kernel) ?_
  refine lv_iadd hx hb d_law_2331 ?_
  refine nrm (x1 := 3) (by decide +kernel) ?_
  refine va_sld hx hb hX hbl hbA hS (hin4 (i := 3) rfl) d_law_2332 ?_
  refine nrm (x1 := xs 3) rfl ?_
  refine lv_aload_n hx hb d_law_2333 rfl (lv_at hl 3 rfl) ?_
  refine kH (As := [.ref a0, .int (xs 1), .int (xs 2), .int (xs 3), .ref a2]) (rest := []) (wr := [(a1, .inr (18, [.ref a15, .ref a16, .int 0, .ref a17, .int 0, .ref a18, .int 0, .null, .int 0, .null, .long 0, .int 0, .null]))]) (c549_BLaw_ward l z hl0 a0 a2 a4 a5 a6 a7 a8 a9 a10 a11 a12 a13 a14 (xs 1) (xs 2) (xs 3) h0 h1 h2 h3) hx hb hml hown hts w_1453 w_1451 w_1452 w_0 md_6a2154 ⟨Nat.le_of_ble_eq_true rfl, Nat.le_of_ble_eq_true rfl⟩ hG hZ hP hD hS hA [0] [1] rfl rfl rfl rfl rfl hl.1 rfl (Nat.le_of_ble_eq_true rfl) d_law_2334 ⟨Nat.le_of_ble_eq_true rfl, Nat.le_of_ble_eq_true rfl⟩ (fun u0 H locs hP hD hS => ?_)
  have hP : va_P z.1 classes [(a1, .inr (18, [.ref a15, .ref a16, .int 0, .ref a17, .int 0, .ref a18, .int 0, .null, .int 0, .null, .long 0, .int 0, .null])), (a0, .inr (11, [.ref a4, .ref a5, .ref a6, .ref a7, .ref a8, .ref a9, .ref a10, .ref a11, .ref a12, .ref a13, .int 0, .int 0, .ref a14, .int 0]))] H := hP
  have hD : va_D A [(a1, .inr (18, [.ref a15, .ref a16, .int 0, .ref a17, .int 0, .ref a18, .int 0, .null, .int 0, .null, .long 0, .int 0, .null])), (a0, .inr (11, [.ref a4, .ref a5, .ref a6, .ref a7, .ref a8, .ref a9, .ref a10, .ref a11, .ref a12, .ref a13, .int 0, .int 0, .ref a14, .int 0]))] := hD
  refine W.eq (g2 := F0 m 2337 ls [.int 1]) rfl ?_
  refine lv_istore (lv' := [(6, .int 1), (0, .ref b), (1, .ref a0), (2, .ref a1), (3, .ref a2), (4, .ref a3), (5, .int 0)]) hx hb d_law_2337 hl (by decide) rfl (fun ls hl => ?_)
  refine lv_aload_n hx hb d_law_2339 rfl (lv_at hl 3 rfl) ?_
  refine lv_aload_n hx hb d_law_2340 rfl (lv_at hl 1 rfl) ?_
  refine lv_iload hx hb d_law_2341 (lv_at hl 6 rfl) ?_
  refine lv_iconst (v := 1) hx hb d_law_2343 (by decide +kernel) ?_
  refine lv_iadd hx hb d_law_2344 ?_
  refine nrm (x1 := 1) (by decide +kernel) ?_
  refine va_sld hx hb hX hbl hbA hS (hin4 (i := 1) rfl) d_law_2345 ?_
  refine nrm (x1 := xs 1) rfl ?_
  refine lv_aload_n hx hb d_law_2346 rfl (lv_at hl 1 rfl) ?_
  refine lv_iload hx hb d_law_2347 (lv_at hl 6 rfl) ?_
  refine lv_iconst (v := 2) hx hb d_law_2349 (by decide +kernel) ?_
  refine lv_iadd hx hb d_law_2350 ?_
  refine nrm (x1 := 2) (by decide +kernel) ?_
  refine va_sld hx hb hX hbl hbA hS (hin4 (i := 2) rfl) d_law_2351 ?_
  refine nrm (x1 := xs 2) rfl ?_
  refine lv_aload_n hx hb d_law_2352 rfl (lv_at hl 1 rfl) ?_
  refine lv_iload hx hb d_law_2353 (lv_at hl 6 rfl) ?_
  refine lv_iconst (v := 3) hx hb d_law_2355 (by decide +kernel) ?_
  refine lv_iadd hx hb d_law_2356 ?_
  refine nrm (x1 := 3) (by decide +kernel) ?_
  refine va_sld hx hb hX hbl hbA hS (hin4 (i := 3) rfl) d_law_2357 ?_
  refine nrm (x1 := xs 3) rfl ?_
  refine kV (As := [.int (xs 1), .int (xs 2), .int (xs 3)]) (rest := []) (wr := [(a0, .inr (11, [.ref a4, .ref a5, .ref a6, .ref a7, .ref a8, .ref a9, .ref a10, .ref a11, .ref a12, .ref a13, .int 0, .int 0, .ref a14, .int 0]))]) (c551_BModel_ward l z a1 a15 a16 a17 a18 (xs 1) (xs 2) (xs 3) h0 h1 h2 h3) hx hb hml hown hts w_2428 w_2425 w_2426 w_2427 w_12 md_ef7173 ⟨Nat.le_of_ble_eq_true rfl, Nat.le_of_ble_eq_true rfl⟩ hG hZ hP hD hS hA 0 rfl rfl rfl [0] [1] rfl rfl rfl rfl rfl hl.1 rfl (Nat.le_of_ble_eq_true rfl) d_law_2358 ⟨Nat.le_of_ble_eq_true rfl, Nat.le_of_ble_eq_true rfl⟩ (fun u1 H locs hP hD hS => ?_)
  have hP : va_P z.1 classes [(a0, .inr (11, [.ref a4, .ref a5, .ref a6, .ref a7, .ref a8, .ref a9, .ref a10, .ref a11, .ref a12, .ref a13, .int 0, .int 0, .ref a14, .int 0])), (a1, .inr (18, [.ref a15, .ref a16, .int 0, .ref a17, .int 0, .ref a18, .int 1, .null, .int 0, .null, .long 0, .int 0, .null]))] H := hP
  have hD : va_D A [(a0, .inr (11, [.ref a4, .ref a5, .ref a6, .ref a7, .ref a8, .ref a9, .ref a10, .ref a11, .ref a12, .ref a13, .int 0, .int 0, .ref a14, .int 0])), (a1, .inr (18, [.ref a15, .ref a16, .int 0, .ref a17, .int 0, .ref a18, .int 1, .null, .int 0, .null, .long 0, .int 0, .null]))] := hD
  refine W.eq (g2 := F0 m 2361 ls [.int 0]) rfl ?_
  refine lv_istore (lv' := [(7, .int 0), (6, .int 1), (0, .ref b), (1, .ref a0), (2, .ref a1), (3, .ref a2), (4, .ref a3), (5, .int 0)]) hx hb d_law_2361 hl (by decide) rfl (fun ls hl => ?_)
  refine lv_aload_n hx hb d_law_2363 rfl (lv_at hl 4 rfl) ?_
  refine kV (As := []) (rest := []) (wr := [(a0, .inr (11, [.ref a4, .ref a5, .ref a6, .ref a7, .ref a8, .ref a9, .ref a10, .ref a11, .ref a12, .ref a13, .int 0, .int 0, .ref a14, .int 0]))]) (c33_BModel_thrown l z a1 a15 a16 a17 a18) hx hb hml hown hts w_1688 w_1685 w_1686 w_1687 w_12 md_c48e0f ⟨Nat.le_of_ble_eq_true rfl, Nat.le_of_ble_eq_true rfl⟩ hG hZ hP hD hS hA 1 rfl rfl rfl [1] [0] rfl rfl rfl rfl rfl hl.1 rfl (Nat.le_of_ble_eq_true rfl) d_law_2364 ⟨Nat.le_of_ble_eq_true rfl, Nat.le_of_ble_eq_true rfl⟩ (fun u2 H locs hP hD hS => ?_)
  have hP : va_P z.1 classes [(a0, .inr (11, [.ref a4, .ref a5, .ref a6, .ref a7, .ref a8, .ref a9, .ref a10, .ref a11, .ref a12, .ref a13, .int 0, .int 0, .ref a14, .int 0])), (a1, .inr (18, [.ref a15, .ref a16, .int 0, .ref a17, .int 0, .ref a18, .int 1, .null, .int 0, .null, .long 0, .int 0, .null]))] H := hP
  have hD : va_D A [(a0, .inr (11, [.ref a4, .ref a5, .ref a6, .ref a7, .ref a8, .ref a9, .ref a10, .ref a11, .ref a12, .ref a13, .int 0, .int 0, .ref a14, .int 0])), (a1, .inr (18, [.ref a15, .ref a16, .int 0, .ref a17, .int 0, .ref a18, .int 1, .null, .int 0, .null, .long 0, .int 0, .null]))] := hD
  refine W.eq (g2 := F0 m 2367 ls [.int 1]) rfl ?_
  refine lv_iload hx hb d_law_2367 (lv_at hl 1 rfl) ?_
  refine lv_icmp_eq (tgt := 2374) hx hb d_law_2369 (by decide) (fun _ => ?_) (fun c9 => absurd (by decide +kernel) c9)
  refine lv_iload hx hb d_law_2374 (lv_at hl 1 rfl) ?_
  refine lv_if_ne (tgt := 2391) hx hb d_law_2376 (by decide) (fun _ => ?_) (fun c9 => absurd c9 (by decide +kernel))
  refine lv_goto (tgt := 3072) hx hb d_law_2391 (by decide) ?_
  refine W.widen (k := 600002) (n := 7302232) (Nat.le_of_ble_eq_true rfl) (Nat.le_of_ble_eq_true rfl) ?_
  exact ht H locs ls hS (lv_sub hl [2, 7] rfl)
set_option maxRecDepth 100000 in
set_option maxHeartbeats 4000000 in
theorem L39_4 (l : Launch) (hl0 : l.stackTraces = false) (z : Zz) {p : Program} {e : Env} {s : State} {m : MethodId} {below : List Frame} {meth : Method} {c : Code} {A : Nat → Prop} {b : Nat} {xs : Nat → Int32} {Q : State → Prop} (hx : p.tables.exec = Jvm.exec) (hb : c.code = code) (hml : c.maxLocals = 9) (hts : ∀ w ∈ WG, w.before #[Value.ref b] s = true) (hown : s.vm.findClass "BallothallLaw" = some m.cls) (hA : ∀ q, s.heap.size ≤ q → A q) (hG : KG z s) (hZ : XZ A s) (hX : va_X b 4 xs s s.heap) (hbl : b < s.heap.size) (hbA : ¬ A b) (ht : ∀ (H : Heap) (locs : List Loc) (ls : Array Slot), va_S A s.heap H locs → lv_has ls 9 [(0, .ref b), (5, .int 0)] → W p l e room_1 s m #[Value.ref b] below meth c H locs 600002 7302232 Q (F0 m 3072 ls [])) (a0 : Nat) (a1 : Nat) (a2 : Nat) (a3 : Nat) (a4 : Nat) (a5 : Nat) (a6 : Nat) (a7 : Nat) (a8 : Nat) (a9 : Nat) (a10 : Nat) (a11 : Nat) (a12 : Nat) (a13 : Nat) (a14 : Nat) (a15 : Nat) (a16 : Nat) (a17 : Nat) (a18 : Nat) (h0 : ¬ (xs 1) < 1) (h1 : ¬ 100000 < (xs 1)) (h2 : ¬ (xs 2) < 0) (h3 : ¬ 100000 < (xs 2)) (h4 : (xs 3) < 0) (H : Heap) (locs : List Loc) (ls : Array Slot) (hP : va_P z.1 classes [(a0, .inr (11, [.ref a4, .ref a5, .ref a6, .ref a7, .ref a8, .ref a9, .ref a10, .ref a11, .ref a12, .ref a13, .int 0, .int 0, .ref a14, .int 0])), (a1, .inr (18, [.ref a15, .ref a16, .int 0, .ref a17, .int 0, .ref a18, .int 0, .null, .int 0, .null, .long 0, .int 0, .null]))] H) (hD : va_D A [(a0, .inr (11, [.ref a4, .ref a5, .ref a6, .ref a7, .ref a8, .ref a9, .ref a10, .ref a11, .ref a12, .ref a13, .int 0, .int 0, .ref a14, .int 0])), (a1, .inr (18, [.ref a15, .ref a16, .int 0, .ref a17, .int 0, .ref a18, .int 0, .null, .int 0, .null, .long 0, .int 0, .null]))]) (hS : va_S A s.heap H locs) (hl : lv_has ls 9 [(0, .ref b), (1, .ref a0), (2, .ref a1), (3, .ref a2), (4, .ref a3), (5, .int 0)]) : W p l e room_1 s m #[Value.ref b] below meth c H locs 265 8866 Q (F0 m 44 ls [.int 39]) := by
  refine lv_tableIn (tgt := 2314) hx hb d_law_44 (by decide +kernel) (by decide +kernel) rfl (by decide) ?_
  refine lv_aload_n hx hb d_law_2314 rfl (lv_at hl 1 rfl) ?_
  refine lv_aload_n hx hb d_law_2315 rfl (lv_at hl 0 rfl) ?_
  refine lv_iload hx hb d_law_2316 (lv_at hl 5 rfl) ?_
  refine lv_iconst (v := 1) hx hb d_law_2318 (by decide +kernel) ?_
  refine lv_iadd hx hb d_law_2319 ?_
  refine nrm (x1 := 1) (by decide +kernel) ?_
  refine va_sld hx hb hX hbl hbA hS (hin4 (i := 1) rfl) d_law_2320 ?_
  refine nrm (x1 := xs 1) rfl ?_
  refine lv_aload_n hx hb d_law_2321 rfl (lv_at hl 0 rfl) ?_
  refine lv_iload hx hb d_law_2322 (lv_at hl 5 rfl) ?_
  refine lv_iconst (v := 2) hx hb d_law_2324 (by decide +kernel) ?_
  refine lv_iadd hx hb d_law_2325 ?_
  refine nrm (x1 := 2) (by decide +kernel) ?_
  refine va_sld hx hb hX hbl hbA hS (hin4 (i := 2) rfl) d_law_2326 ?_
  refine nrm (x1 := xs 2) rfl ?_
  refine lv_aload_n hx hb d_law_2327 rfl (lv_at hl 0 rfl) ?_
  refine lv_iload hx hb d_law_2328 (lv_at hl 5 rfl) ?_
  refine lv_iconst (v := 3) hx hb d_law_2330 (by decide +kernel) ?_
  refine lv_iadd hx hb d_law_2331 ?_
  refine nrm (x1 := 3) (by decide +kernel) ?_
  refine va_sld hx hb hX hbl hbA hS (hin4 (i := 3) rfl) d_law_2332 ?_
  refine nrm (x1 := xs 3) rfl ?_
  refine lv_aload_n hx hb d_law_2333 rfl (lv_at hl 3 rfl) ?_
  refine kH (As := [.ref a0, .int (xs 1), .int (xs 2), .int (xs 3), .ref a2]) (rest := []) (wr := [(a1, .inr (18, [.ref a15, .ref a16, .int 0, .ref a17, .int 0, .ref a18, .int 0, .null, .int 0, .null, .long 0, .int 0, .null]))]) (c554_BLaw_ward l z hl0 a0 a2 a4 a5 a6 a7 a8 a9 a10 a11 a12 a13 a14 (xs 1) (xs 2) (xs 3) h0 h1 h2 h3 h4) hx hb hml hown hts w_1453 w_1451 w_1452 w_0 md_6a2154 ⟨Nat.le_of_ble_eq_true rfl, Nat.le_of_ble_eq_true rfl⟩ hG hZ hP hD hS hA [0] [1] rfl rfl rfl rfl rfl hl.1 rfl (Nat.le_of_ble_eq_true rfl) d_law_2334 ⟨Nat.le_of_ble_eq_true rfl, Nat.le_of_ble_eq_true rfl⟩ (fun u0 H locs hP hD hS => ?_)
  have hP : va_P z.1 classes [(a1, .inr (18, [.ref a15, .ref a16, .int 0, .ref a17, .int 0, .ref a18, .int 0, .null, .int 0, .null, .long 0, .int 0, .null])), (a0, .inr (11, [.ref a4, .ref a5, .ref a6, .ref a7, .ref a8, .ref a9, .ref a10, .ref a11, .ref a12, .ref a13, .int 0, .int 0, .ref a14, .int 0]))] H := hP
  have hD : va_D A [(a1, .inr (18, [.ref a15, .ref a16, .int 0, .ref a17, .int 0, .ref a18, .int 0, .null, .int 0, .null, .long 0, .int 0, .null])), (a0, .inr (11, [.ref a4, .ref a5, .ref a6, .ref a7, .ref a8, .ref a9, .ref a10, .ref a11, .ref a12, .ref a13, .int 0, .int 0, .ref a14, .int 0]))] := hD
  refine W.eq (g2 := F0 m 2337 ls [.int 1]) rfl ?_
  refine lv_istore (lv' := [(6, .int 1), (0, .ref b), (1, .ref a0), (2, .ref a1), (3, .ref a2), (4, .ref a3), (5, .int 0)]) hx hb d_law_2337 hl (by decide) rfl (fun ls hl => ?_)
  refine lv_aload_n hx hb d_law_2339 rfl (lv_at hl 3 rfl) ?_
  refine lv_aload_n hx hb d_law_2340 rfl (lv_at hl 1 rfl) ?_
  refine lv_iload hx hb d_law_2341 (lv_at hl 6 rfl) ?_
  refine lv_iconst (v := 1) hx hb d_law_2343 (by decide +kernel) ?_
  refine lv_iadd hx hb d_law_2344 ?_
  refine nrm (x1 := 1) (by decide +kernel) ?_
  refine va_sld hx hb hX hbl hbA hS (hin4 (i := 1) rfl) d_law_2345 ?_
  refine nrm (x1 := xs 1) rfl ?_
  refine lv_aload_n hx hb d_law_2346 rfl (lv_at hl 1 rfl) ?_
  refine lv_iload hx hb d_law_2347 (lv_at hl 6 rfl) ?_
  refine lv_iconst (v := 2) hx hb d_law_2349 (by decide +kernel) ?_
  refine lv_iadd hx hb d_law_2350 ?_
  refine nrm (x1 := 2) (by decide +kernel) ?_
  refine va_sld hx hb hX hbl hbA hS (hin4 (i := 2) rfl) d_law_2351 ?_
  refine nrm (x1 := xs 2) rfl ?_
  refine lv_aload_n hx hb d_law_2352 rfl (lv_at hl 1 rfl) ?_
  refine lv_iload hx hb d_law_2353 (lv_at hl 6 rfl) ?_
  refine lv_iconst (v := 3) hx hb d_law_2355 (by decide +kernel) ?_
  refine lv_iadd hx hb d_law_2356 ?_
  refine nrm (x1 := 3) (by decide +kernel) ?_
  refine va_sld hx hb hX hbl hbA hS (hin4 (i := 3) rfl) d_law_2357 ?_
  refine nrm (x1 := xs 3) rfl ?_
  refine kV (As := [.int (xs 1), .int (xs 2), .int (xs 3)]) (rest := []) (wr := [(a0, .inr (11, [.ref a4, .ref a5, .ref a6, .ref a7, .ref a8, .ref a9, .ref a10, .ref a11, .ref a12, .ref a13, .int 0, .int 0, .ref a14, .int 0]))]) (c556_BModel_ward l z a1 a15 a16 a17 a18 (xs 1) (xs 2) (xs 3) h0 h1 h2 h3 h4) hx hb hml hown hts w_2428 w_2425 w_2426 w_2427 w_12 md_ef7173 ⟨Nat.le_of_ble_eq_true rfl, Nat.le_of_ble_eq_true rfl⟩ hG hZ hP hD hS hA 0 rfl rfl rfl [0] [1] rfl rfl rfl rfl rfl hl.1 rfl (Nat.le_of_ble_eq_true rfl) d_law_2358 ⟨Nat.le_of_ble_eq_true rfl, Nat.le_of_ble_eq_true rfl⟩ (fun u1 H locs hP hD hS => ?_)
  have hP : va_P z.1 classes [(a0, .inr (11, [.ref a4, .ref a5, .ref a6, .ref a7, .ref a8, .ref a9, .ref a10, .ref a11, .ref a12, .ref a13, .int 0, .int 0, .ref a14, .int 0])), (a1, .inr (18, [.ref a15, .ref a16, .int 0, .ref a17, .int 0, .ref a18, .int 1, .null, .int 0, .null, .long 0, .int 0, .null]))] H := hP
  have hD : va_D A [(a0, .inr (11, [.ref a4, .ref a5, .ref a6, .ref a7, .ref a8, .ref a9, .ref a10, .ref a11, .ref a12, .ref a13, .int 0, .int 0, .ref a14, .int 0])), (a1, .inr (18, [.ref a15, .ref a16, .int 0, .ref a17, .int 0, .ref a18, .int 1, .null, .int 0, .null, .long 0, .int 0, .null]))] := hD
  refine W.eq (g2 := F0 m 2361 ls [.int 0]) rfl ?_
  refine lv_istore (lv' := [(7, .int 0), (6, .int 1), (0, .ref b), (1, .ref a0), (2, .ref a1), (3, .ref a2), (4, .ref a3), (5, .int 0)]) hx hb d_law_2361 hl (by decide) rfl (fun ls hl => ?_)
  refine lv_aload_n hx hb d_law_2363 rfl (lv_at hl 4 rfl) ?_
  refine kV (As := []) (rest := []) (wr := [(a0, .inr (11, [.ref a4, .ref a5, .ref a6, .ref a7, .ref a8, .ref a9, .ref a10, .ref a11, .ref a12, .ref a13, .int 0, .int 0, .ref a14, .int 0]))]) (c33_BModel_thrown l z a1 a15 a16 a17 a18) hx hb hml hown hts w_1688 w_1685 w_1686 w_1687 w_12 md_c48e0f ⟨Nat.le_of_ble_eq_true rfl, Nat.le_of_ble_eq_true rfl⟩ hG hZ hP hD hS hA 1 rfl rfl rfl [1] [0] rfl rfl rfl rfl rfl hl.1 rfl (Nat.le_of_ble_eq_true rfl) d_law_2364 ⟨Nat.le_of_ble_eq_true rfl, Nat.le_of_ble_eq_true rfl⟩ (fun u2 H locs hP hD hS => ?_)
  have hP : va_P z.1 classes [(a0, .inr (11, [.ref a4, .ref a5, .ref a6, .ref a7, .ref a8, .ref a9, .ref a10, .ref a11, .ref a12, .ref a13, .int 0, .int 0, .ref a14, .int 0])), (a1, .inr (18, [.ref a15, .ref a16, .int 0, .ref a17, .int 0, .ref a18, .int 1, .null, .int 0, .null, .long 0, .int 0, .null]))] H := hP
  have hD : va_D A [(a0, .inr (11, [.ref a4, .ref a5, .ref a6, .ref a7, .ref a8, .ref a9, .ref a10, .ref a11, .ref a12, .ref a13, .int 0, .int 0, .ref a14, .int 0])), (a1, .inr (18, [.ref a15, .ref a16, .int 0, .ref a17, .int 0, .ref a18, .int 1, .null, .int 0, .null, .long 0, .int 0, .null]))] := hD
  refine W.eq (g2 := F0 m 2367 ls [.int 1]) rfl ?_
  refine lv_iload hx hb d_law_2367 (lv_at hl 1 rfl) ?_
  refine lv_icmp_eq (tgt := 2374) hx hb d_law_2369 (by decide) (fun _ => ?_) (fun c9 => absurd (by decide +kernel) c9)
  refine lv_iload hx hb d_law_2374 (lv_at hl 1 rfl) ?_
  refine lv_if_ne (tgt := 2391) hx hb d_law_2376 (by decide) (fun _ => ?_) (fun c9 => absurd c9 (by decide +kernel))
  refine lv_goto (tgt := 3072) hx hb d_law_2391 (by decide) ?_
  refine W.widen (k := 600002) (n := 7302232) (Nat.le_of_ble_eq_true rfl) (Nat.le_of_ble_eq_true rfl) ?_
  exact ht H locs ls hS (lv_sub hl [2, 7] rfl)
set_option maxRecDepth 100000 in
set_option maxHeartbeats 4000000 in
theorem L39_5 (l : Launch) (hl0 : l.stackTraces = false) (z : Zz) {p : Program} {e : Env} {s : State} {m : MethodId} {below : List Frame} {meth : Method} {c : Code} {A : Nat → Prop} {b : Nat} {xs : Nat → Int32} {Q : State → Prop} (hx : p.tables.exec = Jvm.exec) (hb : c.code = code) (hml : c.maxLocals = 9) (hts : ∀ w ∈ WG, w.before #[Value.ref b] s = true) (hown : s.vm.findClass "BallothallLaw" = some m.cls) (hA : ∀ q, s.heap.size ≤ q → A q) (hG : KG z s) (hZ : XZ A s) (hX : va_X b 4 xs s s.heap) (hbl : b < s.heap.size) (hbA : ¬ A b) (ht : ∀ (H : Heap) (locs : List Loc) (ls : Array Slot), va_S A s.heap H locs → lv_has ls 9 [(0, .ref b), (5, .int 0)] → W p l e room_1 s m #[Value.ref b] below meth c H locs 600002 7302232 Q (F0 m 3072 ls [])) (a0 : Nat) (a1 : Nat) (a2 : Nat) (a3 : Nat) (a4 : Nat) (a5 : Nat) (a6 : Nat) (a7 : Nat) (a8 : Nat) (a9 : Nat) (a10 : Nat) (a11 : Nat) (a12 : Nat) (a13 : Nat) (a14 : Nat) (a15 : Nat) (a16 : Nat) (a17 : Nat) (a18 : Nat) (h0 : ¬ (xs 1) < 1) (h1 : ¬ 100000 < (xs 1)) (h2 : ¬ (xs 2) < 0) (h3 : ¬ 100000 < (xs 2)) (h4 : ¬ (xs 3) < 0) (h5 : 100000 < (xs 3)) (H : Heap) (locs : List Loc) (ls : Array Slot) (hP : va_P z.1 classes [(a0, .inr (11, [.ref a4, .ref a5, .ref a6, .ref a7, .ref a8, .ref a9, .ref a10, .ref a11, .ref a12, .ref a13, .int 0, .int 0, .ref a14, .int 0])), (a1, .inr (18, [.ref a15, .ref a16, .int 0, .ref a17, .int 0, .ref a18, .int 0, .null, .int 0, .null, .long 0, .int 0, .null]))] H) (hD : va_D A [(a0, .inr (11, [.ref a4, .ref a5, .ref a6, .ref a7, .ref a8, .ref a9, .ref a10, .ref a11, .ref a12, .ref a13, .int 0, .int 0, .ref a14, .int 0])), (a1, .inr (18, [.ref a15, .ref a16, .int 0, .ref a17, .int 0, .ref a18, .int 0, .null, .int 0, .null, .long 0, .int 0, .null]))]) (hS : va_S A s.heap H locs) (hl : lv_has ls 9 [(0, .ref b), (1, .ref a0), (2, .ref a1), (3, .ref a2), (4, .ref a3), (5, .int 0)]) : W p l e room_1 s m #[Value.ref b] below meth c H locs 265 8866 Q (F0 m 44 ls [.int 39]) := by
  refine lv_tableIn (tgt := 2314) hx hb d_law_44 (by decide +kernel) (by decide +kernel) rfl (by decide) ?_
  refine lv_aload_n hx hb d_law_2314 rfl (lv_at hl 1 rfl) ?_
  refine lv_aload_n hx hb d_law_2315 rfl (lv_at hl 0 rfl) ?_
  refine lv_iload hx hb d_law_2316 (lv_at hl 5 rfl) ?_
  refine lv_iconst (v := 1) hx hb d_law_2318 (by decide +kernel) ?_
  refine lv_iadd hx hb d_law_2319 ?_
  refine nrm (x1 := 1) (by decide +kernel) ?_
  refine va_sld hx hb hX hbl hbA hS (hin4 (i := 1) rfl) d_law_2320 ?_
  refine nrm (x1 := xs 1) rfl ?_
  refine lv_aload_n hx hb d_law_2321 rfl (lv_at hl 0 rfl) ?_
  refine lv_iload hx hb d_law_2322 (lv_at hl 5 rfl) ?_
  refine lv_iconst (v := 2) hx hb d_law_2324 (by decide +kernel) ?_
  refine lv_iadd hx hb d_law_2325 ?_
  refine nrm (x1 := 2) (by decide +kernel) ?_
  refine va_sld hx hb hX hbl hbA hS (hin4 (i := 2) rfl) d_law_2326 ?_
  refine nrm (x1 := xs 2) rfl ?_
  refine lv_aload_n hx hb d_law_2327 rfl (lv_at hl 0 rfl) ?_
  refine lv_iload hx hb d_law_2328 (lv_at hl 5 rfl) ?_
  refine lv_iconst (v := 3) hx hb d_law_2330 (by decide +kernel) ?_
  refine lv_iadd hx hb d_law_2331 ?_
  refine nrm (x1 := 3) (by decide +kernel) ?_
  refine va_sld hx hb hX hbl hbA hS (hin4 (i := 3) rfl) d_law_2332 ?_
  refine nrm (x1 := xs 3) rfl ?_
  refine lv_aload_n hx hb d_law_2333 rfl (lv_at hl 3 rfl) ?_
  refine kH (As := [.ref a0, .int (xs 1), .int (xs 2), .int (xs 3), .ref a2]) (rest := []) (wr := [(a1, .inr (18, [.ref a15, .ref a16, .int 0, .ref a17, .int 0, .ref a18, .int 0, .null, .int 0, .null, .long 0, .int 0, .null]))]) (c558_BLaw_ward l z hl0 a0 a2 a4 a5 a6 a7 a8 a9 a10 a11 a12 a13 a14 (xs 1) (xs 2) (xs 3) h0 h1 h2 h3 h4 h5) hx hb hml hown hts w_1453 w_1451 w_1452 w_0 md_6a2154 ⟨Nat.le_of_ble_eq_true rfl, Nat.le_of_ble_eq_true rfl⟩ hG hZ hP hD hS hA [0] [1] rfl rfl rfl rfl rfl hl.1 rfl (Nat.le_of_ble_eq_true rfl) d_law_2334 ⟨Nat.le_of_ble_eq_true rfl, Nat.le_of_ble_eq_true rfl⟩ (fun u0 H locs hP hD hS => ?_)
  have hP : va_P z.1 classes [(a1, .inr (18, [.ref a15, .ref a16, .int 0, .ref a17, .int 0, .ref a18, .int 0, .null, .int 0, .null, .long 0, .int 0, .null])), (a0, .inr (11, [.ref a4, .ref a5, .ref a6, .ref a7, .ref a8, .ref a9, .ref a10, .ref a11, .ref a12, .ref a13, .int 0, .int 0, .ref a14, .int 0]))] H := hP
  have hD : va_D A [(a1, .inr (18, [.ref a15, .ref a16, .int 0, .ref a17, .int 0, .ref a18, .int 0, .null, .int 0, .null, .long 0, .int 0, .null])), (a0, .inr (11, [.ref a4, .ref a5, .ref a6, .ref a7, .ref a8, .ref a9, .ref a10, .ref a11, .ref a12, .ref a13, .int 0, .int 0, .ref a14, .int 0]))] := hD
  refine W.eq (g2 := F0 m 2337 ls [.int 1]) rfl ?_
  refine lv_istore (lv' := [(6, .int 1), (0, .ref b), (1, .ref a0), (2, .ref a1), (3, .ref a2), (4, .ref a3), (5, .int 0)]) hx hb d_law_2337 hl (by decide) rfl (fun ls hl => ?_)
  refine lv_aload_n hx hb d_law_2339 rfl (lv_at hl 3 rfl) ?_
  refine lv_aload_n hx hb d_law_2340 rfl (lv_at hl 1 rfl) ?_
  refine lv_iload hx hb d_law_2341 (lv_at hl 6 rfl) ?_
  refine lv_iconst (v := 1) hx hb d_law_2343 (by decide +kernel) ?_
  refine lv_iadd hx hb d_law_2344 ?_
  refine nrm (x1 := 1) (by decide +kernel) ?_
  refine va_sld hx hb hX hbl hbA hS (hin4 (i := 1) rfl) d_law_2345 ?_
  refine nrm (x1 := xs 1) rfl ?_
  refine lv_aload_n hx hb d_law_2346 rfl (lv_at hl 1 rfl) ?_
  refine lv_iload hx hb d_law_2347 (lv_at hl 6 rfl) ?_
  refine lv_iconst (v := 2) hx hb d_law_2349 (by decide +kernel) ?_
  refine lv_iadd hx hb d_law_2350 ?_
  refine nrm (x1 := 2) (by decide +kernel) ?_
  refine va_sld hx hb hX hbl hbA hS (hin4 (i := 2) rfl) d_law_2351 ?_
  refine nrm (x1 := xs 2) rfl ?_
  refine lv_aload_n hx hb d_law_2352 rfl (lv_at hl 1 rfl) ?_
  refine lv_iload hx hb d_law_2353 (lv_at hl 6 rfl) ?_
  refine lv_iconst (v := 3) hx hb d_law_2355 (by decide +kernel) ?_
  refine lv_iadd hx hb d_law_2356 ?_
  refine nrm (x1 := 3) (by decide +kernel) ?_
  refine va_sld hx hb hX hbl hbA hS (hin4 (i := 3) rfl) d_law_2357 ?_
  refine nrm (x1 := xs 3) rfl ?_
  refine kV (As := [.int (xs 1), .int (xs 2), .int (xs 3)]) (rest := []) (wr := [(a0, .inr (11, [.ref a4, .ref a5, .ref a6, .ref a7, .ref a8, .ref a9, .ref a10, .ref a11, .ref a12, .ref a13, .int 0, .int 0, .ref a14, .int 0]))]) (c559_BModel_ward l z a1 a15 a16 a17 a18 (xs 1) (xs 2) (xs 3) h0 h1 h2 h3 h4 h5) hx hb hml hown hts w_2428 w_2425 w_2426 w_2427 w_12 md_ef7173 ⟨Nat.le_of_ble_eq_true rfl, Nat.le_of_ble_eq_true rfl⟩ hG hZ hP hD hS hA 0 rfl rfl rfl [0] [1] rfl rfl rfl rfl rfl hl.1 rfl (Nat.le_of_ble_eq_true rfl) d_law_2358 ⟨Nat.le_of_ble_eq_true rfl, Nat.le_of_ble_eq_true rfl⟩ (fun u1 H locs hP hD hS => ?_)
  have hP : va_P z.1 classes [(a0, .inr (11, [.ref a4, .ref a5, .ref a6, .ref a7, .ref a8, .ref a9, .ref a10, .ref a11, .ref a12, .ref a13, .int 0, .int 0, .ref a14, .int 0])), (a1, .inr (18, [.ref a15, .ref a16, .int 0, .ref a17, .int 0, .ref a18, .int 1, .null, .int 0, .null, .long 0, .int 0, .null]))] H := hP
  have hD : va_D A [(a0, .inr (11, [.ref a4, .ref a5, .ref a6, .ref a7, .ref a8, .ref a9, .ref a10, .ref a11, .ref a12, .ref a13, .int 0, .int 0, .ref a14, .int 0])), (a1, .inr (18, [.ref a15, .ref a16, .int 0, .ref a17, .int 0, .ref a18, .int 1, .null, .int 0, .null, .long 0, .int 0, .null]))] := hD
  refine W.eq (g2 := F0 m 2361 ls [.int 0]) rfl ?_
  refine lv_istore (lv' := [(7, .int 0), (6, .int 1), (0, .ref b), (1, .ref a0), (2, .ref a1), (3, .ref a2), (4, .ref a3), (5, .int 0)]) hx hb d_law_2361 hl (by decide) rfl (fun ls hl => ?_)
  refine lv_aload_n hx hb d_law_2363 rfl (lv_at hl 4 rfl) ?_
  refine kV (As := []) (rest := []) (wr := [(a0, .inr (11, [.ref a4, .ref a5, .ref a6, .ref a7, .ref a8, .ref a9, .ref a10, .ref a11, .ref a12, .ref a13, .int 0, .int 0, .ref a14, .int 0]))]) (c33_BModel_thrown l z a1 a15 a16 a17 a18) hx hb hml hown hts w_1688 w_1685 w_1686 w_1687 w_12 md_c48e0f ⟨Nat.le_of_ble_eq_true rfl, Nat.le_of_ble_eq_true rfl⟩ hG hZ hP hD hS hA 1 rfl rfl rfl [1] [0] rfl rfl rfl rfl rfl hl.1 rfl (Nat.le_of_ble_eq_true rfl) d_law_2364 ⟨Nat.le_of_ble_eq_true rfl, Nat.le_of_ble_eq_true rfl⟩ (fun u2 H locs hP hD hS => ?_)
  have hP : va_P z.1 classes [(a0, .inr (11, [.ref a4, .ref a5, .ref a6, .ref a7, .ref a8, .ref a9, .ref a10, .ref a11, .ref a12, .ref a13, .int 0, .int 0, .ref a14, .int 0])), (a1, .inr (18, [.ref a15, .ref a16, .int 0, .ref a17, .int 0, .ref a18, .int 1, .null, .int 0, .null, .long 0, .int 0, .null]))] H := hP
  have hD : va_D A [(a0, .inr (11, [.ref a4, .ref a5, .ref a6, .ref a7, .ref a8, .ref a9, .ref a10, .ref a11, .ref a12, .ref a13, .int 0, .int 0, .ref a14, .int 0])), (a1, .inr (18, [.ref a15, .ref a16, .int 0, .ref a17, .int 0, .ref a18, .int 1, .null, .int 0, .null, .long 0, .int 0, .null]))] := hD
  refine W.eq (g2 := F0 m 2367 ls [.int 1]) rfl ?_
  refine lv_iload hx hb d_law_2367 (lv_at hl 1 rfl) ?_
  refine lv_icmp_eq (tgt := 2374) hx hb d_law_2369 (by decide) (fun _ => ?_) (fun c9 => absurd (by decide +kernel) c9)
  refine lv_iload hx hb d_law_2374 (lv_at hl 1 rfl) ?_
  refine lv_if_ne (tgt := 2391) hx hb d_law_2376 (by decide) (fun _ => ?_) (fun c9 => absurd c9 (by decide +kernel))
  refine lv_goto (tgt := 3072) hx hb d_law_2391 (by decide) ?_
  refine W.widen (k := 600002) (n := 7302232) (Nat.le_of_ble_eq_true rfl) (Nat.le_of_ble_eq_true rfl) ?_
  exact ht H locs ls hS (lv_sub hl [2, 7] rfl)
set_option maxRecDepth 100000 in
set_option maxHeartbeats 4000000 in
theorem L39_6 (l : Launch) (hl0 : l.stackTraces = false) (z : Zz) {p : Program} {e : Env} {s : State} {m : MethodId} {below : List Frame} {meth : Method} {c : Code} {A : Nat → Prop} {b : Nat} {xs : Nat → Int32} {Q : State → Prop} (hx : p.tables.exec = Jvm.exec) (hb : c.code = code) (hml : c.maxLocals = 9) (hts : ∀ w ∈ WG, w.before #[Value.ref b] s = true) (hown : s.vm.findClass "BallothallLaw" = some m.cls) (hA : ∀ q, s.heap.size ≤ q → A q) (hG : KG z s) (hZ : XZ A s) (hX : va_X b 4 xs s s.heap) (hbl : b < s.heap.size) (hbA : ¬ A b) (ht : ∀ (H : Heap) (locs : List Loc) (ls : Array Slot), va_S A s.heap H locs → lv_has ls 9 [(0, .ref b), (5, .int 0)] → W p l e room_1 s m #[Value.ref b] below meth c H locs 600002 7302232 Q (F0 m 3072 ls [])) (a0 : Nat) (a1 : Nat) (a2 : Nat) (a3 : Nat) (a4 : Nat) (a5 : Nat) (a6 : Nat) (a7 : Nat) (a8 : Nat) (a9 : Nat) (a10 : Nat) (a11 : Nat) (a12 : Nat) (a13 : Nat) (a14 : Nat) (a15 : Nat) (a16 : Nat) (a17 : Nat) (a18 : Nat) (a19 : Nat) (a20 : Nat) (a21 : Nat) (a22 : Nat) (a23 : Nat) (a24 : Nat) (a25 : Nat) (a26 : Nat) (a27 : Nat) (a28 : Nat) (a29 : Nat) (a30 : Nat) (a31 : Nat) (a32 : Nat) (a33 : Nat) (g0 : Nat → Option Nat) (h0 : ¬ (xs 1) < 1) (h1 : ¬ 100000 < (xs 1)) (h2 : ¬ (xs 2) < 0) (h3 : ¬ 100000 < (xs 2)) (h4 : ¬ (xs 3) < 0) (h5 : ¬ 100000 < (xs 3)) (H : Heap) (locs : List Loc) (ls : Array Slot) (hP : va_P z.1 classes [(a0, .inr (11, [.ref a4, .ref a5, .ref a6, .ref a7, .ref a8, .ref a9, .ref a10, .ref a11, .ref a12, .ref a13, .int 0, .int 0, .ref a14, .int 0])), (a9, .inr (10, [.int 0, .ref a15, .ref a16, .ref a17, .ref a18])), (a15, .inl (z.2 0, 16, .inl (fun _ => 0))), (a16, .inl (z.2 8, 2, .inr (.inr (.inr (.inr (va_up (va_up g0 0 (some a19)) 1 (some a20))))))), (a19, .inl (z.2 0, 16, .inl (fun _ => 0))), (a20, .inl (z.2 0, 16, .inl (fun _ => 0))), (a11, .inl (z.2 0, 20, .inl (fun _ => 0))), (a12, .inl (z.2 0, 20, .inl (fun _ => 0))), (a13, .inl (z.2 0, 20, .inl (fun _ => 0))), (a2, .inl (z.2 1, 1, .inr (.inl (fun _ => 0)))), (a1, .inr (18, [.ref a21, .ref a22, .int 0, .ref a23, .int 0, .ref a24, .int 0, .null, .int 0, .null, .long 0, .int 0, .null])), (a21, .inr (17, [.int 0, .ref a25, .ref a26, .int 0, .ref a27, .ref a28, .ref a29, .null, .null, .int 0, .ref a30, .ref a31, .ref a32, .int 0, .ref a33, .int 1])), (a25, .inl (z.2 0, 8, .inl (fun _ => 0))), (a27, .inl (z.2 0, 8, .inl (fun _ => 0))), (a28, .inl (z.2 0, 8, .inl (fun _ => 0))), (a29, .inl (z.2 0, 8, .inl (fun _ => 0))), (a30, .inl (z.2 0, 16, .inl (fun _ => 0))), (a31, .inl (z.2 0, 16, .inl (fun _ => 0))), (a32, .inl (z.2 0, 16, .inl (fun _ => 0))), (a33, .inl (z.2 0, 12, .inl (fun _ => 0))), (a22, .inl (z.2 6, 20, .inr (.inr (.inr (.inr (fun _ => none))))))] H) (hD : va_D A [(a0, .inr (11, [.ref a4, .ref a5, .ref a6, .ref a7, .ref a8, .ref a9, .ref a10, .ref a11, .ref a12, .ref a13, .int 0, .int 0, .ref a14, .int 0])), (a9, .inr (10, [.int 0, .ref a15, .ref a16, .ref a17, .ref a18])), (a15, .inl (z.2 0, 16, .inl (fun _ => 0))), (a16, .inl (z.2 8, 2, .inr (.inr (.inr (.inr (va_up (va_up g0 0 (some a19)) 1 (some a20))))))), (a19, .inl (z.2 0, 16, .inl (fun _ => 0))), (a20, .inl (z.2 0, 16, .inl (fun _ => 0))), (a11, .inl (z.2 0, 20, .inl (fun _ => 0))), (a12, .inl (z.2 0, 20, .inl (fun _ => 0))), (a13, .inl (z.2 0, 20, .inl (fun _ => 0))), (a2, .inl (z.2 1, 1, .inr (.inl (fun _ => 0)))), (a1, .inr (18, [.ref a21, .ref a22, .int 0, .ref a23, .int 0, .ref a24, .int 0, .null, .int 0, .null, .long 0, .int 0, .null])), (a21, .inr (17, [.int 0, .ref a25, .ref a26, .int 0, .ref a27, .ref a28, .ref a29, .null, .null, .int 0, .ref a30, .ref a31, .ref a32, .int 0, .ref a33, .int 1])), (a25, .inl (z.2 0, 8, .inl (fun _ => 0))), (a27, .inl (z.2 0, 8, .inl (fun _ => 0))), (a28, .inl (z.2 0, 8, .inl (fun _ => 0))), (a29, .inl (z.2 0, 8, .inl (fun _ => 0))), (a30, .inl (z.2 0, 16, .inl (fun _ => 0))), (a31, .inl (z.2 0, 16, .inl (fun _ => 0))), (a32, .inl (z.2 0, 16, .inl (fun _ => 0))), (a33, .inl (z.2 0, 12, .inl (fun _ => 0))), (a22, .inl (z.2 6, 20, .inr (.inr (.inr (.inr (fun _ => none))))))]) (hS : va_S A s.heap H locs) (hl : lv_has ls 9 [(0, .ref b), (1, .ref a0), (2, .ref a1), (3, .ref a2), (4, .ref a3), (5, .int 0)]) : W p l e room_1 s m #[Value.ref b] below meth c H locs 265 8866 Q (F0 m 44 ls [.int 39]) := by
  refine lv_tableIn (tgt := 2314) hx hb d_law_44 (by decide +kernel) (by decide +kernel) rfl (by decide) ?_
  refine lv_aload_n hx hb d_law_2314 rfl (lv_at hl 1 rfl) ?_
  refine lv_aload_n hx hb d_law_2315 rfl (lv_at hl 0 rfl) ?_
  refine lv_iload hx hb d_law_2316 (lv_at hl 5 rfl) ?_
  refine lv_iconst (v := 1) hx hb d_law_2318 (by decide +kernel) ?_
  refine lv_iadd hx hb d_law_2319 ?_
  refine nrm (x1 := 1) (by decide +kernel) ?_
  refine va_sld hx hb hX hbl hbA hS (hin4 (i := 1) rfl) d_law_2320 ?_
  refine nrm (x1 := xs 1) rfl ?_
  refine lv_aload_n hx hb d_law_2321 rfl (lv_at hl 0 rfl) ?_
  refine lv_iload hx hb d_law_2322 (lv_at hl 5 rfl) ?_
  refine lv_iconst (v := 2) hx hb d_law_2324 (by decide +kernel) ?_
  refine lv_iadd hx hb d_law_2325 ?_
  refine nrm (x1 := 2) (by decide +kernel) ?_
  refine va_sld hx hb hX hbl hbA hS (hin4 (i := 2) rfl) d_law_2326 ?_
  refine nrm (x1 := xs 2) rfl ?_
  refine lv_aload_n hx hb d_law_2327 rfl (lv_at hl 0 rfl) ?_
  refine lv_iload hx hb d_law_2328 (lv_at hl 5 rfl) ?_
  refine lv_iconst (v := 3) hx hb d_law_2330 (by decide +kernel) ?_
  refine lv_iadd hx hb d_law_2331 ?_
  refine nrm (x1 := 3) (by decide +kernel) ?_
  refine va_sld hx hb hX hbl hbA hS (hin4 (i := 3) rfl) d_law_2332 ?_
  refine nrm (x1 := xs 3) rfl ?_
  refine lv_aload_n hx hb d_law_2333 rfl (lv_at hl 3 rfl) ?_
  refine kH (As := [.ref a0, .int (xs 1), .int (xs 2), .int (xs 3), .ref a2]) (rest := []) (wr := [(a1, .inr (18, [.ref a21, .ref a22, .int 0, .ref a23, .int 0, .ref a24, .int 0, .null, .int 0, .null, .long 0, .int 0, .null])), (a21, .inr (17, [.int 0, .ref a25, .ref a26, .int 0, .ref a27, .ref a28, .ref a29, .null, .null, .int 0, .ref a30, .ref a31, .ref a32, .int 0, .ref a33, .int 1])), (a25, .inl (z.2 0, 8, .inl (fun _ => 0))), (a27, .inl (z.2 0, 8, .inl (fun _ => 0))), (a28, .inl (z.2 0, 8, .inl (fun _ => 0))), (a29, .inl (z.2 0, 8, .inl (fun _ => 0))), (a30, .inl (z.2 0, 16, .inl (fun _ => 0))), (a31, .inl (z.2 0, 16, .inl (fun _ => 0))), (a32, .inl (z.2 0, 16, .inl (fun _ => 0))), (a33, .inl (z.2 0, 12, .inl (fun _ => 0))), (a22, .inl (z.2 6, 20, .inr (.inr (.inr (.inr (fun _ => none))))))]) (c564_BLaw_ward l z a0 a2 a4 a5 a6 a7 a8 a9 a10 a11 a12 a13 a14 a15 a16 a17 a18 a19 a20 g0 (xs 1) (xs 2) (xs 3) h0 h1 h2 h3 h4 h5) hx hb hml hown hts w_1453 w_1451 w_1452 w_0 md_6a2154 ⟨Nat.le_of_ble_eq_true rfl, Nat.le_of_ble_eq_true rfl⟩ hG hZ hP hD hS hA [0, 1, 2, 3, 4, 5, 6, 7, 8, 9] [10, 11, 12, 13, 14, 15, 16, 17, 18, 19, 20] rfl rfl rfl rfl rfl hl.1 rfl (Nat.le_of_ble_eq_true rfl) d_law_2334 ⟨Nat.le_of_ble_eq_true rfl, Nat.le_of_ble_eq_true rfl⟩ (fun u0 H locs hP hD hS => ?_)
  have hP : va_P z.1 classes [(a1, .inr (18, [.ref a21, .ref a22, .int 0, .ref a23, .int 0, .ref a24, .int 0, .null, .int 0, .null, .long 0, .int 0, .null])), (a21, .inr (17, [.int 0, .ref a25, .ref a26, .int 0, .ref a27, .ref a28, .ref a29, .null, .null, .int 0, .ref a30, .ref a31, .ref a32, .int 0, .ref a33, .int 1])), (a25, .inl (z.2 0, 8, .inl (fun _ => 0))), (a27, .inl (z.2 0, 8, .inl (fun _ => 0))), (a28, .inl (z.2 0, 8, .inl (fun _ => 0))), (a29, .inl (z.2 0, 8, .inl (fun _ => 0))), (a30, .inl (z.2 0, 16, .inl (fun _ => 0))), (a31, .inl (z.2 0, 16, .inl (fun _ => 0))), (a32, .inl (z.2 0, 16, .inl (fun _ => 0))), (a33, .inl (z.2 0, 12, .inl (fun _ => 0))), (a22, .inl (z.2 6, 20, .inr (.inr (.inr (.inr (fun _ => none)))))), (a0, .inr (11, [.ref a4, .ref a5, .ref a6, .ref a7, .ref a8, .ref a9, .ref a10, .ref a11, .ref a12, .ref a13, .int 1, .int 1, .ref a14, .int 0])), (a9, .inr (10, [.int 1, .ref a15, .ref a16, .ref a17, .ref a18])), (a15, .inl (z.2 0, 16, .inl (upd (fun _ => 0) 0 (xs 1)))), (a16, .inl (z.2 8, 2, .inr (.inr (.inr (.inr (va_up (va_up g0 0 (some a19)) 1 (some a20))))))), (a19, .inl (z.2 0, 16, .inl (upd (fun _ => 0) 0 (xs 2)))), (a20, .inl (z.2 0, 16, .inl (upd (fun _ => 0) 0 (xs 3)))), (a11, .inl (z.2 0, 20, .inl (upd (fun _ => 0) 1 10))), (a12, .inl (z.2 0, 20, .inl (fun _ => 0))), (a13, .inl (z.2 0, 20, .inl (fun _ => 0))), (a2, .inl (z.2 1, 1, .inr (.inl (fun _ => 0))))] H := hP
  have hD : va_D A [(a1, .inr (18, [.ref a21, .ref a22, .int 0, .ref a23, .int 0, .ref a24, .int 0, .null, .int 0, .null, .long 0, .int 0, .null])), (a21, .inr (17, [.int 0, .ref a25, .ref a26, .int 0, .ref a27, .ref a28, .ref a29, .null, .null, .int 0, .ref a30, .ref a31, .ref a32, .int 0, .ref a33, .int 1])), (a25, .inl (z.2 0, 8, .inl (fun _ => 0))), (a27, .inl (z.2 0, 8, .inl (fun _ => 0))), (a28, .inl (z.2 0, 8, .inl (fun _ => 0))), (a29, .inl (z.2 0, 8, .inl (fun _ => 0))), (a30, .inl (z.2 0, 16, .inl (fun _ => 0))), (a31, .inl (z.2 0, 16, .inl (fun _ => 0))), (a32, .inl (z.2 0, 16, .inl (fun _ => 0))), (a33, .inl (z.2 0, 12, .inl (fun _ => 0))), (a22, .inl (z.2 6, 20, .inr (.inr (.inr (.inr (fun _ => none)))))), (a0, .inr (11, [.ref a4, .ref a5, .ref a6, .ref a7, .ref a8, .ref a9, .ref a10, .ref a11, .ref a12, .ref a13, .int 1, .int 1, .ref a14, .int 0])), (a9, .inr (10, [.int 1, .ref a15, .ref a16, .ref a17, .ref a18])), (a15, .inl (z.2 0, 16, .inl (upd (fun _ => 0) 0 (xs 1)))), (a16, .inl (z.2 8, 2, .inr (.inr (.inr (.inr (va_up (va_up g0 0 (some a19)) 1 (some a20))))))), (a19, .inl (z.2 0, 16, .inl (upd (fun _ => 0) 0 (xs 2)))), (a20, .inl (z.2 0, 16, .inl (upd (fun _ => 0) 0 (xs 3)))), (a11, .inl (z.2 0, 20, .inl (upd (fun _ => 0) 1 10))), (a12, .inl (z.2 0, 20, .inl (fun _ => 0))), (a13, .inl (z.2 0, 20, .inl (fun _ => 0))), (a2, .inl (z.2 1, 1, .inr (.inl (fun _ => 0))))] := hD
  refine W.eq (g2 := F0 m 2337 ls [.int 0]) rfl ?_
  refine lv_istore (lv' := [(6, .int 0), (0, .ref b), (1, .ref a0), (2, .ref a1), (3, .ref a2), (4, .ref a3), (5, .int 0)]) hx hb d_law_2337 hl (by decide) rfl (fun ls hl => ?_)
  refine lv_aload_n hx hb d_law_2339 rfl (lv_at hl 3 rfl) ?_
  refine lv_aload_n hx hb d_law_2340 rfl (lv_at hl 1 rfl) ?_
  refine lv_iload hx hb d_law_2341 (lv_at hl 6 rfl) ?_
  refine lv_iconst (v := 1) hx hb d_law_2343 (by decide +kernel) ?_
  refine lv_iadd hx hb d_law_2344 ?_
  refine nrm (x1 := 1) (by decide +kernel) ?_
  refine va_sld hx hb hX hbl hbA hS (hin4 (i := 1) rfl) d_law_2345 ?_
  refine nrm (x1 := xs 1) rfl ?_
  refine lv_aload_n hx hb d_law_2346 rfl (lv_at hl 1 rfl) ?_
  refine lv_iload hx hb d_law_2347 (lv_at hl 6 rfl) ?_
  refine lv_iconst (v := 2) hx hb d_law_2349 (by decide +kernel) ?_
  refine lv_iadd hx hb d_law_2350 ?_
  refine nrm (x1 := 2) (by decide +kernel) ?_
  refine va_sld hx hb hX hbl hbA hS (hin4 (i := 2) rfl) d_law_2351 ?_
  refine nrm (x1 := xs 2) rfl ?_
  refine lv_aload_n hx hb d_law_2352 rfl (lv_at hl 1 rfl) ?_
  refine lv_iload hx hb d_law_2353 (lv_at hl 6 rfl) ?_
  refine lv_iconst (v := 3) hx hb d_law_2355 (by decide +kernel) ?_
  refine lv_iadd hx hb d_law_2356 ?_
  refine nrm (x1 := 3) (by decide +kernel) ?_
  refine va_sld hx hb hX hbl hbA hS (hin4 (i := 3) rfl) d_law_2357 ?_
  refine nrm (x1 := xs 3) rfl ?_
  refine kV (As := [.int (xs 1), .int (xs 2), .int (xs 3)]) (rest := []) (wr := [(a0, .inr (11, [.ref a4, .ref a5, .ref a6, .ref a7, .ref a8, .ref a9, .ref a10, .ref a11, .ref a12, .ref a13, .int 1, .int 1, .ref a14, .int 0])), (a9, .inr (10, [.int 1, .ref a15, .ref a16, .ref a17, .ref a18])), (a15, .inl (z.2 0, 16, .inl (upd (fun _ => 0) 0 (xs 1)))), (a16, .inl (z.2 8, 2, .inr (.inr (.inr (.inr (va_up (va_up g0 0 (some a19)) 1 (some a20))))))), (a19, .inl (z.2 0, 16, .inl (upd (fun _ => 0) 0 (xs 2)))), (a20, .inl (z.2 0, 16, .inl (upd (fun _ => 0) 0 (xs 3)))), (a11, .inl (z.2 0, 20, .inl (upd (fun _ => 0) 1 10))), (a12, .inl (z.2 0, 20, .inl (fun _ => 0))), (a13, .inl (z.2 0, 20, .inl (fun _ => 0))), (a2, .inl (z.2 1, 1, .inr (.inl (fun _ => 0))))]) (c565_BModel_ward l z a1 a21 a22 a23 a24 a25 a26 a27 a28 a29 a30 a31 a32 a33 (xs 1) (xs 2) (xs 3) h0 h1 h2 h3 h4 h5) hx hb hml hown hts w_2428 w_2425 w_2426 w_2427 w_12 md_ef7173 ⟨Nat.le_of_ble_eq_true rfl, Nat.le_of_ble_eq_true rfl⟩ hG hZ hP hD hS hA 0 rfl rfl rfl [0, 1, 2, 3, 4, 5, 6, 7, 8, 9, 10] [11, 12, 13, 14, 15, 16, 17, 18, 19, 20] rfl rfl rfl rfl rfl hl.1 rfl (Nat.le_of_ble_eq_true rfl) d_law_2358 ⟨Nat.le_of_ble_eq_true rfl, Nat.le_of_ble_eq_true rfl⟩ (fun u1 H locs hP hD hS => ?_)
  have hP : va_P z.1 classes [(a0, .inr (11, [.ref a4, .ref a5, .ref a6, .ref a7, .ref a8, .ref a9, .ref a10, .ref a11, .ref a12, .ref a13, .int 1, .int 1, .ref a14, .int 0])), (a9, .inr (10, [.int 1, .ref a15, .ref a16, .ref a17, .ref a18])), (a15, .inl (z.2 0, 16, .inl (upd (fun _ => 0) 0 (xs 1)))), (a16, .inl (z.2 8, 2, .inr (.inr (.inr (.inr (va_up (va_up g0 0 (some a19)) 1 (some a20))))))), (a19, .inl (z.2 0, 16, .inl (upd (fun _ => 0) 0 (xs 2)))), (a20, .inl (z.2 0, 16, .inl (upd (fun _ => 0) 0 (xs 3)))), (a11, .inl (z.2 0, 20, .inl (upd (fun _ => 0) 1 10))), (a12, .inl (z.2 0, 20, .inl (fun _ => 0))), (a13, .inl (z.2 0, 20, .inl (fun _ => 0))), (a2, .inl (z.2 1, 1, .inr (.inl (fun _ => 0)))), (a1, .inr (18, [.ref a21, .ref a22, .int 1, .ref a23, .int 0, .ref a24, .int 0, .null, .int 0, .null, .long 0, .int 0, .null])), (a21, .inr (17, [.int 0, .ref a25, .ref a26, .int 0, .ref a27, .ref a28, .ref a29, .null, .null, .int 1, .ref a30, .ref a31, .ref a32, .int 0, .ref a33, .int 1])), (a25, .inl (z.2 0, 8, .inl (fun _ => 0))), (a27, .inl (z.2 0, 8, .inl (fun _ => 0))), (a28, .inl (z.2 0, 8, .inl (fun _ => 0))), (a29, .inl (z.2 0, 8, .inl (fun _ => 0))), (a30, .inl (z.2 0, 16, .inl (upd (fun _ => 0) 0 (xs 1)))), (a31, .inl (z.2 0, 16, .inl (upd (fun _ => 0) 0 (xs 2)))), (a32, .inl (z.2 0, 16, .inl (upd (fun _ => 0) 0 (xs 3)))), (a33, .inl (z.2 0, 12, .inl (fun _ => 0))), (a22, .inl (z.2 6, 20, .inr (.inr (.inr (.inr (va_up (fun _ => none) 0 (some (u1.1 0))))))))] H := hP
  have hD : va_D A [(a0, .inr (11, [.ref a4, .ref a5, .ref a6, .ref a7, .ref a8, .ref a9, .ref a10, .ref a11, .ref a12, .ref a13, .int 1, .int 1, .ref a14, .int 0])), (a9, .inr (10, [.int 1, .ref a15, .ref a16, .ref a17, .ref a18])), (a15, .inl (z.2 0, 16, .inl (upd (fun _ => 0) 0 (xs 1)))), (a16, .inl (z.2 8, 2, .inr (.inr (.inr (.inr (va_up (va_up g0 0 (some a19)) 1 (some a20))))))), (a19, .inl (z.2 0, 16, .inl (upd (fun _ => 0) 0 (xs 2)))), (a20, .inl (z.2 0, 16, .inl (upd (fun _ => 0) 0 (xs 3)))), (a11, .inl (z.2 0, 20, .inl (upd (fun _ => 0) 1 10))), (a12, .inl (z.2 0, 20, .inl (fun _ => 0))), (a13, .inl (z.2 0, 20, .inl (fun _ => 0))), (a2, .inl (z.2 1, 1, .inr (.inl (fun _ => 0)))), (a1, .inr (18, [.ref a21, .ref a22, .int 1, .ref a23, .int 0, .ref a24, .int 0, .null, .int 0, .null, .long 0, .int 0, .null])), (a21, .inr (17, [.int 0, .ref a25, .ref a26, .int 0, .ref a27, .ref a28, .ref a29, .null, .null, .int 1, .ref a30, .ref a31, .ref a32, .int 0, .ref a33, .int 1])), (a25, .inl (z.2 0, 8, .inl (fun _ => 0))), (a27, .inl (z.2 0, 8, .inl (fun _ => 0))), (a28, .inl (z.2 0, 8, .inl (fun _ => 0))), (a29, .inl (z.2 0, 8, .inl (fun _ => 0))), (a30, .inl (z.2 0, 16, .inl (upd (fun _ => 0) 0 (xs 1)))), (a31, .inl (z.2 0, 16, .inl (upd (fun _ => 0) 0 (xs 2)))), (a32, .inl (z.2 0, 16, .inl (upd (fun _ => 0) 0 (xs 3)))), (a33, .inl (z.2 0, 12, .inl (fun _ => 0))), (a22, .inl (z.2 6, 20, .inr (.inr (.inr (.inr (va_up (fun _ => none) 0 (some (u1.1 0))))))))] := hD
  refine W.eq (g2 := F0 m 2361 ls [.int 0]) rfl ?_
  refine lv_istore (lv' := [(7, .int 0), (6, .int 0), (0, .ref b), (1, .ref a0), (2, .ref a1), (3, .ref a2), (4, .ref a3), (5, .int 0)]) hx hb d_law_2361 hl (by decide) rfl (fun ls hl => ?_)
  refine lv_aload_n hx hb d_law_2363 rfl (lv_at hl 4 rfl) ?_
  refine kV (As := []) (rest := []) (wr := [(a0, .inr (11, [.ref a4, .ref a5, .ref a6, .ref a7, .ref a8, .ref a9, .ref a10, .ref a11, .ref a12, .ref a13, .int 1, .int 1, .ref a14, .int 0])), (a9, .inr (10, [.int 1, .ref a15, .ref a16, .ref a17, .ref a18])), (a15, .inl (z.2 0, 16, .inl (upd (fun _ => 0) 0 (xs 1)))), (a16, .inl (z.2 8, 2, .inr (.inr (.inr (.inr (va_up (va_up g0 0 (some a19)) 1 (some a20))))))), (a19, .inl (z.2 0, 16, .inl (upd (fun _ => 0) 0 (xs 2)))), (a20, .inl (z.2 0, 16, .inl (upd (fun _ => 0) 0 (xs 3)))), (a11, .inl (z.2 0, 20, .inl (upd (fun _ => 0) 1 10))), (a12, .inl (z.2 0, 20, .inl (fun _ => 0))), (a13, .inl (z.2 0, 20, .inl (fun _ => 0))), (a2, .inl (z.2 1, 1, .inr (.inl (fun _ => 0)))), (a21, .inr (17, [.int 0, .ref a25, .ref a26, .int 0, .ref a27, .ref a28, .ref a29, .null, .null, .int 1, .ref a30, .ref a31, .ref a32, .int 0, .ref a33, .int 1])), (a25, .inl (z.2 0, 8, .inl (fun _ => 0))), (a27, .inl (z.2 0, 8, .inl (fun _ => 0))), (a28, .inl (z.2 0, 8, .inl (fun _ => 0))), (a29, .inl (z.2 0, 8, .inl (fun _ => 0))), (a30, .inl (z.2 0, 16, .inl (upd (fun _ => 0) 0 (xs 1)))), (a31, .inl (z.2 0, 16, .inl (upd (fun _ => 0) 0 (xs 2)))), (a32, .inl (z.2 0, 16, .inl (upd (fun _ => 0) 0 (xs 3)))), (a33, .inl (z.2 0, 12, .inl (fun _ => 0))), (a22, .inl (z.2 6, 20, .inr (.inr (.inr (.inr (va_up (fun _ => none) 0 (some (u1.1 0))))))))]) (c25_BModel_thrown l z a1 a21 a22 a23 a24) hx hb hml hown hts w_1688 w_1685 w_1686 w_1687 w_12 md_c48e0f ⟨Nat.le_of_ble_eq_true rfl, Nat.le_of_ble_eq_true rfl⟩ hG hZ hP hD hS hA 10 rfl rfl rfl [10] [0, 1, 2, 3, 4, 5, 6, 7, 8, 9, 11, 12, 13, 14, 15, 16, 17, 18, 19, 20] rfl rfl rfl rfl rfl hl.1 rfl (Nat.le_of_ble_eq_true rfl) d_law_2364 ⟨Nat.le_of_ble_eq_true rfl, Nat.le_of_ble_eq_true rfl⟩ (fun u2 H locs hP hD hS => ?_)
  have hP : va_P z.1 classes [(a0, .inr (11, [.ref a4, .ref a5, .ref a6, .ref a7, .ref a8, .ref a9, .ref a10, .ref a11, .ref a12, .ref a13, .int 1, .int 1, .ref a14, .int 0])), (a9, .inr (10, [.int 1, .ref a15, .ref a16, .ref a17, .ref a18])), (a15, .inl (z.2 0, 16, .inl (upd (fun _ => 0) 0 (xs 1)))), (a16, .inl (z.2 8, 2, .inr (.inr (.inr (.inr (va_up (va_up g0 0 (some a19)) 1 (some a20))))))), (a19, .inl (z.2 0, 16, .inl (upd (fun _ => 0) 0 (xs 2)))), (a20, .inl (z.2 0, 16, .inl (upd (fun _ => 0) 0 (xs 3)))), (a11, .inl (z.2 0, 20, .inl (upd (fun _ => 0) 1 10))), (a12, .inl (z.2 0, 20, .inl (fun _ => 0))), (a13, .inl (z.2 0, 20, .inl (fun _ => 0))), (a2, .inl (z.2 1, 1, .inr (.inl (fun _ => 0)))), (a21, .inr (17, [.int 0, .ref a25, .ref a26, .int 0, .ref a27, .ref a28, .ref a29, .null, .null, .int 1, .ref a30, .ref a31, .ref a32, .int 0, .ref a33, .int 1])), (a25, .inl (z.2 0, 8, .inl (fun _ => 0))), (a27, .inl (z.2 0, 8, .inl (fun _ => 0))), (a28, .inl (z.2 0, 8, .inl (fun _ => 0))), (a29, .inl (z.2 0, 8, .inl (fun _ => 0))), (a30, .inl (z.2 0, 16, .inl (upd (fun _ => 0) 0 (xs 1)))), (a31, .inl (z.2 0, 16, .inl (upd (fun _ => 0) 0 (xs 2)))), (a32, .inl (z.2 0, 16, .inl (upd (fun _ => 0) 0 (xs 3)))), (a33, .inl (z.2 0, 12, .inl (fun _ => 0))), (a22, .inl (z.2 6, 20, .inr (.inr (.inr (.inr (va_up (fun _ => none) 0 (some (u1.1 0)))))))), (a1, .inr (18, [.ref a21, .ref a22, .int 1, .ref a23, .int 0, .ref a24, .int 0, .null, .int 0, .null, .long 0, .int 0, .null]))] H := hP
  have hD : va_D A [(a0, .inr (11, [.ref a4, .ref a5, .ref a6, .ref a7, .ref a8, .ref a9, .ref a10, .ref a11, .ref a12, .ref a13, .int 1, .int 1, .ref a14, .int 0])), (a9, .inr (10, [.int 1, .ref a15, .ref a16, .ref a17, .ref a18])), (a15, .inl (z.2 0, 16, .inl (upd (fun _ => 0) 0 (xs 1)))), (a16, .inl (z.2 8, 2, .inr (.inr (.inr (.inr (va_up (va_up g0 0 (some a19)) 1 (some a20))))))), (a19, .inl (z.2 0, 16, .inl (upd (fun _ => 0) 0 (xs 2)))), (a20, .inl (z.2 0, 16, .inl (upd (fun _ => 0) 0 (xs 3)))), (a11, .inl (z.2 0, 20, .inl (upd (fun _ => 0) 1 10))), (a12, .inl (z.2 0, 20, .inl (fun _ => 0))), (a13, .inl (z.2 0, 20, .inl (fun _ => 0))), (a2, .inl (z.2 1, 1, .inr (.inl (fun _ => 0)))), (a21, .inr (17, [.int 0, .ref a25, .ref a26, .int 0, .ref a27, .ref a28, .ref a29, .null, .null, .int 1, .ref a30, .ref a31, .ref a32, .int 0, .ref a33, .int 1])), (a25, .inl (z.2 0, 8, .inl (fun _ => 0))), (a27, .inl (z.2 0, 8, .inl (fun _ => 0))), (a28, .inl (z.2 0, 8, .inl (fun _ => 0))), (a29, .inl (z.2 0, 8, .inl (fun _ => 0))), (a30, .inl (z.2 0, 16, .inl (upd (fun _ => 0) 0 (xs 1)))), (a31, .inl (z.2 0, 16, .inl (upd (fun _ => 0) 0 (xs 2)))), (a32, .inl (z.2 0, 16, .inl (upd (fun _ => 0) 0 (xs 3)))), (a33, .inl (z.2 0, 12, .inl (fun _ => 0))), (a22, .inl (z.2 6, 20, .inr (.inr (.inr (.inr (va_up (fun _ => none) 0 (some (u1.1 0)))))))), (a1, .inr (18, [.ref a21, .ref a22, .int 1, .ref a23, .int 0, .ref a24, .int 0, .null, .int 0, .null, .long 0, .int 0, .null]))] := hD
  refine W.eq (g2 := F0 m 2367 ls [.int 0]) rfl ?_
  refine lv_iload hx hb d_law_2367 (lv_at hl 1 rfl) ?_
  refine lv_icmp_eq (tgt := 2374) hx hb d_law_2369 (by decide) (fun _ => ?_) (fun c9 => absurd (by decide +kernel) c9)
  refine lv_iload hx hb d_law_2374 (lv_at hl 1 rfl) ?_
  refine lv_if_ne (tgt := 2391) hx hb d_law_2376 (by decide) (fun c9 => absurd (by decide +kernel) c9) (fun _ => ?_)
  refine lv_aload_n hx hb d_law_2379 rfl (lv_at hl 5 rfl) ?_
  refine lv_iconst (v := 0) hx hb d_law_2380 (by decide +kernel) ?_
  refine va_lald hx hb hG.1 hP 9 1 rfl rfl (vin rfl) d_law_2381 ?_
  refine nrmL (x1 := 0) rfl ?_
  refine lv_iload hx hb d_law_2382 (lv_at hl 0 rfl) ?_
  refine lv_i2l (v := 0) hx hb d_law_2384 (by decide +kernel) ?_
  refine W.lcmp hx hb d_law_2385 ?_
  refine nrm (x1 := 0) (by decide +kernel) ?_
  refine lv_if_eq (tgt := 2391) hx hb d_law_2386 (by decide) (fun _ => ?_) (fun c9 => absurd (by decide +kernel) c9)
  refine lv_goto (tgt := 3072) hx hb d_law_2391 (by decide) ?_
  refine W.widen (k := 600002) (n := 7302232) (Nat.le_of_ble_eq_true rfl) (Nat.le_of_ble_eq_true rfl) ?_
  exact ht H locs ls hS (lv_sub hl [2, 7] rfl)
set_option maxRecDepth 100000 in
set_option maxHeartbeats 4000000 in
theorem L40_0 (l : Launch) (hl0 : l.stackTraces = false) (z : Zz) {p : Program} {e : Env} {s : State} {m : MethodId} {below : List Frame} {meth : Method} {c : Code} {A : Nat → Prop} {b : Nat} {xs : Nat → Int32} {Q : State → Prop} (hx : p.tables.exec = Jvm.exec) (hb : c.code = code) (hml : c.maxLocals = 9) (hts : ∀ w ∈ WG, w.before #[Value.ref b] s = true) (hown : s.vm.findClass "BallothallLaw" = some m.cls) (hA : ∀ q, s.heap.size ≤ q → A q) (hG : KG z s) (hZ : XZ A s) (hX : va_X b 4 xs s s.heap) (hbl : b < s.heap.size) (hbA : ¬ A b) (ht : ∀ (H : Heap) (locs : List Loc) (ls : Array Slot), va_S A s.heap H locs → lv_has ls 9 [(0, .ref b), (5, .int 0)] → W p l e room_1 s m #[Value.ref b] below meth c H locs 600002 7302232 Q (F0 m 3072 ls [])) (a0 : Nat) (a1 : Nat) (a2 : Nat) (a3 : Nat) (a4 : Nat) (a5 : Nat) (a6 : Nat) (a7 : Nat) (a8 : Nat) (a9 : Nat) (a10 : Nat) (a11 : Nat) (a12 : Nat) (a13 : Nat) (a14 : Nat) (a15 : Nat) (a16 : Nat) (a17 : Nat) (a18 : Nat) (a19 : Nat) (a20 : Nat) (a21 : Nat) (a22 : Nat) (a23 : Nat) (a24 : Nat) (a25 : Nat) (a26 : Nat) (a27 : Nat) (a28 : Nat) (a29 : Nat) (a30 : Nat) (a31 : Nat) (h0 : (xs 1) < 1) (H : Heap) (locs : List Loc) (ls : Array Slot) (hP : va_P z.1 classes [(a0, .inr (11, [.ref a4, .ref a5, .ref a6, .ref a7, .ref a8, .ref a9, .ref a10, .ref a11, .ref a12, .ref a13, .int 0, .int 0, .ref a14, .int 0])), (a9, .inr (10, [.int 0, .ref a15, .ref a16, .ref a17, .ref a18])), (a1, .inr (18, [.ref a19, .ref a20, .int 0, .ref a21, .int 0, .ref a22, .int 0, .null, .int 0, .null, .long 0, .int 0, .null])), (a19, .inr (17, [.int 0, .ref a23, .ref a24, .int 0, .ref a25, .ref a26, .ref a27, .null, .null, .int 0, .ref a28, .ref a29, .ref a30, .int 0, .ref a31, .int 1]))] H) (hD : va_D A [(a0, .inr (11, [.ref a4, .ref a5, .ref a6, .ref a7, .ref a8, .ref a9, .ref a10, .ref a11, .ref a12, .ref a13, .int 0, .int 0, .ref a14, .int 0])), (a9, .inr (10, [.int 0, .ref a15, .ref a16, .ref a17, .ref a18])), (a1, .inr (18, [.ref a19, .ref a20, .int 0, .ref a21, .int 0, .ref a22, .int 0, .null, .int 0, .null, .long 0, .int 0, .null])), (a19, .inr (17, [.int 0, .ref a23, .ref a24, .int 0, .ref a25, .ref a26, .ref a27, .null, .null, .int 0, .ref a28, .ref a29, .ref a30, .int 0, .ref a31, .int 1]))]) (hS : va_S A s.heap H locs) (hl : lv_has ls 9 [(0, .ref b), (1, .ref a0), (2, .ref a1), (3, .ref a2), (4, .ref a3), (5, .int 0)]) : W p l e room_1 s m #[Value.ref b] below meth c H locs 265 8866 Q (F0 m 44 ls [.int 40]) := by
  refine lv_tableIn (tgt := 2394) hx hb d_law_44 (by decide +kernel) (by decide +kernel) rfl (by decide) ?_
  refine lv_aload_n hx hb d_law_2394 rfl (lv_at hl 1 rfl) ?_
  refine lv_aload_n hx hb d_law_2395 rfl (lv_at hl 0 rfl) ?_
  refine lv_iload hx hb d_law_2396 (lv_at hl 5 rfl) ?_
  refine lv_iconst (v := 1) hx hb d_law_2398 (by decide +kernel) ?_
  refine lv_iadd hx hb d_law_2399 ?_
  refine nrm (x1 := 1) (by decide +kernel) ?_
  refine va_sld hx hb hX hbl hbA hS (hin4 (i := 1) rfl) d_law_2400 ?_
  refine nrm (x1 := xs 1) rfl ?_
  refine lv_aload_n hx hb d_law_2401 rfl (lv_at hl 3 rfl) ?_
  refine kH (As := [.ref a0, .int (xs 1), .ref a2]) (rest := []) (wr := [(a1, .inr (18, [.ref a19, .ref a20, .int 0, .ref a21, .int 0, .ref a22, .int 0, .null, .int 0, .null, .long 0, .int 0, .null])), (a19, .inr (17, [.int 0, .ref a23, .ref a24, .int 0, .ref a25, .ref a26, .ref a27, .null, .null, .int 0, .ref a28, .ref a29, .ref a30, .int 0, .ref a31, .int 1]))]) (c567_BLaw_greatestDistrict l z hl0 a0 a2 a4 a5 a6 a7 a8 a9 a10 a11 a12 a13 a14 a15 a16 a17 a18 (xs 1) h0) hx hb hml hown hts w_1464 w_1462 w_1463 w_0 md_3d9e5c ⟨Nat.le_of_ble_eq_true rfl, Nat.le_of_ble_eq_true rfl⟩ hG hZ hP hD hS hA [0, 1] [2, 3] rfl rfl rfl rfl rfl hl.1 rfl (Nat.le_of_ble_eq_true rfl) d_law_2402 ⟨Nat.le_of_ble_eq_true rfl, Nat.le_of_ble_eq_true rfl⟩ (fun u0 H locs hP hD hS => ?_)
  have hP : va_P z.1 classes [(a1, .inr (18, [.ref a19, .ref a20, .int 0, .ref a21, .int 0, .ref a22, .int 0, .null, .int 0, .null, .long 0, .int 0, .null])), (a19, .inr (17, [.int 0, .ref a23, .ref a24, .int 0, .ref a25, .ref a26, .ref a27, .null, .null, .int 0, .ref a28, .ref a29, .ref a30, .int 0, .ref a31, .int 1]))] H := hP
  have hD : va_D A [(a1, .inr (18, [.ref a19, .ref a20, .int 0, .ref a21, .int 0, .ref a22, .int 0, .null, .int 0, .null, .long 0, .int 0, .null])), (a19, .inr (17, [.int 0, .ref a23, .ref a24, .int 0, .ref a25, .ref a26, .ref a27, .null, .null, .int 0, .ref a28, .ref a29, .ref a30, .int 0, .ref a31, .int 1]))] := hD
  refine W.eq (g2 := F0 m 2405 ls [.int 1]) rfl ?_
  refine lv_istore (lv' := [(6, .int 1), (0, .ref b), (1, .ref a0), (2, .ref a1), (3, .ref a2), (4, .ref a3), (5, .int 0)]) hx hb d_law_2405 hl (by decide) rfl (fun ls hl => ?_)
  refine lv_aload_n hx hb d_law_2407 rfl (lv_at hl 3 rfl) ?_
  refine lv_aload_n hx hb d_law_2408 rfl (lv_at hl 1 rfl) ?_
  refine lv_iload hx hb d_law_2409 (lv_at hl 6 rfl) ?_
  refine lv_iconst (v := 1) hx hb d_law_2411 (by decide +kernel) ?_
  refine lv_iadd hx hb d_law_2412 ?_
  refine nrm (x1 := 1) (by decide +kernel) ?_
  refine va_sld hx hb hX hbl hbA hS (hin4 (i := 1) rfl) d_law_2413 ?_
  refine nrm (x1 := xs 1) rfl ?_
  refine kV (As := [.int (xs 1)]) (rest := []) (wr := []) (c570_BModel_greatestDistrict l z a1 a19 a20 a21 a22 a23 a24 a25 a26 a27 a28 a29 a30 a31 (xs 1) h0) hx hb hml hown hts w_2432 w_2429 w_2430 w_2431 w_12 md_ba1c1a ⟨Nat.le_of_ble_eq_true rfl, Nat.le_of_ble_eq_true rfl⟩ hG hZ hP hD hS hA 0 rfl rfl rfl [0, 1] [] rfl rfl rfl rfl rfl hl.1 rfl (Nat.le_of_ble_eq_true rfl) d_law_2414 ⟨Nat.le_of_ble_eq_true rfl, Nat.le_of_ble_eq_true rfl⟩ (fun u1 H locs hP hD hS => ?_)
  have hP : va_P z.1 classes [(a1, .inr (18, [.ref a19, .ref a20, .int 0, .ref a21, .int 0, .ref a22, .int 1, .null, .int 0, .null, .long 0, .int 0, .null])), (a19, .inr (17, [.int 0, .ref a23, .ref a24, .int 0, .ref a25, .ref a26, .ref a27, .null, .null, .int 0, .ref a28, .ref a29, .ref a30, .int 0, .ref a31, .int 1]))] H := hP
  have hD : va_D A [(a1, .inr (18, [.ref a19, .ref a20, .int 0, .ref a21, .int 0, .ref a22, .int 1, .null, .int 0, .null, .long 0, .int 0, .null])), (a19, .inr (17, [.int 0, .ref a23, .ref a24, .int 0, .ref a25, .ref a26, .ref a27, .null, .null, .int 0, .ref a28, .ref a29, .ref a30, .int 0, .ref a31, .int 1]))] := hD
  refine W.eq (g2 := F0 m 2417 ls [.int 0]) rfl ?_
  refine lv_istore (lv' := [(7, .int 0), (6, .int 1), (0, .ref b), (1, .ref a0), (2, .ref a1), (3, .ref a2), (4, .ref a3), (5, .int 0)]) hx hb d_law_2417 hl (by decide) rfl (fun ls hl => ?_)
  refine lv_aload_n hx hb d_law_2419 rfl (lv_at hl 4 rfl) ?_
  refine kV (As := []) (rest := []) (wr := [(a19, .inr (17, [.int 0, .ref a23, .ref a24, .int 0, .ref a25, .ref a26, .ref a27, .null, .null, .int 0, .ref a28, .ref a29, .ref a30, .int 0, .ref a31, .int 1]))]) (c33_BModel_thrown l z a1 a19 a20 a21 a22) hx hb hml hown hts w_1688 w_1685 w_1686 w_1687 w_12 md_c48e0f ⟨Nat.le_of_ble_eq_true rfl, Nat.le_of_ble_eq_true rfl⟩ hG hZ hP hD hS hA 0 rfl rfl rfl [0] [1] rfl rfl rfl rfl rfl hl.1 rfl (Nat.le_of_ble_eq_true rfl) d_law_2420 ⟨Nat.le_of_ble_eq_true rfl, Nat.le_of_ble_eq_true rfl⟩ (fun u2 H locs hP hD hS => ?_)
  have hP : va_P z.1 classes [(a19, .inr (17, [.int 0, .ref a23, .ref a24, .int 0, .ref a25, .ref a26, .ref a27, .null, .null, .int 0, .ref a28, .ref a29, .ref a30, .int 0, .ref a31, .int 1])), (a1, .inr (18, [.ref a19, .ref a20, .int 0, .ref a21, .int 0, .ref a22, .int 1, .null, .int 0, .null, .long 0, .int 0, .null]))] H := hP
  have hD : va_D A [(a19, .inr (17, [.int 0, .ref a23, .ref a24, .int 0, .ref a25, .ref a26, .ref a27, .null, .null, .int 0, .ref a28, .ref a29, .ref a30, .int 0, .ref a31, .int 1])), (a1, .inr (18, [.ref a19, .ref a20, .int 0, .ref a21, .int 0, .ref a22, .int 1, .null, .int 0, .null, .long 0, .int 0, .null]))] := hD
  refine W.eq (g2 := F0 m 2423 ls [.int 1]) rfl ?_
  refine lv_iload hx hb d_law_2423 (lv_at hl 1 rfl) ?_
  refine lv_icmp_eq (tgt := 2430) hx hb d_law_2425 (by decide) (fun _ => ?_) (fun c9 => absurd (by decide +kernel) c9)
  refine lv_iload hx hb d_law_2430 (lv_at hl 1 rfl) ?_
  refine lv_if_ne (tgt := 2447) hx hb d_law_2432 (by decide) (fun _ => ?_) (fun c9 => absurd c9 (by decide +kernel))
  refine lv_goto (tgt := 3072) hx hb d_law_2447 (by decide) ?_
  refine W.widen (k := 600002) (n := 7302232) (Nat.le_of_ble_eq_true rfl) (Nat.le_of_ble_eq_true rfl) ?_
  exact ht H locs ls hS (lv_sub hl [2, 7] rfl)
set_option maxRecDepth 100000 in
set_option maxHeartbeats 4000000 in
theorem L40_1 (l : Launch) (hl0 : l.stackTraces = false) (z : Zz) {p : Program} {e : Env} {s : State} {m : MethodId} {below : List Frame} {meth : Method} {c : Code} {A : Nat → Prop} {b : Nat} {xs : Nat → Int32} {Q : State → Prop} (hx : p.tables.exec = Jvm.exec) (hb : c.code = code) (hml : c.maxLocals = 9) (hts : ∀ w ∈ WG, w.before #[Value.ref b] s = true) (hown : s.vm.findClass "BallothallLaw" = some m.cls) (hA : ∀ q, s.heap.size ≤ q → A q) (hG : KG z s) (hZ : XZ A s) (hX : va_X b 4 xs s s.heap) (hbl : b < s.heap.size) (hbA : ¬ A b) (ht : ∀ (H : Heap) (locs : List Loc) (ls : Array Slot), va_S A s.heap H locs → lv_has ls 9 [(0, .ref b), (5, .int 0)] → W p l e room_1 s m #[Value.ref b] below meth c H locs 600002 7302232 Q (F0 m 3072 ls [])) (a0 : Nat) (a1 : Nat) (a2 : Nat) (a3 : Nat) (a4 : Nat) (a5 : Nat) (a6 : Nat) (a7 : Nat) (a8 : Nat) (a9 : Nat) (a10 : Nat) (a11 : Nat) (a12 : Nat) (a13 : Nat) (a14 : Nat) (a15 : Nat) (a16 : Nat) (a17 : Nat) (a18 : Nat) (a19 : Nat) (a20 : Nat) (a21 : Nat) (a22 : Nat) (a23 : Nat) (a24 : Nat) (a25 : Nat) (a26 : Nat) (a27 : Nat) (a28 : Nat) (a29 : Nat) (a30 : Nat) (a31 : Nat) (h0 : ¬ (xs 1) < 1) (h1 : 0 < (xs 1)) (H : Heap) (locs : List Loc) (ls : Array Slot) (hP : va_P z.1 classes [(a0, .inr (11, [.ref a4, .ref a5, .ref a6, .ref a7, .ref a8, .ref a9, .ref a10, .ref a11, .ref a12, .ref a13, .int 0, .int 0, .ref a14, .int 0])), (a9, .inr (10, [.int 0, .ref a15, .ref a16, .ref a17, .ref a18])), (a1, .inr (18, [.ref a19, .ref a20, .int 0, .ref a21, .int 0, .ref a22, .int 0, .null, .int 0, .null, .long 0, .int 0, .null])), (a19, .inr (17, [.int 0, .ref a23, .ref a24, .int 0, .ref a25, .ref a26, .ref a27, .null, .null, .int 0, .ref a28, .ref a29, .ref a30, .int 0, .ref a31, .int 1]))] H) (hD : va_D A [(a0, .inr (11, [.ref a4, .ref a5, .ref a6, .ref a7, .ref a8, .ref a9, .ref a10, .ref a11, .ref a12, .ref a13, .int 0, .int 0, .ref a14, .int 0])), (a9, .inr (10, [.int 0, .ref a15, .ref a16, .ref a17, .ref a18])), (a1, .inr (18, [.ref a19, .ref a20, .int 0, .ref a21, .int 0, .ref a22, .int 0, .null, .int 0, .null, .long 0, .int 0, .null])), (a19, .inr (17, [.int 0, .ref a23, .ref a24, .int 0, .ref a25, .ref a26, .ref a27, .null, .null, .int 0, .ref a28, .ref a29, .ref a30, .int 0, .ref a31, .int 1]))]) (hS : va_S A s.heap H locs) (hl : lv_has ls 9 [(0, .ref b), (1, .ref a0), (2, .ref a1), (3, .ref a2), (4, .ref a3), (5, .int 0)]) : W p l e room_1 s m #[Value.ref b] below meth c H locs 265 8866 Q (F0 m 44 ls [.int 40]) := by
  refine lv_tableIn (tgt := 2394) hx hb d_law_44 (by decide +kernel) (by decide +kernel) rfl (by decide) ?_
  refine lv_aload_n hx hb d_law_2394 rfl (lv_at hl 1 rfl) ?_
  refine lv_aload_n hx hb d_law_2395 rfl (lv_at hl 0 rfl) ?_
  refine lv_iload hx hb d_law_2396 (lv_at hl 5 rfl) ?_
  refine lv_iconst (v := 1) hx hb d_law_2398 (by decide +kernel) ?_
  refine lv_iadd hx hb d_law_2399 ?_
  refine nrm (x1 := 1) (by decide +kernel) ?_
  refine va_sld hx hb hX hbl hbA hS (hin4 (i := 1) rfl) d_law_2400 ?_
  refine nrm (x1 := xs 1) rfl ?_
  refine lv_aload_n hx hb d_law_2401 rfl (lv_at hl 3 rfl) ?_
  refine kH (As := [.ref a0, .int (xs 1), .ref a2]) (rest := []) (wr := [(a1, .inr (18, [.ref a19, .ref a20, .int 0, .ref a21, .int 0, .ref a22, .int 0, .null, .int 0, .null, .long 0, .int 0, .null])), (a19, .inr (17, [.int 0, .ref a23, .ref a24, .int 0, .ref a25, .ref a26, .ref a27, .null, .null, .int 0, .ref a28, .ref a29, .ref a30, .int 0, .ref a31, .int 1]))]) (c572_BLaw_greatestDistrict l z hl0 a0 a2 a4 a5 a6 a7 a8 a9 a10 a11 a12 a13 a14 a15 a16 a17 a18 (xs 1) h0 h1) hx hb hml hown hts w_1464 w_1462 w_1463 w_0 md_3d9e5c ⟨Nat.le_of_ble_eq_true rfl, Nat.le_of_ble_eq_true rfl⟩ hG hZ hP hD hS hA [0, 1] [2, 3] rfl rfl rfl rfl rfl hl.1 rfl (Nat.le_of_ble_eq_true rfl) d_law_2402 ⟨Nat.le_of_ble_eq_true rfl, Nat.le_of_ble_eq_true rfl⟩ (fun u0 H locs hP hD hS => ?_)
  have hP : va_P z.1 classes [(a1, .inr (18, [.ref a19, .ref a20, .int 0, .ref a21, .int 0, .ref a22, .int 0, .null, .int 0, .null, .long 0, .int 0, .null])), (a19, .inr (17, [.int 0, .ref a23, .ref a24, .int 0, .ref a25, .ref a26, .ref a27, .null, .null, .int 0, .ref a28, .ref a29, .ref a30, .int 0, .ref a31, .int 1]))] H := hP
  have hD : va_D A [(a1, .inr (18, [.ref a19, .ref a20, .int 0, .ref a21, .int 0, .ref a22, .int 0, .null, .int 0, .null, .long 0, .int 0, .null])), (a19, .inr (17, [.int 0, .ref a23, .ref a24, .int 0, .ref a25, .ref a26, .ref a27, .null, .null, .int 0, .ref a28, .ref a29, .ref a30, .int 0, .ref a31, .int 1]))] := hD
  refine W.eq (g2 := F0 m 2405 ls [.int 1]) rfl ?_
  refine lv_istore (lv' := [(6, .int 1), (0, .ref b), (1, .ref a0), (2, .ref a1), (3, .ref a2), (4, .ref a3), (5, .int 0)]) hx hb d_law_2405 hl (by decide) rfl (fun ls hl => ?_)
  refine lv_aload_n hx hb d_law_2407 rfl (lv_at hl 3 rfl) ?_
  refine lv_aload_n hx hb d_law_2408 rfl (lv_at hl 1 rfl) ?_
  refine lv_iload hx hb d_law_2409 (lv_at hl 6 rfl) ?_
  refine lv_iconst (v := 1) hx hb d_law_2411 (by decide +kernel) ?_
  refine lv_iadd hx hb d_law_2412 ?_
  refine nrm (x1 := 1) (by decide +kernel) ?_
  refine va_sld hx hb hX hbl hbA hS (hin4 (i := 1) rfl) d_law_2413 ?_
  refine nrm (x1 := xs 1) rfl ?_
  refine kV (As := [.int (xs 1)]) (rest := []) (wr := []) (c575_BModel_greatestDistrict l z a1 a19 a20 a21 a22 a23 a24 a25 a26 a27 a28 a29 a30 a31 (xs 1) h0 h1) hx hb hml hown hts w_2432 w_2429 w_2430 w_2431 w_12 md_ba1c1a ⟨Nat.le_of_ble_eq_true rfl, Nat.le_of_ble_eq_true rfl⟩ hG hZ hP hD hS hA 0 rfl rfl rfl [0, 1] [] rfl rfl rfl rfl rfl hl.1 rfl (Nat.le_of_ble_eq_true rfl) d_law_2414 ⟨Nat.le_of_ble_eq_true rfl, Nat.le_of_ble_eq_true rfl⟩ (fun u1 H locs hP hD hS => ?_)
  have hP : va_P z.1 classes [(a1, .inr (18, [.ref a19, .ref a20, .int 0, .ref a21, .int 0, .ref a22, .int 1, .null, .int 0, .null, .long 0, .int 0, .null])), (a19, .inr (17, [.int 0, .ref a23, .ref a24, .int 0, .ref a25, .ref a26, .ref a27, .null, .null, .int 0, .ref a28, .ref a29, .ref a30, .int 0, .ref a31, .int 1]))] H := hP
  have hD : va_D A [(a1, .inr (18, [.ref a19, .ref a20, .int 0, .ref a21, .int 0, .ref a22, .int 1, .null, .int 0, .null, .long 0, .int 0, .null])), (a19, .inr (17, [.int 0, .ref a23, .ref a24, .int 0, .ref a25, .ref a26, .ref a27, .null, .null, .int 0, .ref a28, .ref a29, .ref a30, .int 0, .ref a31, .int 1]))] := hD
  refine W.eq (g2 := F0 m 2417 ls [.int 0]) rfl ?_
  refine lv_istore (lv' := [(7, .int 0), (6, .int 1), (0, .ref b), (1, .ref a0), (2, .ref a1), (3, .ref a2), (4, .ref a3), (5, .int 0)]) hx hb d_law_2417 hl (by decide) rfl (fun ls hl => ?_)
  refine lv_aload_n hx hb d_law_2419 rfl (lv_at hl 4 rfl) ?_
  refine kV (As := []) (rest := []) (wr := [(a19, .inr (17, [.int 0, .ref a23, .ref a24, .int 0, .ref a25, .ref a26, .ref a27, .null, .null, .int 0, .ref a28, .ref a29, .ref a30, .int 0, .ref a31, .int 1]))]) (c33_BModel_thrown l z a1 a19 a20 a21 a22) hx hb hml hown hts w_1688 w_1685 w_1686 w_1687 w_12 md_c48e0f ⟨Nat.le_of_ble_eq_true rfl, Nat.le_of_ble_eq_true rfl⟩ hG hZ hP hD hS hA 0 rfl rfl rfl [0] [1] rfl rfl rfl rfl rfl hl.1 rfl (Nat.le_of_ble_eq_true rfl) d_law_2420 ⟨Nat.le_of_ble_eq_true rfl, Nat.le_of_ble_eq_true rfl⟩ (fun u2 H locs hP hD hS => ?_)
  have hP : va_P z.1 classes [(a19, .inr (17, [.int 0, .ref a23, .ref a24, .int 0, .ref a25, .ref a26, .ref a27, .null, .null, .int 0, .ref a28, .ref a29, .ref a30, .int 0, .ref a31, .int 1])), (a1, .inr (18, [.ref a19, .ref a20, .int 0, .ref a21, .int 0, .ref a22, .int 1, .null, .int 0, .null, .long 0, .int 0, .null]))] H := hP
  have hD : va_D A [(a19, .inr (17, [.int 0, .ref a23, .ref a24, .int 0, .ref a25, .ref a26, .ref a27, .null, .null, .int 0, .ref a28, .ref a29, .ref a30, .int 0, .ref a31, .int 1])), (a1, .inr (18, [.ref a19, .ref a20, .int 0, .ref a21, .int 0, .ref a22, .int 1, .null, .int 0, .null, .long 0, .int 0, .null]))] := hD
  refine W.eq (g2 := F0 m 2423 ls [.int 1]) rfl ?_
  refine lv_iload hx hb d_law_2423 (lv_at hl 1 rfl) ?_
  refine lv_icmp_eq (tgt := 2430) hx hb d_law_2425 (by decide) (fun _ => ?_) (fun c9 => absurd (by decide +kernel) c9)
  refine lv_iload hx hb d_law_2430 (lv_at hl 1 rfl) ?_
  refine lv_if_ne (tgt := 2447) hx hb d_law_2432 (by decide) (fun _ => ?_) (fun c9 => absurd c9 (by decide +kernel))
  refine lv_goto (tgt := 3072) hx hb d_law_2447 (by decide) ?_
  refine W.widen (k := 600002) (n := 7302232) (Nat.le_of_ble_eq_true rfl) (Nat.le_of_ble_eq_true rfl) ?_
  exact ht H locs ls hS (lv_sub hl [2, 7] rfl)
set_option maxRecDepth 100000 in
set_option maxHeartbeats 4000000 in
theorem L41_0 (l : Launch) (hl0 : l.stackTraces = false) (z : Zz) {p : Program} {e : Env} {s : State} {m : MethodId} {below : List Frame} {meth : Method} {c : Code} {A : Nat → Prop} {b : Nat} {xs : Nat → Int32} {Q : State → Prop} (hx : p.tables.exec = Jvm.exec) (hb : c.code = code) (hml : c.maxLocals = 9) (hts : ∀ w ∈ WG, w.before #[Value.ref b] s = true) (hown : s.vm.findClass "BallothallLaw" = some m.cls) (hA : ∀ q, s.heap.size ≤ q → A q) (hG : KG z s) (hZ : XZ A s) (hX : va_X b 4 xs s s.heap) (hbl : b < s.heap.size) (hbA : ¬ A b) (ht : ∀ (H : Heap) (locs : List Loc) (ls : Array Slot), va_S A s.heap H locs → lv_has ls 9 [(0, .ref b), (5, .int 0)] → W p l e room_1 s m #[Value.ref b] below meth c H locs 600002 7302232 Q (F0 m 3072 ls [])) (a0 : Nat) (a1 : Nat) (a2 : Nat) (a3 : Nat) (a4 : Nat) (a5 : Nat) (a6 : Nat) (a7 : Nat) (a8 : Nat) (a9 : Nat) (a10 : Nat) (a11 : Nat) (a12 : Nat) (a13 : Nat) (a14 : Nat) (a15 : Nat) (a16 : Nat) (a17 : Nat) (a18 : Nat) (a19 : Nat) (a20 : Nat) (a21 : Nat) (a22 : Nat) (a23 : Nat) (a24 : Nat) (a25 : Nat) (a26 : Nat) (a27 : Nat) (a28 : Nat) (a29 : Nat) (a30 : Nat) (a31 : Nat) (h0 : (xs 1) < 1) (H : Heap) (locs : List Loc) (ls : Array Slot) (hP : va_P z.1 classes [(a0, .inr (11, [.ref a4, .ref a5, .ref a6, .ref a7, .ref a8, .ref a9, .ref a10, .ref a11, .ref a12, .ref a13, .int 0, .int 0, .ref a14, .int 0])), (a9, .inr (10, [.int 0, .ref a15, .ref a16, .ref a17, .ref a18])), (a1, .inr (18, [.ref a19, .ref a20, .int 0, .ref a21, .int 0, .ref a22, .int 0, .null, .int 0, .null, .long 0, .int 0, .null])), (a19, .inr (17, [.int 0, .ref a23, .ref a24, .int 0, .ref a25, .ref a26, .ref a27, .null, .null, .int 0, .ref a28, .ref a29, .ref a30, .int 0, .ref a31, .int 1]))] H) (hD : va_D A [(a0, .inr (11, [.ref a4, .ref a5, .ref a6, .ref a7, .ref a8, .ref a9, .ref a10, .ref a11, .ref a12, .ref a13, .int 0, .int 0, .ref a14, .int 0])), (a9, .inr (10, [.int 0, .ref a15, .ref a16, .ref a17, .ref a18])), (a1, .inr (18, [.ref a19, .ref a20, .int 0, .ref a21, .int 0, .ref a22, .int 0, .null, .int 0, .null, .long 0, .int 0, .null])), (a19, .inr (17, [.int 0, .ref a23, .ref a24, .int 0, .ref a25, .ref a26, .ref a27, .null, .null, .int 0, .ref a28, .ref a29, .ref a30, .int 0, .ref a31, .int 1]))]) (hS : va_S A s.heap H locs) (hl : lv_has ls 9 [(0, .ref b), (1, .ref a0), (2, .ref a1), (3, .ref a2), (4, .ref a3), (5, .int 0)]) : W p l e room_1 s m #[Value.ref b] below meth c H locs 265 8866 Q (F0 m 44 ls [.int 41]) := by
  refine lv_tableIn (tgt := 2450) hx hb d_law_44 (by decide +kernel) (by decide +kernel) rfl (by decide) ?_
  refine lv_aload_n hx hb d_law_2450 rfl (lv_at hl 1 rfl) ?_
  refine lv_aload_n hx hb d_law_2451 rfl (lv_at hl 0 rfl) ?_
  refine lv_iload hx hb d_law_2452 (lv_at hl 5 rfl) ?_
  refine lv_iconst (v := 1) hx hb d_law_2454 (by decide +kernel) ?_
  refine lv_iadd hx hb d_law_2455 ?_
  refine nrm (x1 := 1) (by decide +kernel) ?_
  refine va_sld hx hb hX hbl hbA hS (hin4 (i := 1) rfl) d_law_2456 ?_
  refine nrm (x1 := xs 1) rfl ?_
  refine lv_aload_n hx hb d_law_2457 rfl (lv_at hl 0 rfl) ?_
  refine lv_iload hx hb d_law_2458 (lv_at hl 5 rfl) ?_
  refine lv_iconst (v := 2) hx hb d_law_2460 (by decide +kernel) ?_
  refine lv_iadd hx hb d_law_2461 ?_
  refine nrm (x1 := 2) (by decide +kernel) ?_
  refine va_sld hx hb hX hbl hbA hS (hin4 (i := 2) rfl) d_law_2462 ?_
  refine nrm (x1 := xs 2) rfl ?_
  refine lv_aload_n hx hb d_law_2463 rfl (lv_at hl 3 rfl) ?_
  refine kH (As := [.ref a0, .int (xs 1), .int (xs 2), .ref a2]) (rest := []) (wr := [(a1, .inr (18, [.ref a19, .ref a20, .int 0, .ref a21, .int 0, .ref a22, .int 0, .null, .int 0, .null, .long 0, .int 0, .null])), (a19, .inr (17, [.int 0, .ref a23, .ref a24, .int 0, .ref a25, .ref a26, .ref a27, .null, .null, .int 0, .ref a28, .ref a29, .ref a30, .int 0, .ref a31, .int 1]))]) (c577_BLaw_districtEnd l z hl0 a0 a2 a4 a5 a6 a7 a8 a9 a10 a11 a12 a13 a14 a15 a16 a17 a18 (xs 1) (xs 2) h0) hx hb hml hown hts w_1490 w_1488 w_1489 w_0 md_689e1a ⟨Nat.le_of_ble_eq_true rfl, Nat.le_of_ble_eq_true rfl⟩ hG hZ hP hD hS hA [0, 1] [2, 3] rfl rfl rfl rfl rfl hl.1 rfl (Nat.le_of_ble_eq_true rfl) d_law_2464 ⟨Nat.le_of_ble_eq_true rfl, Nat.le_of_ble_eq_true rfl⟩ (fun u0 H locs hP hD hS => ?_)
  have hP : va_P z.1 classes [(a1, .inr (18, [.ref a19, .ref a20, .int 0, .ref a21, .int 0, .ref a22, .int 0, .null, .int 0, .null, .long 0, .int 0, .null])), (a19, .inr (17, [.int 0, .ref a23, .ref a24, .int 0, .ref a25, .ref a26, .ref a27, .null, .null, .int 0, .ref a28, .ref a29, .ref a30, .int 0, .ref a31, .int 1]))] H := hP
  have hD : va_D A [(a1, .inr (18, [.ref a19, .ref a20, .int 0, .ref a21, .int 0, .ref a22, .int 0, .null, .int 0, .null, .long 0, .int 0, .null])), (a19, .inr (17, [.int 0, .ref a23, .ref a24, .int 0, .ref a25, .ref a26, .ref a27, .null, .null, .int 0, .ref a28, .ref a29, .ref a30, .int 0, .ref a31, .int 1]))] := hD
  refine W.eq (g2 := F0 m 2467 ls [.int 1]) rfl ?_
  refine lv_istore (lv' := [(6, .int 1), (0, .ref b), (1, .ref a0), (2, .ref a1), (3, .ref a2), (4, .ref a3), (5, .int 0)]) hx hb d_law_2467 hl (by decide) rfl (fun ls hl => ?_)
  refine lv_aload_n hx hb d_law_2469 rfl (lv_at hl 3 rfl) ?_
  refine lv_aload_n hx hb d_law_2470 rfl (lv_at hl 1 rfl) ?_
  refine lv_iload hx hb d_law_2471 (lv_at hl 6 rfl) ?_
  refine lv_iconst (v := 1) hx hb d_law_2473 (by decide +kernel) ?_
  refine lv_iadd hx hb d_law_2474 ?_
  refine nrm (x1 := 1) (by decide +kernel) ?_
  refine va_sld hx hb hX hbl hbA hS (hin4 (i := 1) rfl) d_law_2475 ?_
  refine nrm (x1 := xs 1) rfl ?_
  refine lv_aload_n hx hb d_law_2476 rfl (lv_at hl 1 rfl) ?_
  refine lv_iload hx hb d_law_2477 (lv_at hl 6 rfl) ?_
  refine lv_iconst (v := 2) hx hb d_law_2479 (by decide +kernel) ?_
  refine lv_iadd hx hb d_law_2480 ?_
  refine nrm (x1 := 2) (by decide +kernel) ?_
  refine va_sld hx hb hX hbl hbA hS (hin4 (i := 2) rfl) d_law_2481 ?_
  refine nrm (x1 := xs 2) rfl ?_
  refine kV (As := [.int (xs 1), .int (xs 2)]) (rest := []) (wr := []) (c578_BModel_districtEnd l z a1 a19 a20 a21 a22 a23 a24 a25 a26 a27 a28 a29 a30 a31 (xs 1) (xs 2) h0) hx hb hml hown hts w_2445 w_2442 w_2443 w_2444 w_12 md_d5ba24 ⟨Nat.le_of_ble_eq_true rfl, Nat.le_of_ble_eq_true rfl⟩ hG hZ hP hD hS hA 0 rfl rfl rfl [0, 1] [] rfl rfl rfl rfl rfl hl.1 rfl (Nat.le_of_ble_eq_true rfl) d_law_2482 ⟨Nat.le_of_ble_eq_true rfl, Nat.le_of_ble_eq_true rfl⟩ (fun u1 H locs hP hD hS => ?_)
  have hP : va_P z.1 classes [(a1, .inr (18, [.ref a19, .ref a20, .int 0, .ref a21, .int 0, .ref a22, .int 1, .null, .int 0, .null, .long 0, .int 0, .null])), (a19, .inr (17, [.int 0, .ref a23, .ref a24, .int 0, .ref a25, .ref a26, .ref a27, .null, .null, .int 0, .ref a28, .ref a29, .ref a30, .int 0, .ref a31, .int 1]))] H := hP
  have hD : va_D A [(a1, .inr (18, [.ref a19, .ref a20, .int 0, .ref a21, .int 0, .ref a22, .int 1, .null, .int 0, .null, .long 0, .int 0, .null])), (a19, .inr (17, [.int 0, .ref a23, .ref a24, .int 0, .ref a25, .ref a26, .ref a27, .null, .null, .int 0, .ref a28, .ref a29, .ref a30, .int 0, .ref a31, .int 1]))] := hD
  refine W.eq (g2 := F0 m 2485 ls [.int 0]) rfl ?_
  refine lv_istore (lv' := [(7, .int 0), (6, .int 1), (0, .ref b), (1, .ref a0), (2, .ref a1), (3, .ref a2), (4, .ref a3), (5, .int 0)]) hx hb d_law_2485 hl (by decide) rfl (fun ls hl => ?_)
  refine lv_aload_n hx hb d_law_2487 rfl (lv_at hl 4 rfl) ?_
  refine kV (As := []) (rest := []) (wr := [(a19, .inr (17, [.int 0, .ref a23, .ref a24, .int 0, .ref a25, .ref a26, .ref a27, .null, .null, .int 0, .ref a28, .ref a29, .ref a30, .int 0, .ref a31, .int 1]))]) (c33_BModel_thrown l z a1 a19 a20 a21 a22) hx hb hml hown hts w_1688 w_1685 w_1686 w_1687 w_12 md_c48e0f ⟨Nat.le_of_ble_eq_true rfl, Nat.le_of_ble_eq_true rfl⟩ hG hZ hP hD hS hA 0 rfl rfl rfl [0] [1] rfl rfl rfl rfl rfl hl.1 rfl (Nat.le_of_ble_eq_true rfl) d_law_2488 ⟨Nat.le_of_ble_eq_true rfl, Nat.le_of_ble_eq_true rfl⟩ (fun u2 H locs hP hD hS => ?_)
  have hP : va_P z.1 classes [(a19, .inr (17, [.int 0, .ref a23, .ref a24, .int 0, .ref a25, .ref a26, .ref a27, .null, .null, .int 0, .ref a28, .ref a29, .ref a30, .int 0, .ref a31, .int 1])), (a1, .inr (18, [.ref a19, .ref a20, .int 0, .ref a21, .int 0, .ref a22, .int 1, .null, .int 0, .null, .long 0, .int 0, .null]))] H := hP
  have hD : va_D A [(a19, .inr (17, [.int 0, .ref a23, .ref a24, .int 0, .ref a25, .ref a26, .ref a27, .null, .null, .int 0, .ref a28, .ref a29, .ref a30, .int 0, .ref a31, .int 1])), (a1, .inr (18, [.ref a19, .ref a20, .int 0, .ref a21, .int 0, .ref a22, .int 1, .null, .int 0, .null, .long 0, .int 0, .null]))] := hD
  refine W.eq (g2 := F0 m 2491 ls [.int 1]) rfl ?_
  refine lv_iload hx hb d_law_2491 (lv_at hl 1 rfl) ?_
  refine lv_icmp_eq (tgt := 2498) hx hb d_law_2493 (by decide) (fun _ => ?_) (fun c9 => absurd (by decide +kernel) c9)
  refine lv_iload hx hb d_law_2498 (lv_at hl 1 rfl) ?_
  refine lv_if_ne (tgt := 2515) hx hb d_law_2500 (by decide) (fun _ => ?_) (fun c9 => absurd c9 (by decide +kernel))
  refine lv_goto (tgt := 3072) hx hb d_law_2515 (by decide) ?_
  refine W.widen (k := 600002) (n := 7302232) (Nat.le_of_ble_eq_true rfl) (Nat.le_of_ble_eq_true rfl) ?_
  exact ht H locs ls hS (lv_sub hl [2, 7] rfl)
set_option maxRecDepth 100000 in
set_option maxHeartbeats 4000000 in
theorem L41_1 (l : Launch) (hl0 : l.stackTraces = false) (z : Zz) {p : Program} {e : Env} {s : State} {m : MethodId} {below : List Frame} {meth : Method} {c : Code} {A : Nat → Prop} {b : Nat} {xs : Nat → Int32} {Q : State → Prop} (hx : p.tables.exec = Jvm.exec) (hb : c.code = code) (hml : c.maxLocals = 9) (hts : ∀ w ∈ WG, w.before #[Value.ref b] s = true) (hown : s.vm.findClass "BallothallLaw" = some m.cls) (hA : ∀ q, s.heap.size ≤ q → A q) (hG : KG z s) (hZ : XZ A s) (hX : va_X b 4 xs s s.heap) (hbl : b < s.heap.size) (hbA : ¬ A b) (ht : ∀ (H : Heap) (locs : List Loc) (ls : Array Slot), va_S A s.heap H locs → lv_has ls 9 [(0, .ref b), (5, .int 0)] → W p l e room_1 s m #[Value.ref b] below meth c H locs 600002 7302232 Q (F0 m 3072 ls [])) (a0 : Nat) (a1 : Nat) (a2 : Nat) (a3 : Nat) (a4 : Nat) (a5 : Nat) (a6 : Nat) (a7 : Nat) (a8 : Nat) (a9 : Nat) (a10 : Nat) (a11 : Nat) (a12 : Nat) (a13 : Nat) (a14 : Nat) (a15 : Nat) (a16 : Nat) (a17 : Nat) (a18 : Nat) (a19 : Nat) (a20 : Nat) (a21 : Nat) (a22 : Nat) (a23 : Nat) (a24 : Nat) (a25 : Nat) (a26 : Nat) (a27 : Nat) (a28 : Nat) (a29 : Nat) (a30 : Nat) (a31 : Nat) (h0 : ¬ (xs 1) < 1) (h1 : 0 < (xs 1)) (H : Heap) (locs : List Loc) (ls : Array Slot) (hP : va_P z.1 classes [(a0, .inr (11, [.ref a4, .ref a5, .ref a6, .ref a7, .ref a8, .ref a9, .ref a10, .ref a11, .ref a12, .ref a13, .int 0, .int 0, .ref a14, .int 0])), (a9, .inr (10, [.int 0, .ref a15, .ref a16, .ref a17, .ref a18])), (a1, .inr (18, [.ref a19, .ref a20, .int 0, .ref a21, .int 0, .ref a22, .int 0, .null, .int 0, .null, .long 0, .int 0, .null])), (a19, .inr (17, [.int 0, .ref a23, .ref a24, .int 0, .ref a25, .ref a26, .ref a27, .null, .null, .int 0, .ref a28, .ref a29, .ref a30, .int 0, .ref a31, .int 1]))] H) (hD : va_D A [(a0, .inr (11, [.ref a4, .ref a5, .ref a6, .ref a7, .ref a8, .ref a9, .ref a10, .ref a11, .ref a12, .ref a13, .int 0, .int 0, .ref a14, .int 0])), (a9, .inr (10, [.int 0, .ref a15, .ref a16, .ref a17, .ref a18])), (a1, .inr (18, [.ref a19, .ref a20, .int 0, .ref a21, .int 0, .ref a22, .int 0, .null, .int 0, .null, .long 0, .int 0, .null])), (a19, .inr (17, [.int 0, .ref a23, .ref a24, .int 0, .ref a25, .ref a26, .ref a27, .null, .null, .int 0, .ref a28, .ref a29, .ref a30, .int 0, .ref a31, .int 1]))]) (hS : va_S A s.heap H locs) (hl : lv_has ls 9 [(0, .ref b), (1, .ref a0), (2, .ref a1), (3, .ref a2), (4, .ref a3), (5, .int 0)]) : W p l e room_1 s m #[Value.ref b] below meth c H locs 265 8866 Q (F0 m 44 ls [.int 41]) := by
  refine lv_tableIn (tgt := 2450) hx hb d_law_44 (by decide +kernel) (by decide +kernel) rfl (by decide) ?_
  refine lv_aload_n hx hb d_law_2450 rfl (lv_at hl 1 rfl) ?_
  refine lv_aload_n hx hb d_law_2451 rfl (lv_at hl 0 rfl) ?_
  refine lv_iload hx hb d_law_2452 (lv_at hl 5 rfl) ?_
  refine lv_iconst (v := 1) hx hb d_law_2454 (by decide +kernel) ?_
  refine lv_iadd hx hb d_law_2455 ?_
  refine nrm (x1 := 1) (by decide +kernel) ?_
  refine va_sld hx hb hX hbl hbA hS (hin4 (i := 1) rfl) d_law_2456 ?_
  refine nrm (x1 := xs 1) rfl ?_
  refine lv_aload_n hx hb d_law_2457 rfl (lv_at hl 0 rfl) ?_
  refine lv_iload hx hb d_law_2458 (lv_at hl 5 rfl) ?_
  refine lv_iconst (v := 2) hx hb d_law_2460 (by decide +kernel) ?_
  refine lv_iadd hx hb d_law_2461 ?_
  refine nrm (x1 := 2) (by decide +kernel) ?_
  refine va_sld hx hb hX hbl hbA hS (hin4 (i := 2) rfl) d_law_2462 ?_
  refine nrm (x1 := xs 2) rfl ?_
  refine lv_aload_n hx hb d_law_2463 rfl (lv_at hl 3 rfl) ?_
  refine kH (As := [.ref a0, .int (xs 1), .int (xs 2), .ref a2]) (rest := []) (wr := [(a1, .inr (18, [.ref a19, .ref a20, .int 0, .ref a21, .int 0, .ref a22, .int 0, .null, .int 0, .null, .long 0, .int 0, .null])), (a19, .inr (17, [.int 0, .ref a23, .ref a24, .int 0, .ref a25, .ref a26, .ref a27, .null, .null, .int 0, .ref a28, .ref a29, .ref a30, .int 0, .ref a31, .int 1]))]) (c580_BLaw_districtEnd l z hl0 a0 a2 a4 a5 a6 a7 a8 a9 a10 a11 a12 a13 a14 a15 a16 a17 a18 (xs 1) (xs 2) h0 h1) hx hb hml hown hts w_1490 w_1488 w_1489 w_0 md_689e1a ⟨Nat.le_of_ble_eq_true rfl, Nat.le_of_ble_eq_true rfl⟩ hG hZ hP hD hS hA [0, 1] [2, 3] rfl rfl rfl rfl rfl hl.1 rfl (Nat.le_of_ble_eq_true rfl) d_law_2464 ⟨Nat.le_of_ble_eq_true rfl, Nat.le_of_ble_eq_true rfl⟩ (fun u0 H locs hP hD hS => ?_)
  have hP : va_P z.1 classes [(a1, .inr (18, [.ref a19, .ref a20, .int 0, .ref a21, .int 0, .ref a22, .int 0, .null, .int 0, .null, .long 0, .int 0, .null])), (a19, .inr (17, [.int 0, .ref a23, .ref a24, .int 0, .ref a25, .ref a26, .ref a27, .null, .null, .int 0, .ref a28, .ref a29, .ref a30, .int 0, .ref a31, .int 1]))] H := hP
  have hD : va_D A [(a1, .inr (18, [.ref a19, .ref a20, .int 0, .ref a21, .int 0, .ref a22, .int 0, .null, .int 0, .null, .long 0, .int 0, .null])), (a19, .inr (17, [.int 0, .ref a23, .ref a24, .int 0, .ref a25, .ref a26, .ref a27, .null, .null, .int 0, .ref a28, .ref a29, .ref a30, .int 0, .ref a31, .int 1]))] := hD
  refine W.eq (g2 := F0 m 2467 ls [.int 1]) rfl ?_
  refine lv_istore (lv' := [(6, .int 1), (0, .ref b), (1, .ref a0), (2, .ref a1), (3, .ref a2), (4, .ref a3), (5, .int 0)]) hx hb d_law_2467 hl (by decide) rfl (fun ls hl => ?_)
  refine lv_aload_n hx hb d_law_2469 rfl (lv_at hl 3 rfl) ?_
  refine lv_aload_n hx hb d_law_2470 rfl (lv_at hl 1 rfl) ?_
  refine lv_iload hx hb d_law_2471 (lv_at hl 6 rfl) ?_
  refine lv_iconst (v := 1) hx hb d_law_2473 (by decide +kernel) ?_
  refine lv_iadd hx hb d_law_2474 ?_
  refine nrm (x1 := 1) (by decide +kernel) ?_
  refine va_sld hx hb hX hbl hbA hS (hin4 (i := 1) rfl) d_law_2475 ?_
  refine nrm (x1 := xs 1) rfl ?_
  refine lv_aload_n hx hb d_law_2476 rfl (lv_at hl 1 rfl) ?_
  refine lv_iload hx hb d_law_2477 (lv_at hl 6 rfl) ?_
  refine lv_iconst (v := 2) hx hb d_law_2479 (by decide +kernel) ?_
  refine lv_iadd hx hb d_law_2480 ?_
  refine nrm (x1 := 2) (by decide +kernel) ?_
  refine va_sld hx hb hX hbl hbA hS (hin4 (i := 2) rfl) d_law_2481 ?_
  refine nrm (x1 := xs 2) rfl ?_
  refine kV (As := [.int (xs 1), .int (xs 2)]) (rest := []) (wr := []) (c581_BModel_districtEnd l z a1 a19 a20 a21 a22 a23 a24 a25 a26 a27 a28 a29 a30 a31 (xs 1) (xs 2) h0 h1) hx hb hml hown hts w_2445 w_2442 w_2443 w_2444 w_12 md_d5ba24 ⟨Nat.le_of_ble_eq_true rfl, Nat.le_of_ble_eq_true rfl⟩ hG hZ hP hD hS hA 0 rfl rfl rfl [0, 1] [] rfl rfl rfl rfl rfl hl.1 rfl (Nat.le_of_ble_eq_true rfl) d_law_2482 ⟨Nat.le_of_ble_eq_true rfl, Nat.le_of_ble_eq_true rfl⟩ (fun u1 H locs hP hD hS => ?_)
  have hP : va_P z.1 classes [(a1, .inr (18, [.ref a19, .ref a20, .int 0, .ref a21, .int 0, .ref a22, .int 1, .null, .int 0, .null, .long 0, .int 0, .null])), (a19, .inr (17, [.int 0, .ref a23, .ref a24, .int 0, .ref a25, .ref a26, .ref a27, .null, .null, .int 0, .ref a28, .ref a29, .ref a30, .int 0, .ref a31, .int 1]))] H := hP
  have hD : va_D A [(a1, .inr (18, [.ref a19, .ref a20, .int 0, .ref a21, .int 0, .ref a22, .int 1, .null, .int 0, .null, .long 0, .int 0, .null])), (a19, .inr (17, [.int 0, .ref a23, .ref a24, .int 0, .ref a25, .ref a26, .ref a27, .null, .null, .int 0, .ref a28, .ref a29, .ref a30, .int 0, .ref a31, .int 1]))] := hD
  refine W.eq (g2 := F0 m 2485 ls [.int 0]) rfl ?_
  refine lv_istore (lv' := [(7, .int 0), (6, .int 1), (0, .ref b), (1, .ref a0), (2, .ref a1), (3, .ref a2), (4, .ref a3), (5, .int 0)]) hx hb d_law_2485 hl (by decide) rfl (fun ls hl => ?_)
  refine lv_aload_n hx hb d_law_2487 rfl (lv_at hl 4 rfl) ?_
  refine kV (As := []) (rest := []) (wr := [(a19, .inr (17, [.int 0, .ref a23, .ref a24, .int 0, .ref a25, .ref a26, .ref a27, .null, .null, .int 0, .ref a28, .ref a29, .ref a30, .int 0, .ref a31, .int 1]))]) (c33_BModel_thrown l z a1 a19 a20 a21 a22) hx hb hml hown hts w_1688 w_1685 w_1686 w_1687 w_12 md_c48e0f ⟨Nat.le_of_ble_eq_true rfl, Nat.le_of_ble_eq_true rfl⟩ hG hZ hP hD hS hA 0 rfl rfl rfl [0] [1] rfl rfl rfl rfl rfl hl.1 rfl (Nat.le_of_ble_eq_true rfl) d_law_2488 ⟨Nat.le_of_ble_eq_true rfl, Nat.le_of_ble_eq_true rfl⟩ (fun u2 H locs hP hD hS => ?_)
  have hP : va_P z.1 classes [(a19, .inr (17, [.int 0, .ref a23, .ref a24, .int 0, .ref a25, .ref a26, .ref a27, .null, .null, .int 0, .ref a28, .ref a29, .ref a30, .int 0, .ref a31, .int 1])), (a1, .inr (18, [.ref a19, .ref a20, .int 0, .ref a21, .int 0, .ref a22, .int 1, .null, .int 0, .null, .long 0, .int 0, .null]))] H := hP
  have hD : va_D A [(a19, .inr (17, [.int 0, .ref a23, .ref a24, .int 0, .ref a25, .ref a26, .ref a27, .null, .null, .int 0, .ref a28, .ref a29, .ref a30, .int 0, .ref a31, .int 1])), (a1, .inr (18, [.ref a19, .ref a20, .int 0, .ref a21, .int 0, .ref a22, .int 1, .null, .int 0, .null, .long 0, .int 0, .null]))] := hD
  refine W.eq (g2 := F0 m 2491 ls [.int 1]) rfl ?_
  refine lv_iload hx hb d_law_2491 (lv_at hl 1 rfl) ?_
  refine lv_icmp_eq (tgt := 2498) hx hb d_law_2493 (by decide) (fun _ => ?_) (fun c9 => absurd (by decide +kernel) c9)
  refine lv_iload hx hb d_law_2498 (lv_at hl 1 rfl) ?_
  refine lv_if_ne (tgt := 2515) hx hb d_law_2500 (by decide) (fun _ => ?_) (fun c9 => absurd c9 (by decide +kernel))
  refine lv_goto (tgt := 3072) hx hb d_law_2515 (by decide) ?_
  refine W.widen (k := 600002) (n := 7302232) (Nat.le_of_ble_eq_true rfl) (Nat.le_of_ble_eq_true rfl) ?_
  exact ht H locs ls hS (lv_sub hl [2, 7] rfl)
set_option maxRecDepth 100000 in
set_option maxHeartbeats 4000000 in
theorem L42_0 (l : Launch) (hl0 : l.stackTraces = false) (z : Zz) {p : Program} {e : Env} {s : State} {m : MethodId} {below : List Frame} {meth : Method} {c : Code} {A : Nat → Prop} {b : Nat} {xs : Nat → Int32} {Q : State → Prop} (hx : p.tables.exec = Jvm.exec) (hb : c.code = code) (hml : c.maxLocals = 9) (hts : ∀ w ∈ WG, w.before #[Value.ref b] s = true) (hown : s.vm.findClass "BallothallLaw" = some m.cls) (hA : ∀ q, s.heap.size ≤ q → A q) (hG : KG z s) (hZ : XZ A s) (hX : va_X b 4 xs s s.heap) (hbl : b < s.heap.size) (hbA : ¬ A b) (ht : ∀ (H : Heap) (locs : List Loc) (ls : Array Slot), va_S A s.heap H locs → lv_has ls 9 [(0, .ref b), (5, .int 0)] → W p l e room_1 s m #[Value.ref b] below meth c H locs 600002 7302232 Q (F0 m 3072 ls [])) (a0 : Nat) (a1 : Nat) (a2 : Nat) (a3 : Nat) (a4 : Nat) (a5 : Nat) (a6 : Nat) (a7 : Nat) (a8 : Nat) (a9 : Nat) (a10 : Nat) (a11 : Nat) (a12 : Nat) (a13 : Nat) (a14 : Nat) (a15 : Nat) (a16 : Nat) (a17 : Nat) (a18 : Nat) (a19 : Nat) (a20 : Nat) (a21 : Nat) (a22 : Nat) (a23 : Nat) (a24 : Nat) (a25 : Nat) (a26 : Nat) (a27 : Nat) (a28 : Nat) (a29 : Nat) (a30 : Nat) (a31 : Nat) (h0 : (xs 1) < 1) (H : Heap) (locs : List Loc) (ls : Array Slot) (hP : va_P z.1 classes [(a0, .inr (11, [.ref a4, .ref a5, .ref a6, .ref a7, .ref a8, .ref a9, .ref a10, .ref a11, .ref a12, .ref a13, .int 0, .int 0, .ref a14, .int 0])), (a9, .inr (10, [.int 0, .ref a15, .ref a16, .ref a17, .ref a18])), (a1, .inr (18, [.ref a19, .ref a20, .int 0, .ref a21, .int 0, .ref a22, .int 0, .null, .int 0, .null, .long 0, .int 0, .null])), (a19, .inr (17, [.int 0, .ref a23, .ref a24, .int 0, .ref a25, .ref a26, .ref a27, .null, .null, .int 0, .ref a28, .ref a29, .ref a30, .int 0, .ref a31, .int 1]))] H) (hD : va_D A [(a0, .inr (11, [.ref a4, .ref a5, .ref a6, .ref a7, .ref a8, .ref a9, .ref a10, .ref a11, .ref a12, .ref a13, .int 0, .int 0, .ref a14, .int 0])), (a9, .inr (10, [.int 0, .ref a15, .ref a16, .ref a17, .ref a18])), (a1, .inr (18, [.ref a19, .ref a20, .int 0, .ref a21, .int 0, .ref a22, .int 0, .null, .int 0, .null, .long 0, .int 0, .null])), (a19, .inr (17, [.int 0, .ref a23, .ref a24, .int 0, .ref a25, .ref a26, .ref a27, .null, .null, .int 0, .ref a28, .ref a29, .ref a30, .int 0, .ref a31, .int 1]))]) (hS : va_S A s.heap H locs) (hl : lv_has ls 9 [(0, .ref b), (1, .ref a0), (2, .ref a1), (3, .ref a2), (4, .ref a3), (5, .int 0)]) : W p l e room_1 s m #[Value.ref b] below meth c H locs 265 8866 Q (F0 m 44 ls [.int 42]) := by
  refine lv_tableIn (tgt := 2518) hx hb d_law_44 (by decide +kernel) (by decide +kernel) rfl (by decide) ?_
  refine lv_aload_n hx hb d_law_2518 rfl (lv_at hl 1 rfl) ?_
  refine lv_aload_n hx hb d_law_2519 rfl (lv_at hl 0 rfl) ?_
  refine lv_iload hx hb d_law_2520 (lv_at hl 5 rfl) ?_
  refine lv_iconst (v := 1) hx hb d_law_2522 (by decide +kernel) ?_
  refine lv_iadd hx hb d_law_2523 ?_
  refine nrm (x1 := 1) (by decide +kernel) ?_
  refine va_sld hx hb hX hbl hbA hS (hin4 (i := 1) rfl) d_law_2524 ?_
  refine nrm (x1 := xs 1) rfl ?_
  refine lv_aload_n hx hb d_law_2525 rfl (lv_at hl 0 rfl) ?_
  refine lv_iload hx hb d_law_2526 (lv_at hl 5 rfl) ?_
  refine lv_iconst (v := 2) hx hb d_law_2528 (by decide +kernel) ?_
  refine lv_iadd hx hb d_law_2529 ?_
  refine nrm (x1 := 2) (by decide +kernel) ?_
  refine va_sld hx hb hX hbl hbA hS (hin4 (i := 2) rfl) d_law_2530 ?_
  refine nrm (x1 := xs 2) rfl ?_
  refine lv_aload_n hx hb d_law_2531 rfl (lv_at hl 3 rfl) ?_
  refine kH (As := [.ref a0, .int (xs 1), .int (xs 2), .ref a2]) (rest := []) (wr := [(a1, .inr (18, [.ref a19, .ref a20, .int 0, .ref a21, .int 0, .ref a22, .int 0, .null, .int 0, .null, .long 0, .int 0, .null])), (a19, .inr (17, [.int 0, .ref a23, .ref a24, .int 0, .ref a25, .ref a26, .ref a27, .null, .null, .int 0, .ref a28, .ref a29, .ref a30, .int 0, .ref a31, .int 1]))]) (c583_BLaw_districtsWon l z hl0 a0 a2 a4 a5 a6 a7 a8 a9 a10 a11 a12 a13 a14 a15 a16 a17 a18 (xs 1) (xs 2) h0) hx hb hml hown hts w_1497 w_1495 w_1496 w_0 md_61ba19 ⟨Nat.le_of_ble_eq_true rfl, Nat.le_of_ble_eq_true rfl⟩ hG hZ hP hD hS hA [0, 1] [2, 3] rfl rfl rfl rfl rfl hl.1 rfl (Nat.le_of_ble_eq_true rfl) d_law_2532 ⟨Nat.le_of_ble_eq_true rfl, Nat.le_of_ble_eq_true rfl⟩ (fun u0 H locs hP hD hS => ?_)
  have hP : va_P z.1 classes [(a1, .inr (18, [.ref a19, .ref a20, .int 0, .ref a21, .int 0, .ref a22, .int 0, .null, .int 0, .null, .long 0, .int 0, .null])), (a19, .inr (17, [.int 0, .ref a23, .ref a24, .int 0, .ref a25, .ref a26, .ref a27, .null, .null, .int 0, .ref a28, .ref a29, .ref a30, .int 0, .ref a31, .int 1]))] H := hP
  have hD : va_D A [(a1, .inr (18, [.ref a19, .ref a20, .int 0, .ref a21, .int 0, .ref a22, .int 0, .null, .int 0, .null, .long 0, .int 0, .null])), (a19, .inr (17, [.int 0, .ref a23, .ref a24, .int 0, .ref a25, .ref a26, .ref a27, .null, .null, .int 0, .ref a28, .ref a29, .ref a30, .int 0, .ref a31, .int 1]))] := hD
  refine W.eq (g2 := F0 m 2535 ls [.int 1]) rfl ?_
  refine lv_istore (lv' := [(6, .int 1), (0, .ref b), (1, .ref a0), (2, .ref a1), (3, .ref a2), (4, .ref a3), (5, .int 0)]) hx hb d_law_2535 hl (by decide) rfl (fun ls hl => ?_)
  refine lv_aload_n hx hb d_law_2537 rfl (lv_at hl 3 rfl) ?_
  refine lv_aload_n hx hb d_law_2538 rfl (lv_at hl 1 rfl) ?_
  refine lv_iload hx hb d_law_2539 (lv_at hl 6 rfl) ?_
  refine lv_iconst (v := 1) hx hb d_law_2541 (by decide +kernel) ?_
  refine lv_iadd hx hb d_law_2542 ?_
  refine nrm (x1 := 1) (by decide +kernel) ?_
  refine va_sld hx hb hX hbl hbA hS (hin4 (i := 1) rfl) d_law_2543 ?_
  refine nrm (x1 := xs 1) rfl ?_
  refine lv_aload_n hx hb d_law_2544 rfl (lv_at hl 1 rfl) ?_
  refine lv_iload hx hb d_law_2545 (lv_at hl 6 rfl) ?_
  refine lv_iconst (v := 2) hx hb d_law_2547 (by decide +kernel) ?_
  refine lv_iadd hx hb d_law_2548 ?_
  refine nrm (x1 := 2) (by decide +kernel) ?_
  refine va_sld hx hb hX hbl hbA hS (hin4 (i := 2) rfl) d_law_2549 ?_
  refine nrm (x1 := xs 2) rfl ?_
  refine kV (As := [.int (xs 1), .int (xs 2)]) (rest := []) (wr := []) (c585_BModel_districtsWon l z a1 a19 a20 a21 a22 a23 a24 a25 a26 a27 a28 a29 a30 a31 (xs 1) (xs 2) h0) hx hb hml hown hts w_2453 w_2450 w_2451 w_2452 w_12 md_eba095 ⟨Nat.le_of_ble_eq_true rfl, Nat.le_of_ble_eq_true rfl⟩ hG hZ hP hD hS hA 0 rfl rfl rfl [0, 1] [] rfl rfl rfl rfl rfl hl.1 rfl (Nat.le_of_ble_eq_true rfl) d_law_2550 ⟨Nat.le_of_ble_eq_true rfl, Nat.le_of_ble_eq_true rfl⟩ (fun u1 H locs hP hD hS => ?_)
  have hP : va_P z.1 classes [(a1, .inr (18, [.ref a19, .ref a20, .int 0, .ref a21, .int 0, .ref a22, .int 1, .null, .int 0, .null, .long 0, .int 0, .null])), (a19, .inr (17, [.int 0, .ref a23, .ref a24, .int 0, .ref a25, .ref a26, .ref a27, .null, .null, .int 0, .ref a28, .ref a29, .ref a30, .int 0, .ref a31, .int 1]))] H := hP
  have hD : va_D A [(a1, .inr (18, [.ref a19, .ref a20, .int 0, .ref a21, .int 0, .ref a22, .int 1, .null, .int 0, .null, .long 0, .int 0, .null])), (a19, .inr (17, [.int 0, .ref a23, .ref a24, .int 0, .ref a25, .ref a26, .ref a27, .null, .null, .int 0, .ref a28, .ref a29, .ref a30, .int 0, .ref a31, .int 1]))] := hD
  refine W.eq (g2 := F0 m 2553 ls [.int 0]) rfl ?_
  refine lv_istore (lv' := [(7, .int 0), (6, .int 1), (0, .ref b), (1, .ref a0), (2, .ref a1), (3, .ref a2), (4, .ref a3), (5, .int 0)]) hx hb d_law_2553 hl (by decide) rfl (fun ls hl => ?_)
  refine lv_aload_n hx hb d_law_2555 rfl (lv_at hl 4 rfl) ?_
  refine kV (As := []) (rest := []) (wr := [(a19, .inr (17, [.int 0, .ref a23, .ref a24, .int 0, .ref a25, .ref a26, .ref a27, .null, .null, .int 0, .ref a28, .ref a29, .ref a30, .int 0, .ref a31, .int 1]))]) (c33_BModel_thrown l z a1 a19 a20 a21 a22) hx hb hml hown hts w_1688 w_1685 w_1686 w_1687 w_12 md_c48e0f ⟨Nat.le_of_ble_eq_true rfl, Nat.le_of_ble_eq_true rfl⟩ hG hZ hP hD hS hA 0 rfl rfl rfl [0] [1] rfl rfl rfl rfl rfl hl.1 rfl (Nat.le_of_ble_eq_true rfl) d_law_2556 ⟨Nat.le_of_ble_eq_true rfl, Nat.le_of_ble_eq_true rfl⟩ (fun u2 H locs hP hD hS => ?_)
  have hP : va_P z.1 classes [(a19, .inr (17, [.int 0, .ref a23, .ref a24, .int 0, .ref a25, .ref a26, .ref a27, .null, .null, .int 0, .ref a28, .ref a29, .ref a30, .int 0, .ref a31, .int 1])), (a1, .inr (18, [.ref a19, .ref a20, .int 0, .ref a21, .int 0, .ref a22, .int 1, .null, .int 0, .null, .long 0, .int 0, .null]))] H := hP
  have hD : va_D A [(a19, .inr (17, [.int 0, .ref a23, .ref a24, .int 0, .ref a25, .ref a26, .ref a27, .null, .null, .int 0, .ref a28, .ref a29, .ref a30, .int 0, .ref a31, .int 1])), (a1, .inr (18, [.ref a19, .ref a20, .int 0, .ref a21, .int 0, .ref a22, .int 1, .null, .int 0, .null, .long 0, .int 0, .null]))] := hD
  refine W.eq (g2 := F0 m 2559 ls [.int 1]) rfl ?_
  refine lv_iload hx hb d_law_2559 (lv_at hl 1 rfl) ?_
  refine lv_icmp_eq (tgt := 2566) hx hb d_law_2561 (by decide) (fun _ => ?_) (fun c9 => absurd (by decide +kernel) c9)
  refine lv_iload hx hb d_law_2566 (lv_at hl 1 rfl) ?_
  refine lv_if_ne (tgt := 2583) hx hb d_law_2568 (by decide) (fun _ => ?_) (fun c9 => absurd c9 (by decide +kernel))
  refine lv_goto (tgt := 3072) hx hb d_law_2583 (by decide) ?_
  refine W.widen (k := 600002) (n := 7302232) (Nat.le_of_ble_eq_true rfl) (Nat.le_of_ble_eq_true rfl) ?_
  exact ht H locs ls hS (lv_sub hl [2, 7] rfl)
set_option maxRecDepth 100000 in
set_option maxHeartbeats 4000000 in
theorem L42_1 (l : Launch) (hl0 : l.stackTraces = false) (z : Zz) {p : Program} {e : Env} {s : State} {m : MethodId} {below : List Frame} {meth : Method} {c : Code} {A : Nat → Prop} {b : Nat} {xs : Nat → Int32} {Q : State → Prop} (hx : p.tables.exec = Jvm.exec) (hb : c.code = code) (hml : c.maxLocals = 9) (hts : ∀ w ∈ WG, w.before #[Value.ref b] s = true) (hown : s.vm.findClass "BallothallLaw" = some m.cls) (hA : ∀ q, s.heap.size ≤ q → A q) (hG : KG z s) (hZ : XZ A s) (hX : va_X b 4 xs s s.heap) (hbl : b < s.heap.size) (hbA : ¬ A b) (ht : ∀ (H : Heap) (locs : List Loc) (ls : Array Slot), va_S A s.heap H locs → lv_has ls 9 [(0, .ref b), (5, .int 0)] → W p l e room_1 s m #[Value.ref b] below meth c H locs 600002 7302232 Q (F0 m 3072 ls [])) (a0 : Nat) (a1 : Nat) (a2 : Nat) (a3 : Nat) (a4 : Nat) (a5 : Nat) (a6 : Nat) (a7 : Nat) (a8 : Nat) (a9 : Nat) (a10 : Nat) (a11 : Nat) (a12 : Nat) (a13 : Nat) (a14 : Nat) (a15 : Nat) (a16 : Nat) (a17 : Nat) (a18 : Nat) (a19 : Nat) (a20 : Nat) (a21 : Nat) (a22 : Nat) (a23 : Nat) (a24 : Nat) (a25 : Nat) (a26 : Nat) (a27 : Nat) (a28 : Nat) (a29 : Nat) (a30 : Nat) (a31 : Nat) (h0 : ¬ (xs 1) < 1) (h1 : 0 < (xs 1)) (H : Heap) (locs : List Loc) (ls : Array Slot) (hP : va_P z.1 classes [(a0, .inr (11, [.ref a4, .ref a5, .ref a6, .ref a7, .ref a8, .ref a9, .ref a10, .ref a11, .ref a12, .ref a13, .int 0, .int 0, .ref a14, .int 0])), (a9, .inr (10, [.int 0, .ref a15, .ref a16, .ref a17, .ref a18])), (a1, .inr (18, [.ref a19, .ref a20, .int 0, .ref a21, .int 0, .ref a22, .int 0, .null, .int 0, .null, .long 0, .int 0, .null])), (a19, .inr (17, [.int 0, .ref a23, .ref a24, .int 0, .ref a25, .ref a26, .ref a27, .null, .null, .int 0, .ref a28, .ref a29, .ref a30, .int 0, .ref a31, .int 1]))] H) (hD : va_D A [(a0, .inr (11, [.ref a4, .ref a5, .ref a6, .ref a7, .ref a8, .ref a9, .ref a10, .ref a11, .ref a12, .ref a13, .int 0, .int 0, .ref a14, .int 0])), (a9, .inr (10, [.int 0, .ref a15, .ref a16, .ref a17, .ref a18])), (a1, .inr (18, [.ref a19, .ref a20, .int 0, .ref a21, .int 0, .ref a22, .int 0, .null, .int 0, .null, .long 0, .int 0, .null])), (a19, .inr (17, [.int 0, .ref a23, .ref a24, .int 0, .ref a25, .ref a26, .ref a27, .null, .null, .int 0, .ref a28, .ref a29, .ref a30, .int 0, .ref a31, .int 1]))]) (hS : va_S A s.heap H locs) (hl : lv_has ls 9 [(0, .ref b), (1, .ref a0), (2, .ref a1), (3, .ref a2), (4, .ref a3), (5, .int 0)]) : W p l e room_1 s m #[Value.ref b] below meth c H locs 265 8866 Q (F0 m 44 ls [.int 42]) := by
  refine lv_tableIn (tgt := 2518) hx hb d_law_44 (by decide +kernel) (by decide +kernel) rfl (by decide) ?_
  refine lv_aload_n hx hb d_law_2518 rfl (lv_at hl 1 rfl) ?_
  refine lv_aload_n hx hb d_law_2519 rfl (lv_at hl 0 rfl) ?_
  refine lv_iload hx hb d_law_2520 (lv_at hl 5 rfl) ?_
  refine lv_iconst (v := 1) hx hb d_law_2522 (by decide +kernel) ?_
  refine lv_iadd hx hb d_law_2523 ?_
  refine nrm (x1 := 1) (by decide +kernel) ?_
  refine va_sld hx hb hX hbl hbA hS (hin4 (i := 1) rfl) d_law_2524 ?_
  refine nrm (x1 := xs 1) rfl ?_
  refine lv_aload_n hx hb d_law_2525 rfl (lv_at hl 0 rfl) ?_
  refine lv_iload hx hb d_law_2526 (lv_at hl 5 rfl) ?_
  refine lv_iconst (v := 2) hx hb d_law_2528 (by decide +kernel) ?_
  refine lv_iadd hx hb d_law_2529 ?_
  refine nrm (x1 := 2) (by decide +kernel) ?_
  refine va_sld hx hb hX hbl hbA hS (hin4 (i := 2) rfl) d_law_2530 ?_
  refine nrm (x1 := xs 2) rfl ?_
  refine lv_aload_n hx hb d_law_2531 rfl (lv_at hl 3 rfl) ?_
  refine kH (As := [.ref a0, .int (xs 1), .int (xs 2), .ref a2]) (rest := []) (wr := [(a1, .inr (18, [.ref a19, .ref a20, .int 0, .ref a21, .int 0, .ref a22, .int 0, .null, .int 0, .null, .long 0, .int 0, .null])), (a19, .inr (17, [.int 0, .ref a23, .ref a24, .int 0, .ref a25, .ref a26, .ref a27, .null, .null, .int 0, .ref a28, .ref a29, .ref a30, .int 0, .ref a31, .int 1]))]) (c587_BLaw_districtsWon l z hl0 a0 a2 a4 a5 a6 a7 a8 a9 a10 a11 a12 a13 a14 a15 a16 a17 a18 (xs 1) (xs 2) h0 h1) hx hb hml hown hts w_1497 w_1495 w_1496 w_0 md_61ba19 ⟨Nat.le_of_ble_eq_true rfl, Nat.le_of_ble_eq_true rfl⟩ hG hZ hP hD hS hA [0, 1] [2, 3] rfl rfl rfl rfl rfl hl.1 rfl (Nat.le_of_ble_eq_true rfl) d_law_2532 ⟨Nat.le_of_ble_eq_true rfl, Nat.le_of_ble_eq_true rfl⟩ (fun u0 H locs hP hD hS => ?_)
  have hP : va_P z.1 classes [(a1, .inr (18, [.ref a19, .ref a20, .int 0, .ref a21, .int 0, .ref a22, .int 0, .null, .int 0, .null, .long 0, .int 0, .null])), (a19, .inr (17, [.int 0, .ref a23, .ref a24, .int 0, .ref a25, .ref a26, .ref a27, .null, .null, .int 0, .ref a28, .ref a29, .ref a30, .int 0, .ref a31, .int 1]))] H := hP
  have hD : va_D A [(a1, .inr (18, [.ref a19, .ref a20, .int 0, .ref a21, .int 0, .ref a22, .int 0, .null, .int 0, .null, .long 0, .int 0, .null])), (a19, .inr (17, [.int 0, .ref a23, .ref a24, .int 0, .ref a25, .ref a26, .ref a27, .null, .null, .int 0, .ref a28, .ref a29, .ref a30, .int 0, .ref a31, .int 1]))] := hD
  refine W.eq (g2 := F0 m 2535 ls [.int 1]) rfl ?_
  refine lv_istore (lv' := [(6, .int 1), (0, .ref b), (1, .ref a0), (2, .ref a1), (3, .ref a2), (4, .ref a3), (5, .int 0)]) hx hb d_law_2535 hl (by decide) rfl (fun ls hl => ?_)
  refine lv_aload_n hx hb d_law_2537 rfl (lv_at hl 3 rfl) ?_
  refine lv_aload_n hx hb d_law_2538 rfl (lv_at hl 1 rfl) ?_
  refine lv_iload hx hb d_law_2539 (lv_at hl 6 rfl) ?_
  refine lv_iconst (v := 1) hx hb d_law_2541 (by decide +kernel) ?_
  refine lv_iadd hx hb d_law_2542 ?_
  refine nrm (x1 := 1) (by decide +kernel) ?_
  refine va_sld hx hb hX hbl hbA hS (hin4 (i := 1) rfl) d_law_2543 ?_
  refine nrm (x1 := xs 1) rfl ?_
  refine lv_aload_n hx hb d_law_2544 rfl (lv_at hl 1 rfl) ?_
  refine lv_iload hx hb d_law_2545 (lv_at hl 6 rfl) ?_
  refine lv_iconst (v := 2) hx hb d_law_2547 (by decide +kernel) ?_
  refine lv_iadd hx hb d_law_2548 ?_
  refine nrm (x1 := 2) (by decide +kernel) ?_
  refine va_sld hx hb hX hbl hbA hS (hin4 (i := 2) rfl) d_law_2549 ?_
  refine nrm (x1 := xs 2) rfl ?_
  refine kV (As := [.int (xs 1), .int (xs 2)]) (rest := []) (wr := []) (c589_BModel_districtsWon l z a1 a19 a20 a21 a22 a23 a24 a25 a26 a27 a28 a29 a30 a31 (xs 1) (xs 2) h0 h1) hx hb hml hown hts w_2453 w_2450 w_2451 w_2452 w_12 md_eba095 ⟨Nat.le_of_ble_eq_true rfl, Nat.le_of_ble_eq_true rfl⟩ hG hZ hP hD hS hA 0 rfl rfl rfl [0, 1] [] rfl rfl rfl rfl rfl hl.1 rfl (Nat.le_of_ble_eq_true rfl) d_law_2550 ⟨Nat.le_of_ble_eq_true rfl, Nat.le_of_ble_eq_true rfl⟩ (fun u1 H locs hP hD hS => ?_)
  have hP : va_P z.1 classes [(a1, .inr (18, [.ref a19, .ref a20, .int 0, .ref a21, .int 0, .ref a22, .int 1, .null, .int 0, .null, .long 0, .int 0, .null])), (a19, .inr (17, [.int 0, .ref a23, .ref a24, .int 0, .ref a25, .ref a26, .ref a27, .null, .null, .int 0, .ref a28, .ref a29, .ref a30, .int 0, .ref a31, .int 1]))] H := hP
  have hD : va_D A [(a1, .inr (18, [.ref a19, .ref a20, .int 0, .ref a21, .int 0, .ref a22, .int 1, .null, .int 0, .null, .long 0, .int 0, .null])), (a19, .inr (17, [.int 0, .ref a23, .ref a24, .int 0, .ref a25, .ref a26, .ref a27, .null, .null, .int 0, .ref a28, .ref a29, .ref a30, .int 0, .ref a31, .int 1]))] := hD
  refine W.eq (g2 := F0 m 2553 ls [.int 0]) rfl ?_
  refine lv_istore (lv' := [(7, .int 0), (6, .int 1), (0, .ref b), (1, .ref a0), (2, .ref a1), (3, .ref a2), (4, .ref a3), (5, .int 0)]) hx hb d_law_2553 hl (by decide) rfl (fun ls hl => ?_)
  refine lv_aload_n hx hb d_law_2555 rfl (lv_at hl 4 rfl) ?_
  refine kV (As := []) (rest := []) (wr := [(a19, .inr (17, [.int 0, .ref a23, .ref a24, .int 0, .ref a25, .ref a26, .ref a27, .null, .null, .int 0, .ref a28, .ref a29, .ref a30, .int 0, .ref a31, .int 1]))]) (c33_BModel_thrown l z a1 a19 a20 a21 a22) hx hb hml hown hts w_1688 w_1685 w_1686 w_1687 w_12 md_c48e0f ⟨Nat.le_of_ble_eq_true rfl, Nat.le_of_ble_eq_true rfl⟩ hG hZ hP hD hS hA 0 rfl rfl rfl [0] [1] rfl rfl rfl rfl rfl hl.1 rfl (Nat.le_of_ble_eq_true rfl) d_law_2556 ⟨Nat.le_of_ble_eq_true rfl, Nat.le_of_ble_eq_true rfl⟩ (fun u2 H locs hP hD hS => ?_)
  have hP : va_P z.1 classes [(a19, .inr (17, [.int 0, .ref a23, .ref a24, .int 0, .ref a25, .ref a26, .ref a27, .null, .null, .int 0, .ref a28, .ref a29, .ref a30, .int 0, .ref a31, .int 1])), (a1, .inr (18, [.ref a19, .ref a20, .int 0, .ref a21, .int 0, .ref a22, .int 1, .null, .int 0, .null, .long 0, .int 0, .null]))] H := hP
  have hD : va_D A [(a19, .inr (17, [.int 0, .ref a23, .ref a24, .int 0, .ref a25, .ref a26, .ref a27, .null, .null, .int 0, .ref a28, .ref a29, .ref a30, .int 0, .ref a31, .int 1])), (a1, .inr (18, [.ref a19, .ref a20, .int 0, .ref a21, .int 0, .ref a22, .int 1, .null, .int 0, .null, .long 0, .int 0, .null]))] := hD
  refine W.eq (g2 := F0 m 2559 ls [.int 1]) rfl ?_
  refine lv_iload hx hb d_law_2559 (lv_at hl 1 rfl) ?_
  refine lv_icmp_eq (tgt := 2566) hx hb d_law_2561 (by decide) (fun _ => ?_) (fun c9 => absurd (by decide +kernel) c9)
  refine lv_iload hx hb d_law_2566 (lv_at hl 1 rfl) ?_
  refine lv_if_ne (tgt := 2583) hx hb d_law_2568 (by decide) (fun _ => ?_) (fun c9 => absurd c9 (by decide +kernel))
  refine lv_goto (tgt := 3072) hx hb d_law_2583 (by decide) ?_
  refine W.widen (k := 600002) (n := 7302232) (Nat.le_of_ble_eq_true rfl) (Nat.le_of_ble_eq_true rfl) ?_
  exact ht H locs ls hS (lv_sub hl [2, 7] rfl)
set_option maxRecDepth 100000 in
set_option maxHeartbeats 4000000 in
theorem L43_0 (l : Launch) (hl0 : l.stackTraces = false) (z : Zz) {p : Program} {e : Env} {s : State} {m : MethodId} {below : List Frame} {meth : Method} {c : Code} {A : Nat → Prop} {b : Nat} {xs : Nat → Int32} {Q : State → Prop} (hx : p.tables.exec = Jvm.exec) (hb : c.code = code) (hml : c.maxLocals = 9) (hts : ∀ w ∈ WG, w.before #[Value.ref b] s = true) (hown : s.vm.findClass "BallothallLaw" = some m.cls) (hA : ∀ q, s.heap.size ≤ q → A q) (hG : KG z s) (hZ : XZ A s) (hX : va_X b 4 xs s s.heap) (hbl : b < s.heap.size) (hbA : ¬ A b) (ht : ∀ (H : Heap) (locs : List Loc) (ls : Array Slot), va_S A s.heap H locs → lv_has ls 9 [(0, .ref b), (5, .int 0)] → W p l e room_1 s m #[Value.ref b] below meth c H locs 600002 7302232 Q (F0 m 3072 ls [])) (a0 : Nat) (a1 : Nat) (a2 : Nat) (a3 : Nat) (a4 : Nat) (a5 : Nat) (a6 : Nat) (a7 : Nat) (a8 : Nat) (a9 : Nat) (a10 : Nat) (a11 : Nat) (a12 : Nat) (a13 : Nat) (a14 : Nat) (a15 : Nat) (a16 : Nat) (a17 : Nat) (a18 : Nat) (a19 : Nat) (a20 : Nat) (a21 : Nat) (a22 : Nat) (a23 : Nat) (a24 : Nat) (a25 : Nat) (a26 : Nat) (a27 : Nat) (a28 : Nat) (a29 : Nat) (a30 : Nat) (a31 : Nat) (h0 : (xs 1) < 1) (H : Heap) (locs : List Loc) (ls : Array Slot) (hP : va_P z.1 classes [(a0, .inr (11, [.ref a4, .ref a5, .ref a6, .ref a7, .ref a8, .ref a9, .ref a10, .ref a11, .ref a12, .ref a13, .int 0, .int 0, .ref a14, .int 0])), (a9, .inr (10, [.int 0, .ref a15, .ref a16, .ref a17, .ref a18])), (a1, .inr (18, [.ref a19, .ref a20, .int 0, .ref a21, .int 0, .ref a22, .int 0, .null, .int 0, .null, .long 0, .int 0, .null])), (a19, .inr (17, [.int 0, .ref a23, .ref a24, .int 0, .ref a25, .ref a26, .ref a27, .null, .null, .int 0, .ref a28, .ref a29, .ref a30, .int 0, .ref a31, .int 1]))] H) (hD : va_D A [(a0, .inr (11, [.ref a4, .ref a5, .ref a6, .ref a7, .ref a8, .ref a9, .ref a10, .ref a11, .ref a12, .ref a13, .int 0, .int 0, .ref a14, .int 0])), (a9, .inr (10, [.int 0, .ref a15, .ref a16, .ref a17, .ref a18])), (a1, .inr (18, [.ref a19, .ref a20, .int 0, .ref a21, .int 0, .ref a22, .int 0, .null, .int 0, .null, .long 0, .int 0, .null])), (a19, .inr (17, [.int 0, .ref a23, .ref a24, .int 0, .ref a25, .ref a26, .ref a27, .null, .null, .int 0, .ref a28, .ref a29, .ref a30, .int 0, .ref a31, .int 1]))]) (hS : va_S A s.heap H locs) (hl : lv_has ls 9 [(0, .ref b), (1, .ref a0), (2, .ref a1), (3, .ref a2), (4, .ref a3), (5, .int 0)]) : W p l e room_1 s m #[Value.ref b] below meth c H locs 265 8866 Q (F0 m 44 ls [.int 43]) := by
  refine lv_tableIn (tgt := 2586) hx hb d_law_44 (by decide +kernel) (by decide +kernel) rfl (by decide) ?_
  refine lv_aload_n hx hb d_law_2586 rfl (lv_at hl 1 rfl) ?_
  refine lv_aload_n hx hb d_law_2587 rfl (lv_at hl 0 rfl) ?_
  refine lv_iload hx hb d_law_2588 (lv_at hl 5 rfl) ?_
  refine lv_iconst (v := 1) hx hb d_law_2590 (by decide +kernel) ?_
  refine lv_iadd hx hb d_law_2591 ?_
  refine nrm (x1 := 1) (by decide +kernel) ?_
  refine va_sld hx hb hX hbl hbA hS (hin4 (i := 1) rfl) d_law_2592 ?_
  refine nrm (x1 := xs 1) rfl ?_
  refine lv_aload_n hx hb d_law_2593 rfl (lv_at hl 0 rfl) ?_
  refine lv_iload hx hb d_law_2594 (lv_at hl 5 rfl) ?_
  refine lv_iconst (v := 2) hx hb d_law_2596 (by decide +kernel) ?_
  refine lv_iadd hx hb d_law_2597 ?_
  refine nrm (x1 := 2) (by decide +kernel) ?_
  refine va_sld hx hb hX hbl hbA hS (hin4 (i := 2) rfl) d_law_2598 ?_
  refine nrm (x1 := xs 2) rfl ?_
  refine lv_aload_n hx hb d_law_2599 rfl (lv_at hl 3 rfl) ?_
  refine kH (As := [.ref a0, .int (xs 1), .int (xs 2), .ref a2]) (rest := []) (wr := [(a1, .inr (18, [.ref a19, .ref a20, .int 0, .ref a21, .int 0, .ref a22, .int 0, .null, .int 0, .null, .long 0, .int 0, .null])), (a19, .inr (17, [.int 0, .ref a23, .ref a24, .int 0, .ref a25, .ref a26, .ref a27, .null, .null, .int 0, .ref a28, .ref a29, .ref a30, .int 0, .ref a31, .int 1]))]) (c591_BLaw_wasted l z hl0 a0 a2 a4 a5 a6 a7 a8 a9 a10 a11 a12 a13 a14 a15 a16 a17 a18 (xs 1) (xs 2) h0) hx hb hml hown hts w_1508 w_1506 w_1507 w_0 md_7ff226 ⟨Nat.le_of_ble_eq_true rfl, Nat.le_of_ble_eq_true rfl⟩ hG hZ hP hD hS hA [0, 1] [2, 3] rfl rfl rfl rfl rfl hl.1 rfl (Nat.le_of_ble_eq_true rfl) d_law_2600 ⟨Nat.le_of_ble_eq_true rfl, Nat.le_of_ble_eq_true rfl⟩ (fun u0 H locs hP hD hS => ?_)
  have hP : va_P z.1 classes [(a1, .inr (18, [.ref a19, .ref a20, .int 0, .ref a21, .int 0, .ref a22, .int 0, .null, .int 0, .null, .long 0, .int 0, .null])), (a19, .inr (17, [.int 0, .ref a23, .ref a24, .int 0, .ref a25, .ref a26, .ref a27, .null, .null, .int 0, .ref a28, .ref a29, .ref a30, .int 0, .ref a31, .int 1]))] H := hP
  have hD : va_D A [(a1, .inr (18, [.ref a19, .ref a20, .int 0, .ref a21, .int 0, .ref a22, .int 0, .null, .int 0, .null, .long 0, .int 0, .null])), (a19, .inr (17, [.int 0, .ref a23, .ref a24, .int 0, .ref a25, .ref a26, .ref a27, .null, .null, .int 0, .ref a28, .ref a29, .ref a30, .int 0, .ref a31, .int 1]))] := hD
  refine W.eq (g2 := F0 m 2603 ls [.int 1]) rfl ?_
  refine lv_istore (lv' := [(6, .int 1), (0, .ref b), (1, .ref a0), (2, .ref a1), (3, .ref a2), (4, .ref a3), (5, .int 0)]) hx hb d_law_2603 hl (by decide) rfl (fun ls hl => ?_)
  refine lv_aload_n hx hb d_law_2605 rfl (lv_at hl 3 rfl) ?_
  refine lv_aload_n hx hb d_law_2606 rfl (lv_at hl 1 rfl) ?_
  refine lv_iload hx hb d_law_2607 (lv_at hl 6 rfl) ?_
  refine lv_iconst (v := 1) hx hb d_law_2609 (by decide +kernel) ?_
  refine lv_iadd hx hb d_law_2610 ?_
  refine nrm (x1 := 1) (by decide +kernel) ?_
  refine va_sld hx hb hX hbl hbA hS (hin4 (i := 1) rfl) d_law_2611 ?_
  refine nrm (x1 := xs 1) rfl ?_
  refine lv_aload_n hx hb d_law_2612 rfl (lv_at hl 1 rfl) ?_
  refine lv_iload hx hb d_law_2613 (lv_at hl 6 rfl) ?_
  refine lv_iconst (v := 2) hx hb d_law_2615 (by decide +kernel) ?_
  refine lv_iadd hx hb d_law_2616 ?_
  refine nrm (x1 := 2) (by decide +kernel) ?_
  refine va_sld hx hb hX hbl hbA hS (hin4 (i := 2) rfl) d_law_2617 ?_
  refine nrm (x1 := xs 2) rfl ?_
  refine kV (As := [.int (xs 1), .int (xs 2)]) (rest := []) (wr := []) (c592_BModel_wasted l z a1 a19 a20 a21 a22 a23 a24 a25 a26 a27 a28 a29 a30 a31 (xs 1) (xs 2) h0) hx hb hml hown hts w_2465 w_2462 w_2463 w_2464 w_12 md_2e067e ⟨Nat.le_of_ble_eq_true rfl, Nat.le_of_ble_eq_true rfl⟩ hG hZ hP hD hS hA 0 rfl rfl rfl [0, 1] [] rfl rfl rfl rfl rfl hl.1 rfl (Nat.le_of_ble_eq_true rfl) d_law_2618 ⟨Nat.le_of_ble_eq_true rfl, Nat.le_of_ble_eq_true rfl⟩ (fun u1 H locs hP hD hS => ?_)
  have hP : va_P z.1 classes [(a1, .inr (18, [.ref a19, .ref a20, .int 0, .ref a21, .int 0, .ref a22, .int 1, .null, .int 0, .null, .long 0, .int 0, .null])), (a19, .inr (17, [.int 0, .ref a23, .ref a24, .int 0, .ref a25, .ref a26, .ref a27, .null, .null, .int 0, .ref a28, .ref a29, .ref a30, .int 0, .ref a31, .int 1]))] H := hP
  have hD : va_D A [(a1, .inr (18, [.ref a19, .ref a20, .int 0, .ref a21, .int 0, .ref a22, .int 1, .null, .int 0, .null, .long 0, .int 0, .null])), (a19, .inr (17, [.int 0, .ref a23, .ref a24, .int 0, .ref a25, .ref a26, .ref a27, .null, .null, .int 0, .ref a28, .ref a29, .ref a30, .int 0, .ref a31, .int 1]))] := hD
  refine W.eq (g2 := F0 m 2621 ls [.int 0]) rfl ?_
  refine lv_istore (lv' := [(7, .int 0), (6, .int 1), (0, .ref b), (1, .ref a0), (2, .ref a1), (3, .ref a2), (4, .ref a3), (5, .int 0)]) hx hb d_law_2621 hl (by decide) rfl (fun ls hl => ?_)
  refine lv_aload_n hx hb d_law_2623 rfl (lv_at hl 4 rfl) ?_
  refine kV (As := []) (rest := []) (wr := [(a19, .inr (17, [.int 0, .ref a23, .ref a24, .int 0, .ref a25, .ref a26, .ref a27, .null, .null, .int 0, .ref a28, .ref a29, .ref a30, .int 0, .ref a31, .int 1]))]) (c33_BModel_thrown l z a1 a19 a20 a21 a22) hx hb hml hown hts w_1688 w_1685 w_1686 w_1687 w_12 md_c48e0f ⟨Nat.le_of_ble_eq_true rfl, Nat.le_of_ble_eq_true rfl⟩ hG hZ hP hD hS hA 0 rfl rfl rfl [0] [1] rfl rfl rfl rfl rfl hl.1 rfl (Nat.le_of_ble_eq_true rfl) d_law_2624 ⟨Nat.le_of_ble_eq_true rfl, Nat.le_of_ble_eq_true rfl⟩ (fun u2 H locs hP hD hS => ?_)
  have hP : va_P z.1 classes [(a19, .inr (17, [.int 0, .ref a23, .ref a24, .int 0, .ref a25, .ref a26, .ref a27, .null, .null, .int 0, .ref a28, .ref a29, .ref a30, .int 0, .ref a31, .int 1])), (a1, .inr (18, [.ref a19, .ref a20, .int 0, .ref a21, .int 0, .ref a22, .int 1, .null, .int 0, .null, .long 0, .int 0, .null]))] H := hP
  have hD : va_D A [(a19, .inr (17, [.int 0, .ref a23, .ref a24, .int 0, .ref a25, .ref a26, .ref a27, .null, .null, .int 0, .ref a28, .ref a29, .ref a30, .int 0, .ref a31, .int 1])), (a1, .inr (18, [.ref a19, .ref a20, .int 0, .ref a21, .int 0, .ref a22, .int 1, .null, .int 0, .null, .long 0, .int 0, .null]))] := hD
  refine W.eq (g2 := F0 m 2627 ls [.int 1]) rfl ?_
  refine lv_iload hx hb d_law_2627 (lv_at hl 1 rfl) ?_
  refine lv_icmp_eq (tgt := 2634) hx hb d_law_2629 (by decide) (fun _ => ?_) (fun c9 => absurd (by decide +kernel) c9)
  refine lv_iload hx hb d_law_2634 (lv_at hl 1 rfl) ?_
  refine lv_if_ne (tgt := 2651) hx hb d_law_2636 (by decide) (fun _ => ?_) (fun c9 => absurd c9 (by decide +kernel))
  refine lv_goto (tgt := 3072) hx hb d_law_2651 (by decide) ?_
  refine W.widen (k := 600002) (n := 7302232) (Nat.le_of_ble_eq_true rfl) (Nat.le_of_ble_eq_true rfl) ?_
  exact ht H locs ls hS (lv_sub hl [2, 7] rfl)
set_option maxRecDepth 100000 in
set_option maxHeartbeats 4000000 in
theorem L43_1 (l : Launch) (hl0 : l.stackTraces = false) (z : Zz) {p : Program} {e : Env} {s : State} {m : MethodId} {below : List Frame} {meth : Method} {c : Code} {A : Nat → Prop} {b : Nat} {xs : Nat → Int32} {Q : State → Prop} (hx : p.tables.exec = Jvm.exec) (hb : c.code = code) (hml : c.maxLocals = 9) (hts : ∀ w ∈ WG, w.before #[Value.ref b] s = true) (hown : s.vm.findClass "BallothallLaw" = some m.cls) (hA : ∀ q, s.heap.size ≤ q → A q) (hG : KG z s) (hZ : XZ A s) (hX : va_X b 4 xs s s.heap) (hbl : b < s.heap.size) (hbA : ¬ A b) (ht : ∀ (H : Heap) (locs : List Loc) (ls : Array Slot), va_S A s.heap H locs → lv_has ls 9 [(0, .ref b), (5, .int 0)] → W p l e room_1 s m #[Value.ref b] below meth c H locs 600002 7302232 Q (F0 m 3072 ls [])) (a0 : Nat) (a1 : Nat) (a2 : Nat) (a3 : Nat) (a4 : Nat) (a5 : Nat) (a6 : Nat) (a7 : Nat) (a8 : Nat) (a9 : Nat) (a10 : Nat) (a11 : Nat) (a12 : Nat) (a13 : Nat) (a14 : Nat) (a15 : Nat) (a16 : Nat) (a17 : Nat) (a18 : Nat) (a19 : Nat) (a20 : Nat) (a21 : Nat) (a22 : Nat) (a23 : Nat) (a24 : Nat) (a25 : Nat) (a26 : Nat) (a27 : Nat) (a28 : Nat) (a29 : Nat) (a30 : Nat) (a31 : Nat) (h0 : ¬ (xs 1) < 1) (h1 : 0 < (xs 1)) (H : Heap) (locs : List Loc) (ls : Array Slot) (hP : va_P z.1 classes [(a0, .inr (11, [.ref a4, .ref a5, .ref a6, .ref a7, .ref a8, .ref a9, .ref a10, .ref a11, .ref a12, .ref a13, .int 0, .int 0, .ref a14, .int 0])), (a9, .inr (10, [.int 0, .ref a15, .ref a16, .ref a17, .ref a18])), (a1, .inr (18, [.ref a19, .ref a20, .int 0, .ref a21, .int 0, .ref a22, .int 0, .null, .int 0, .null, .long 0, .int 0, .null])), (a19, .inr (17, [.int 0, .ref a23, .ref a24, .int 0, .ref a25, .ref a26, .ref a27, .null, .null, .int 0, .ref a28, .ref a29, .ref a30, .int 0, .ref a31, .int 1]))] H) (hD : va_D A [(a0, .inr (11, [.ref a4, .ref a5, .ref a6, .ref a7, .ref a8, .ref a9, .ref a10, .ref a11, .ref a12, .ref a13, .int 0, .int 0, .ref a14, .int 0])), (a9, .inr (10, [.int 0, .ref a15, .ref a16, .ref a17, .ref a18])), (a1, .inr (18, [.ref a19, .ref a20, .int 0, .ref a21, .int 0, .ref a22, .int 0, .null, .int 0, .null, .long 0, .int 0, .null])), (a19, .inr (17, [.int 0, .ref a23, .ref a24, .int 0, .ref a25, .ref a26, .ref a27, .null, .null, .int 0, .ref a28, .ref a29, .ref a30, .int 0, .ref a31, .int 1]))]) (hS : va_S A s.heap H locs) (hl : lv_has ls 9 [(0, .ref b), (1, .ref a0), (2, .ref a1), (3, .ref a2), (4, .ref a3), (5, .int 0)]) : W p l e room_1 s m #[Value.ref b] below meth c H locs 265 8866 Q (F0 m 44 ls [.int 43]) := by
  refine lv_tableIn (tgt := 2586) hx hb d_law_44 (by decide +kernel) (by decide +kernel) rfl (by decide) ?_
  refine lv_aload_n hx hb d_law_2586 rfl (lv_at hl 1 rfl) ?_
  refine lv_aload_n hx hb d_law_2587 rfl (lv_at hl 0 rfl) ?_
  refine lv_iload hx hb d_law_2588 (lv_at hl 5 rfl) ?_
  refine lv_iconst (v := 1) hx hb d_law_2590 (by decide +kernel) ?_
  refine lv_iadd hx hb d_law_2591 ?_
  refine nrm (x1 := 1) (by decide +kernel) ?_
  refine va_sld hx hb hX hbl hbA hS (hin4 (i := 1) rfl) d_law_2592 ?_
  refine nrm (x1 := xs 1) rfl ?_
  refine lv_aload_n hx hb d_law_2593 rfl (lv_at hl 0 rfl) ?_
  refine lv_iload hx hb d_law_2594 (lv_at hl 5 rfl) ?_
  refine lv_iconst (v := 2) hx hb d_law_2596 (by decide +kernel) ?_
  refine lv_iadd hx hb d_law_2597 ?_
  refine nrm (x1 := 2) (by decide +kernel) ?_
  refine va_sld hx hb hX hbl hbA hS (hin4 (i := 2) rfl) d_law_2598 ?_
  refine nrm (x1 := xs 2) rfl ?_
  refine lv_aload_n hx hb d_law_2599 rfl (lv_at hl 3 rfl) ?_
  refine kH (As := [.ref a0, .int (xs 1), .int (xs 2), .ref a2]) (rest := []) (wr := [(a1, .inr (18, [.ref a19, .ref a20, .int 0, .ref a21, .int 0, .ref a22, .int 0, .null, .int 0, .null, .long 0, .int 0, .null])), (a19, .inr (17, [.int 0, .ref a23, .ref a24, .int 0, .ref a25, .ref a26, .ref a27, .null, .null, .int 0, .ref a28, .ref a29, .ref a30, .int 0, .ref a31, .int 1]))]) (c594_BLaw_wasted l z hl0 a0 a2 a4 a5 a6 a7 a8 a9 a10 a11 a12 a13 a14 a15 a16 a17 a18 (xs 1) (xs 2) h0 h1) hx hb hml hown hts w_1508 w_1506 w_1507 w_0 md_7ff226 ⟨Nat.le_of_ble_eq_true rfl, Nat.le_of_ble_eq_true rfl⟩ hG hZ hP hD hS hA [0, 1] [2, 3] rfl rfl rfl rfl rfl hl.1 rfl (Nat.le_of_ble_eq_true rfl) d_law_2600 ⟨Nat.le_of_ble_eq_true rfl, Nat.le_of_ble_eq_true rfl⟩ (fun u0 H locs hP hD hS => ?_)
  have hP : va_P z.1 classes [(a1, .inr (18, [.ref a19, .ref a20, .int 0, .ref a21, .int 0, .ref a22, .int 0, .null, .int 0, .null, .long 0, .int 0, .null])), (a19, .inr (17, [.int 0, .ref a23, .ref a24, .int 0, .ref a25, .ref a26, .ref a27, .null, .null, .int 0, .ref a28, .ref a29, .ref a30, .int 0, .ref a31, .int 1]))] H := hP
  have hD : va_D A [(a1, .inr (18, [.ref a19, .ref a20, .int 0, .ref a21, .int 0, .ref a22, .int 0, .null, .int 0, .null, .long 0, .int 0, .null])), (a19, .inr (17, [.int 0, .ref a23, .ref a24, .int 0, .ref a25, .ref a26, .ref a27, .null, .null, .int 0, .ref a28, .ref a29, .ref a30, .int 0, .ref a31, .int 1]))] := hD
  refine W.eq (g2 := F0 m 2603 ls [.int 1]) rfl ?_
  refine lv_istore (lv' := [(6, .int 1), (0, .ref b), (1, .ref a0), (2, .ref a1), (3, .ref a2), (4, .ref a3), (5, .int 0)]) hx hb d_law_2603 hl (by decide) rfl (fun ls hl => ?_)
  refine lv_aload_n hx hb d_law_2605 rfl (lv_at hl 3 rfl) ?_
  refine lv_aload_n hx hb d_law_2606 rfl (lv_at hl 1 rfl) ?_
  refine lv_iload hx hb d_law_2607 (lv_at hl 6 rfl) ?_
  refine lv_iconst (v := 1) hx hb d_law_2609 (by decide +kernel) ?_
  refine lv_iadd hx hb d_law_2610 ?_
  refine nrm (x1 := 1) (by decide +kernel) ?_
  refine va_sld hx hb hX hbl hbA hS (hin4 (i := 1) rfl) d_law_2611 ?_
  refine nrm (x1 := xs 1) rfl ?_
  refine lv_aload_n hx hb d_law_2612 rfl (lv_at hl 1 rfl) ?_
  refine lv_iload hx hb d_law_2613 (lv_at hl 6 rfl) ?_
  refine lv_iconst (v := 2) hx hb d_law_2615 (by decide +kernel) ?_
  refine lv_iadd hx hb d_law_2616 ?_
  refine nrm (x1 := 2) (by decide +kernel) ?_
  refine va_sld hx hb hX hbl hbA hS (hin4 (i := 2) rfl) d_law_2617 ?_
  refine nrm (x1 := xs 2) rfl ?_
  refine kV (As := [.int (xs 1), .int (xs 2)]) (rest := []) (wr := []) (c595_BModel_wasted l z a1 a19 a20 a21 a22 a23 a24 a25 a26 a27 a28 a29 a30 a31 (xs 1) (xs 2) h0 h1) hx hb hml hown hts w_2465 w_2462 w_2463 w_2464 w_12 md_2e067e ⟨Nat.le_of_ble_eq_true rfl, Nat.le_of_ble_eq_true rfl⟩ hG hZ hP hD hS hA 0 rfl rfl rfl [0, 1] [] rfl rfl rfl rfl rfl hl.1 rfl (Nat.le_of_ble_eq_true rfl) d_law_2618 ⟨Nat.le_of_ble_eq_true rfl, Nat.le_of_ble_eq_true rfl⟩ (fun u1 H locs hP hD hS => ?_)
  have hP : va_P z.1 classes [(a1, .inr (18, [.ref a19, .ref a20, .int 0, .ref a21, .int 0, .ref a22, .int 1, .null, .int 0, .null, .long 0, .int 0, .null])), (a19, .inr (17, [.int 0, .ref a23, .ref a24, .int 0, .ref a25, .ref a26, .ref a27, .null, .null, .int 0, .ref a28, .ref a29, .ref a30, .int 0, .ref a31, .int 1]))] H := hP
  have hD : va_D A [(a1, .inr (18, [.ref a19, .ref a20, .int 0, .ref a21, .int 0, .ref a22, .int 1, .null, .int 0, .null, .long 0, .int 0, .null])), (a19, .inr (17, [.int 0, .ref a23, .ref a24, .int 0, .ref a25, .ref a26, .ref a27, .null, .null, .int 0, .ref a28, .ref a29, .ref a30, .int 0, .ref a31, .int 1]))] := hD
  refine W.eq (g2 := F0 m 2621 ls [.int 0]) rfl ?_
  refine lv_istore (lv' := [(7, .int 0), (6, .int 1), (0, .ref b), (1, .ref a0), (2, .ref a1), (3, .ref a2), (4, .ref a3), (5, .int 0)]) hx hb d_law_2621 hl (by decide) rfl (fun ls hl => ?_)
  refine lv_aload_n hx hb d_law_2623 rfl (lv_at hl 4 rfl) ?_
  refine kV (As := []) (rest := []) (wr := [(a19, .inr (17, [.int 0, .ref a23, .ref a24, .int 0, .ref a25, .ref a26, .ref a27, .null, .null, .int 0, .ref a28, .ref a29, .ref a30, .int 0, .ref a31, .int 1]))]) (c33_BModel_thrown l z a1 a19 a20 a21 a22) hx hb hml hown hts w_1688 w_1685 w_1686 w_1687 w_12 md_c48e0f ⟨Nat.le_of_ble_eq_true rfl, Nat.le_of_ble_eq_true rfl⟩ hG hZ hP hD hS hA 0 rfl rfl rfl [0] [1] rfl rfl rfl rfl rfl hl.1 rfl (Nat.le_of_ble_eq_true rfl) d_law_2624 ⟨Nat.le_of_ble_eq_true rfl, Nat.le_of_ble_eq_true rfl⟩ (fun u2 H locs hP hD hS => ?_)
  have hP : va_P z.1 classes [(a19, .inr (17, [.int 0, .ref a23, .ref a24, .int 0, .ref a25, .ref a26, .ref a27, .null, .null, .int 0, .ref a28, .ref a29, .ref a30, .int 0, .ref a31, .int 1])), (a1, .inr (18, [.ref a19, .ref a20, .int 0, .ref a21, .int 0, .ref a22, .int 1, .null, .int 0, .null, .long 0, .int 0, .null]))] H := hP
  have hD : va_D A [(a19, .inr (17, [.int 0, .ref a23, .ref a24, .int 0, .ref a25, .ref a26, .ref a27, .null, .null, .int 0, .ref a28, .ref a29, .ref a30, .int 0, .ref a31, .int 1])), (a1, .inr (18, [.ref a19, .ref a20, .int 0, .ref a21, .int 0, .ref a22, .int 1, .null, .int 0, .null, .long 0, .int 0, .null]))] := hD
  refine W.eq (g2 := F0 m 2627 ls [.int 1]) rfl ?_
  refine lv_iload hx hb d_law_2627 (lv_at hl 1 rfl) ?_
  refine lv_icmp_eq (tgt := 2634) hx hb d_law_2629 (by decide) (fun _ => ?_) (fun c9 => absurd (by decide +kernel) c9)
  refine lv_iload hx hb d_law_2634 (lv_at hl 1 rfl) ?_
  refine lv_if_ne (tgt := 2651) hx hb d_law_2636 (by decide) (fun _ => ?_) (fun c9 => absurd c9 (by decide +kernel))
  refine lv_goto (tgt := 3072) hx hb d_law_2651 (by decide) ?_
  refine W.widen (k := 600002) (n := 7302232) (Nat.le_of_ble_eq_true rfl) (Nat.le_of_ble_eq_true rfl) ?_
  exact ht H locs ls hS (lv_sub hl [2, 7] rfl)
set_option maxRecDepth 100000 in
set_option maxHeartbeats 4000000 in
theorem L44_0 (l : Launch) (hl0 : l.stackTraces = false) (z : Zz) {p : Program} {e : Env} {s : State} {m : MethodId} {below : List Frame} {meth : Method} {c : Code} {A : Nat → Prop} {b : Nat} {xs : Nat → Int32} {Q : State → Prop} (hx : p.tables.exec = Jvm.exec) (hb : c.code = code) (hml : c.maxLocals = 9) (hts : ∀ w ∈ WG, w.before #[Value.ref b] s = true) (hown : s.vm.findClass "BallothallLaw" = some m.cls) (hA : ∀ q, s.heap.size ≤ q → A q) (hG : KG z s) (hZ : XZ A s) (hX : va_X b 4 xs s s.heap) (hbl : b < s.heap.size) (hbA : ¬ A b) (ht : ∀ (H : Heap) (locs : List Loc) (ls : Array Slot), va_S A s.heap H locs → lv_has ls 9 [(0, .ref b), (5, .int 0)] → W p l e room_1 s m #[Value.ref b] below meth c H locs 600002 7302232 Q (F0 m 3072 ls [])) (a0 : Nat) (a1 : Nat) (a2 : Nat) (a3 : Nat) (a4 : Nat) (a5 : Nat) (a6 : Nat) (a7 : Nat) (a8 : Nat) (a9 : Nat) (a10 : Nat) (a11 : Nat) (a12 : Nat) (a13 : Nat) (a14 : Nat) (a15 : Nat) (a16 : Nat) (a17 : Nat) (a18 : Nat) (h0 : (xs 1) < 0) (H : Heap) (locs : List Loc) (ls : Array Slot) (hP : va_P z.1 classes [(a0, .inr (11, [.ref a4, .ref a5, .ref a6, .ref a7, .ref a8, .ref a9, .ref a10, .ref a11, .ref a12, .ref a13, .int 0, .int 0, .ref a14, .int 0])), (a1, .inr (18, [.ref a15, .ref a16, .int 0, .ref a17, .int 0, .ref a18, .int 0, .null, .int 0, .null, .long 0, .int 0, .null]))] H) (hD : va_D A [(a0, .inr (11, [.ref a4, .ref a5, .ref a6, .ref a7, .ref a8, .ref a9, .ref a10, .ref a11, .ref a12, .ref a13, .int 0, .int 0, .ref a14, .int 0])), (a1, .inr (18, [.ref a15, .ref a16, .int 0, .ref a17, .int 0, .ref a18, .int 0, .null, .int 0, .null, .long 0, .int 0, .null]))]) (hS : va_S A s.heap H locs) (hl : lv_has ls 9 [(0, .ref b), (1, .ref a0), (2, .ref a1), (3, .ref a2), (4, .ref a3), (5, .int 0)]) : W p l e room_1 s m #[Value.ref b] below meth c H locs 265 8866 Q (F0 m 44 ls [.int 44]) := by
  refine lv_tableIn (tgt := 2654) hx hb d_law_44 (by decide +kernel) (by decide +kernel) rfl (by decide) ?_
  refine lv_aload_n hx hb d_law_2654 rfl (lv_at hl 1 rfl) ?_
  refine lv_aload_n hx hb d_law_2655 rfl (lv_at hl 0 rfl) ?_
  refine lv_iload hx hb d_law_2656 (lv_at hl 5 rfl) ?_
  refine lv_iconst (v := 1) hx hb d_law_2658 (by decide +kernel) ?_
  refine lv_iadd hx hb d_law_2659 ?_
  refine nrm (x1 := 1) (by decide +kernel) ?_
  refine va_sld hx hb hX hbl hbA hS (hin4 (i := 1) rfl) d_law_2660 ?_
  refine nrm (x1 := xs 1) rfl ?_
  refine lv_aload_n hx hb d_law_2661 rfl (lv_at hl 3 rfl) ?_
  refine kH (As := [.ref a0, .int (xs 1), .ref a2]) (rest := []) (wr := [(a1, .inr (18, [.ref a15, .ref a16, .int 0, .ref a17, .int 0, .ref a18, .int 0, .null, .int 0, .null, .long 0, .int 0, .null]))]) (c598_BLaw_member l z hl0 a0 a2 a4 a5 a6 a7 a8 a9 a10 a11 a12 a13 a14 (xs 1) h0) hx hb hml hown hts w_1515 w_1513 w_1514 w_0 md_b722a4 ⟨Nat.le_of_ble_eq_true rfl, Nat.le_of_ble_eq_true rfl⟩ hG hZ hP hD hS hA [0] [1] rfl rfl rfl rfl rfl hl.1 rfl (Nat.le_of_ble_eq_true rfl) d_law_2662 ⟨Nat.le_of_ble_eq_true rfl, Nat.le_of_ble_eq_true rfl⟩ (fun u0 H locs hP hD hS => ?_)
  have hP : va_P z.1 classes [(a1, .inr (18, [.ref a15, .ref a16, .int 0, .ref a17, .int 0, .ref a18, .int 0, .null, .int 0, .null, .long 0, .int 0, .null])), (a0, .inr (11, [.ref a4, .ref a5, .ref a6, .ref a7, .ref a8, .ref a9, .ref a10, .ref a11, .ref a12, .ref a13, .int 0, .int 0, .ref a14, .int 0]))] H := hP
  have hD : va_D A [(a1, .inr (18, [.ref a15, .ref a16, .int 0, .ref a17, .int 0, .ref a18, .int 0, .null, .int 0, .null, .long 0, .int 0, .null])), (a0, .inr (11, [.ref a4, .ref a5, .ref a6, .ref a7, .ref a8, .ref a9, .ref a10, .ref a11, .ref a12, .ref a13, .int 0, .int 0, .ref a14, .int 0]))] := hD
  refine W.eq (g2 := F0 m 2665 ls [.int 1]) rfl ?_
  refine lv_istore (lv' := [(6, .int 1), (0, .ref b), (1, .ref a0), (2, .ref a1), (3, .ref a2), (4, .ref a3), (5, .int 0)]) hx hb d_law_2665 hl (by decide) rfl (fun ls hl => ?_)
  refine lv_aload_n hx hb d_law_2667 rfl (lv_at hl 3 rfl) ?_
  refine lv_aload_n hx hb d_law_2668 rfl (lv_at hl 1 rfl) ?_
  refine lv_iload hx hb d_law_2669 (lv_at hl 6 rfl) ?_
  refine lv_iconst (v := 1) hx hb d_law_2671 (by decide +kernel) ?_
  refine lv_iadd hx hb d_law_2672 ?_
  refine nrm (x1 := 1) (by decide +kernel) ?_
  refine va_sld hx hb hX hbl hbA hS (hin4 (i := 1) rfl) d_law_2673 ?_
  refine nrm (x1 := xs 1) rfl ?_
  refine kV (As := [.int (xs 1)]) (rest := []) (wr := [(a0, .inr (11, [.ref a4, .ref a5, .ref a6, .ref a7, .ref a8, .ref a9, .ref a10, .ref a11, .ref a12, .ref a13, .int 0, .int 0, .ref a14, .int 0]))]) (c600_BModel_member l z a1 a15 a16 a17 a18 (xs 1) h0) hx hb hml hown hts w_2469 w_2466 w_2467 w_2468 w_12 md_eac33d ⟨Nat.le_of_ble_eq_true rfl, Nat.le_of_ble_eq_true rfl⟩ hG hZ hP hD hS hA 0 rfl rfl rfl [0] [1] rfl rfl rfl rfl rfl hl.1 rfl (Nat.le_of_ble_eq_true rfl) d_law_2674 ⟨Nat.le_of_ble_eq_true rfl, Nat.le_of_ble_eq_true rfl⟩ (fun u1 H locs hP hD hS => ?_)
  have hP : va_P z.1 classes [(a0, .inr (11, [.ref a4, .ref a5, .ref a6, .ref a7, .ref a8, .ref a9, .ref a10, .ref a11, .ref a12, .ref a13, .int 0, .int 0, .ref a14, .int 0])), (a1, .inr (18, [.ref a15, .ref a16, .int 0, .ref a17, .int 0, .ref a18, .int 1, .null, .int 0, .null, .long 0, .int 0, .null]))] H := hP
  have hD : va_D A [(a0, .inr (11, [.ref a4, .ref a5, .ref a6, .ref a7, .ref a8, .ref a9, .ref a10, .ref a11, .ref a12, .ref a13, .int 0, .int 0, .ref a14, .int 0])), (a1, .inr (18, [.ref a15, .ref a16, .int 0, .ref a17, .int 0, .ref a18, .int 1, .null, .int 0, .null, .long 0, .int 0, .null]))] := hD
  refine W.eq (g2 := F0 m 2677 ls [.int 0]) rfl ?_
  refine lv_istore (lv' := [(7, .int 0), (6, .int 1), (0, .ref b), (1, .ref a0), (2, .ref a1), (3, .ref a2), (4, .ref a3), (5, .int 0)]) hx hb d_law_2677 hl (by decide) rfl (fun ls hl => ?_)
  refine lv_aload_n hx hb d_law_2679 rfl (lv_at hl 4 rfl) ?_
  refine kV (As := []) (rest := []) (wr := [(a0, .inr (11, [.ref a4, .ref a5, .ref a6, .ref a7, .ref a8, .ref a9, .ref a10, .ref a11, .ref a12, .ref a13, .int 0, .int 0, .ref a14, .int 0]))]) (c33_BModel_thrown l z a1 a15 a16 a17 a18) hx hb hml hown hts w_1688 w_1685 w_1686 w_1687 w_12 md_c48e0f ⟨Nat.le_of_ble_eq_true rfl, Nat.le_of_ble_eq_true rfl⟩ hG hZ hP hD hS hA 1 rfl rfl rfl [1] [0] rfl rfl rfl rfl rfl hl.1 rfl (Nat.le_of_ble_eq_true rfl) d_law_2680 ⟨Nat.le_of_ble_eq_true rfl, Nat.le_of_ble_eq_true rfl⟩ (fun u2 H locs hP hD hS => ?_)
  have hP : va_P z.1 classes [(a0, .inr (11, [.ref a4, .ref a5, .ref a6, .ref a7, .ref a8, .ref a9, .ref a10, .ref a11, .ref a12, .ref a13, .int 0, .int 0, .ref a14, .int 0])), (a1, .inr (18, [.ref a15, .ref a16, .int 0, .ref a17, .int 0, .ref a18, .int 1, .null, .int 0, .null, .long 0, .int 0, .null]))] H := hP
  have hD : va_D A [(a0, .inr (11, [.ref a4, .ref a5, .ref a6, .ref a7, .ref a8, .ref a9, .ref a10, .ref a11, .ref a12, .ref a13, .int 0, .int 0, .ref a14, .int 0])), (a1, .inr (18, [.ref a15, .ref a16, .int 0, .ref a17, .int 0, .ref a18, .int 1, .null, .int 0, .null, .long 0, .int 0, .null]))] := hD
  refine W.eq (g2 := F0 m 2683 ls [.int 1]) rfl ?_
  refine lv_iload hx hb d_law_2683 (lv_at hl 1 rfl) ?_
  refine lv_icmp_eq (tgt := 2690) hx hb d_law_2685 (by decide) (fun _ => ?_) (fun c9 => absurd (by decide +kernel) c9)
  refine lv_iload hx hb d_law_2690 (lv_at hl 1 rfl) ?_
  refine lv_if_ne (tgt := 2707) hx hb d_law_2692 (by decide) (fun _ => ?_) (fun c9 => absurd c9 (by decide +kernel))
  refine lv_goto (tgt := 3072) hx hb d_law_2707 (by decide) ?_
  refine W.widen (k := 600002) (n := 7302232) (Nat.le_of_ble_eq_true rfl) (Nat.le_of_ble_eq_true rfl) ?_
  exact ht H locs ls hS (lv_sub hl [2, 7] rfl)
set_option maxRecDepth 100000 in
set_option maxHeartbeats 4000000 in
theorem L44_1 (l : Launch) (hl0 : l.stackTraces = false) (z : Zz) {p : Program} {e : Env} {s : State} {m : MethodId} {below : List Frame} {meth : Method} {c : Code} {A : Nat → Prop} {b : Nat} {xs : Nat → Int32} {Q : State → Prop} (hx : p.tables.exec = Jvm.exec) (hb : c.code = code) (hml : c.maxLocals = 9) (hts : ∀ w ∈ WG, w.before #[Value.ref b] s = true) (hown : s.vm.findClass "BallothallLaw" = some m.cls) (hA : ∀ q, s.heap.size ≤ q → A q) (hG : KG z s) (hZ : XZ A s) (hX : va_X b 4 xs s s.heap) (hbl : b < s.heap.size) (hbA : ¬ A b) (ht : ∀ (H : Heap) (locs : List Loc) (ls : Array Slot), va_S A s.heap H locs → lv_has ls 9 [(0, .ref b), (5, .int 0)] → W p l e room_1 s m #[Value.ref b] below meth c H locs 600002 7302232 Q (F0 m 3072 ls [])) (a0 : Nat) (a1 : Nat) (a2 : Nat) (a3 : Nat) (a4 : Nat) (a5 : Nat) (a6 : Nat) (a7 : Nat) (a8 : Nat) (a9 : Nat) (a10 : Nat) (a11 : Nat) (a12 : Nat) (a13 : Nat) (a14 : Nat) (a15 : Nat) (a16 : Nat) (a17 : Nat) (a18 : Nat) (h0 : ¬ (xs 1) < 0) (h1 : 1000 < (xs 1)) (H : Heap) (locs : List Loc) (ls : Array Slot) (hP : va_P z.1 classes [(a0, .inr (11, [.ref a4, .ref a5, .ref a6, .ref a7, .ref a8, .ref a9, .ref a10, .ref a11, .ref a12, .ref a13, .int 0, .int 0, .ref a14, .int 0])), (a1, .inr (18, [.ref a15, .ref a16, .int 0, .ref a17, .int 0, .ref a18, .int 0, .null, .int 0, .null, .long 0, .int 0, .null]))] H) (hD : va_D A [(a0, .inr (11, [.ref a4, .ref a5, .ref a6, .ref a7, .ref a8, .ref a9, .ref a10, .ref a11, .ref a12, .ref a13, .int 0, .int 0, .ref a14, .int 0])), (a1, .inr (18, [.ref a15, .ref a16, .int 0, .ref a17, .int 0, .ref a18, .int 0, .null, .int 0, .null, .long 0, .int 0, .null]))]) (hS : va_S A s.heap H locs) (hl : lv_has ls 9 [(0, .ref b), (1, .ref a0), (2, .ref a1), (3, .ref a2), (4, .ref a3), (5, .int 0)]) : W p l e room_1 s m #[Value.ref b] below meth c H locs 265 8866 Q (F0 m 44 ls [.int 44]) := by
  refine lv_tableIn (tgt := 2654) hx hb d_law_44 (by decide +kernel) (by decide +kernel) rfl (by decide) ?_
  refine lv_aload_n hx hb d_law_2654 rfl (lv_at hl 1 rfl) ?_
  refine lv_aload_n hx hb d_law_2655 rfl (lv_at hl 0 rfl) ?_
  refine lv_iload hx hb d_law_2656 (lv_at hl 5 rfl) ?_
  refine lv_iconst (v := 1) hx hb d_law_2658 (by decide +kernel) ?_
  refine lv_iadd hx hb d_law_2659 ?_
  refine nrm (x1 := 1) (by decide +kernel) ?_
  refine va_sld hx hb hX hbl hbA hS (hin4 (i := 1) rfl) d_law_2660 ?_
  refine nrm (x1 := xs 1) rfl ?_
  refine lv_aload_n hx hb d_law_2661 rfl (lv_at hl 3 rfl) ?_
  refine kH (As := [.ref a0, .int (xs 1), .ref a2]) (rest := []) (wr := [(a1, .inr (18, [.ref a15, .ref a16, .int 0, .ref a17, .int 0, .ref a18, .int 0, .null, .int 0, .null, .long 0, .int 0, .null]))]) (c603_BLaw_member l z hl0 a0 a2 a4 a5 a6 a7 a8 a9 a10 a11 a12 a13 a14 (xs 1) h0 h1) hx hb hml hown hts w_1515 w_1513 w_1514 w_0 md_b722a4 ⟨Nat.le_of_ble_eq_true rfl, Nat.le_of_ble_eq_true rfl⟩ hG hZ hP hD hS hA [0] [1] rfl rfl rfl rfl rfl hl.1 rfl (Nat.le_of_ble_eq_true rfl) d_law_2662 ⟨Nat.le_of_ble_eq_true rfl, Nat.le_of_ble_eq_true rfl⟩ (fun u0 H locs hP hD hS => ?_)
  have hP : va_P z.1 classes [(a1, .inr (18, [.ref a15, .ref a16, .int 0, .ref a17, .int 0, .ref a18, .int 0, .null, .int 0, .null, .long 0, .int 0, .null])), (a0, .inr (11, [.ref a4, .ref a5, .ref a6, .ref a7, .ref a8, .ref a9, .ref a10, .ref a11, .ref a12, .ref a13, .int 0, .int 0, .ref a14, .int 0]))] H := hP
  have hD : va_D A [(a1, .inr (18, [.ref a15, .ref a16, .int 0, .ref a17, .int 0, .ref a18, .int 0, .null, .int 0, .null, .long 0, .int 0, .null])), (a0, .inr (11, [.ref a4, .ref a5, .ref a6, .ref a7, .ref a8, .ref a9, .ref a10, .ref a11, .ref a12, .ref a13, .int 0, .int 0, .ref a14, .int 0]))] := hD
  refine W.eq (g2 := F0 m 2665 ls [.int 1]) rfl ?_
  refine lv_istore (lv' := [(6, .int 1), (0, .ref b), (1, .ref a0), (2, .ref a1), (3, .ref a2), (4, .ref a3), (5, .int 0)]) hx hb d_law_2665 hl (by decide) rfl (fun ls hl => ?_)
  refine lv_aload_n hx hb d_law_2667 rfl (lv_at hl 3 rfl) ?_
  refine lv_aload_n hx hb d_law_2668 rfl (lv_at hl 1 rfl) ?_
  refine lv_iload hx hb d_law_2669 (lv_at hl 6 rfl) ?_
  refine lv_iconst (v := 1) hx hb d_law_2671 (by decide +kernel) ?_
  refine lv_iadd hx hb d_law_2672 ?_
  refine nrm (x1 := 1) (by decide +kernel) ?_
  refine va_sld hx hb hX hbl hbA hS (hin4 (i := 1) rfl) d_law_2673 ?_
  refine nrm (x1 := xs 1) rfl ?_
  refine kV (As := [.int (xs 1)]) (rest := []) (wr := [(a0, .inr (11, [.ref a4, .ref a5, .ref a6, .ref a7, .ref a8, .ref a9, .ref a10, .ref a11, .ref a12, .ref a13, .int 0, .int 0, .ref a14, .int 0]))]) (c605_BModel_member l z a1 a15 a16 a17 a18 (xs 1) h0 h1) hx hb hml hown hts w_2469 w_2466 w_2467 w_2468 w_12 md_eac33d ⟨Nat.le_of_ble_eq_true rfl, Nat.le_of_ble_eq_true rfl⟩ hG hZ hP hD hS hA 0 rfl rfl rfl [0] [1] rfl rfl rfl rfl rfl hl.1 rfl (Nat.le_of_ble_eq_true rfl) d_law_2674 ⟨Nat.le_of_ble_eq_true rfl, Nat.le_of_ble_eq_true rfl⟩ (fun u1 H locs hP hD hS => ?_)
  have hP : va_P z.1 classes [(a0, .inr (11, [.ref a4, .ref a5, .ref a6, .ref a7, .ref a8, .ref a9, .ref a10, .ref a11, .ref a12, .ref a13, .int 0, .int 0, .ref a14, .int 0])), (a1, .inr (18, [.ref a15, .ref a16, .int 0, .ref a17, .int 0, .ref a18, .int 1, .null, .int 0, .null, .long 0, .int 0, .null]))] H := hP
  have hD : va_D A [(a0, .inr (11, [.ref a4, .ref a5, .ref a6, .ref a7, .ref a8, .ref a9, .ref a10, .ref a11, .ref a12, .ref a13, .int 0, .int 0, .ref a14, .int 0])), (a1, .inr (18, [.ref a15, .ref a16, .int 0, .ref a17, .int 0, .ref a18, .int 1, .null, .int 0, .null, .long 0, .int 0, .null]))] := hD
  refine W.eq (g2 := F0 m 2677 ls [.int 0]) rfl ?_
  refine lv_istore (lv' := [(7, .int 0), (6, .int 1), (0, .ref b), (1, .ref a0), (2, .ref a1), (3, .ref a2), (4, .ref a3), (5, .int 0)]) hx hb d_law_2677 hl (by decide) rfl (fun ls hl => ?_)
  refine lv_aload_n hx hb d_law_2679 rfl (lv_at hl 4 rfl) ?_
  refine kV (As := []) (rest := []) (wr := [(a0, .inr (11, [.ref a4, .ref a5, .ref a6, .ref a7, .ref a8, .ref a9, .ref a10, .ref a11, .ref a12, .ref a13, .int 0, .int 0, .ref a14, .int 0]))]) (c33_BModel_thrown l z a1 a15 a16 a17 a18) hx hb hml hown hts w_1688 w_1685 w_1686 w_1687 w_12 md_c48e0f ⟨Nat.le_of_ble_eq_true rfl, Nat.le_of_ble_eq_true rfl⟩ hG hZ hP hD hS hA 1 rfl rfl rfl [1] [0] rfl rfl rfl rfl rfl hl.1 rfl (Nat.le_of_ble_eq_true rfl) d_law_2680 ⟨Nat.le_of_ble_eq_true rfl, Nat.le_of_ble_eq_true rfl⟩ (fun u2 H locs hP hD hS => ?_)
  have hP : va_P z.1 classes [(a0, .inr (11, [.ref a4, .ref a5, .ref a6, .ref a7, .ref a8, .ref a9, .ref a10, .ref a11, .ref a12, .ref a13, .int 0, .int 0, .ref a14, .int 0])), (a1, .inr (18, [.ref a15, .ref a16, .int 0, .ref a17, .int 0, .ref a18, .int 1, .null, .int 0, .null, .long 0, .int 0, .null]))] H := hP
  have hD : va_D A [(a0, .inr (11, [.ref a4, .ref a5, .ref a6, .ref a7, .ref a8, .ref a9, .ref a10, .ref a11, .ref a12, .ref a13, .int 0, .int 0, .ref a14, .int 0])), (a1, .inr (18, [.ref a15, .ref a16, .int 0, .ref a17, .int 0, .ref a18, .int 1, .null, .int 0, .null, .long 0, .int 0, .null]))] := hD
  refine W.eq (g2 := F0 m 2683 ls [.int 1]) rfl ?_
  refine lv_iload hx hb d_law_2683 (lv_at hl 1 rfl) ?_
  refine lv_icmp_eq (tgt := 2690) hx hb d_law_2685 (by decide) (fun _ => ?_) (fun c9 => absurd (by decide +kernel) c9)
  refine lv_iload hx hb d_law_2690 (lv_at hl 1 rfl) ?_
  refine lv_if_ne (tgt := 2707) hx hb d_law_2692 (by decide) (fun _ => ?_) (fun c9 => absurd c9 (by decide +kernel))
  refine lv_goto (tgt := 3072) hx hb d_law_2707 (by decide) ?_
  refine W.widen (k := 600002) (n := 7302232) (Nat.le_of_ble_eq_true rfl) (Nat.le_of_ble_eq_true rfl) ?_
  exact ht H locs ls hS (lv_sub hl [2, 7] rfl)
set_option maxRecDepth 100000 in
set_option maxHeartbeats 4000000 in
theorem L44_2 (l : Launch) (hl0 : l.stackTraces = false) (z : Zz) {p : Program} {e : Env} {s : State} {m : MethodId} {below : List Frame} {meth : Method} {c : Code} {A : Nat → Prop} {b : Nat} {xs : Nat → Int32} {Q : State → Prop} (hx : p.tables.exec = Jvm.exec) (hb : c.code = code) (hml : c.maxLocals = 9) (hts : ∀ w ∈ WG, w.before #[Value.ref b] s = true) (hown : s.vm.findClass "BallothallLaw" = some m.cls) (hA : ∀ q, s.heap.size ≤ q → A q) (hG : KG z s) (hZ : XZ A s) (hX : va_X b 4 xs s s.heap) (hbl : b < s.heap.size) (hbA : ¬ A b) (ht : ∀ (H : Heap) (locs : List Loc) (ls : Array Slot), va_S A s.heap H locs → lv_has ls 9 [(0, .ref b), (5, .int 0)] → W p l e room_1 s m #[Value.ref b] below meth c H locs 600002 7302232 Q (F0 m 3072 ls [])) (a0 : Nat) (a1 : Nat) (a2 : Nat) (a3 : Nat) (a4 : Nat) (a5 : Nat) (a6 : Nat) (a7 : Nat) (a8 : Nat) (a9 : Nat) (a10 : Nat) (a11 : Nat) (a12 : Nat) (a13 : Nat) (a14 : Nat) (a15 : Nat) (a16 : Nat) (a17 : Nat) (a18 : Nat) (a19 : Nat) (a20 : Nat) (a21 : Nat) (a22 : Nat) (a23 : Nat) (a24 : Nat) (a25 : Nat) (a26 : Nat) (a27 : Nat) (a28 : Nat) (a29 : Nat) (h0 : ¬ (xs 1) < 0) (h1 : ¬ 1000 < (xs 1)) (H : Heap) (locs : List Loc) (ls : Array Slot) (hP : va_P z.1 classes [(a0, .inr (11, [.ref a4, .ref a5, .ref a6, .ref a7, .ref a8, .ref a9, .ref a10, .ref a11, .ref a12, .ref a13, .int 0, .int 0, .ref a14, .int 0])), (a10, .inr (1, [.int 0, .int 1, .ref a15, .ref a16])), (a15, .inl (z.2 0, 12, .inl (fun _ => 0))), (a11, .inl (z.2 0, 20, .inl (fun _ => 0))), (a12, .inl (z.2 0, 20, .inl (fun _ => 0))), (a13, .inl (z.2 0, 20, .inl (fun _ => 0))), (a2, .inl (z.2 1, 1, .inr (.inl (fun _ => 0)))), (a1, .inr (18, [.ref a17, .ref a18, .int 0, .ref a19, .int 0, .ref a20, .int 0, .null, .int 0, .null, .long 0, .int 0, .null])), (a17, .inr (17, [.int 0, .ref a21, .ref a22, .int 0, .ref a23, .ref a24, .ref a25, .null, .null, .int 0, .ref a26, .ref a27, .ref a28, .int 0, .ref a29, .int 1])), (a21, .inl (z.2 0, 8, .inl (fun _ => 0))), (a23, .inl (z.2 0, 8, .inl (fun _ => 0))), (a24, .inl (z.2 0, 8, .inl (fun _ => 0))), (a25, .inl (z.2 0, 8, .inl (fun _ => 0))), (a26, .inl (z.2 0, 16, .inl (fun _ => 0))), (a27, .inl (z.2 0, 16, .inl (fun _ => 0))), (a28, .inl (z.2 0, 16, .inl (fun _ => 0))), (a29, .inl (z.2 0, 12, .inl (fun _ => 0))), (a18, .inl (z.2 6, 20, .inr (.inr (.inr (.inr (fun _ => none))))))] H) (hD : va_D A [(a0, .inr (11, [.ref a4, .ref a5, .ref a6, .ref a7, .ref a8, .ref a9, .ref a10, .ref a11, .ref a12, .ref a13, .int 0, .int 0, .ref a14, .int 0])), (a10, .inr (1, [.int 0, .int 1, .ref a15, .ref a16])), (a15, .inl (z.2 0, 12, .inl (fun _ => 0))), (a11, .inl (z.2 0, 20, .inl (fun _ => 0))), (a12, .inl (z.2 0, 20, .inl (fun _ => 0))), (a13, .inl (z.2 0, 20, .inl (fun _ => 0))), (a2, .inl (z.2 1, 1, .inr (.inl (fun _ => 0)))), (a1, .inr (18, [.ref a17, .ref a18, .int 0, .ref a19, .int 0, .ref a20, .int 0, .null, .int 0, .null, .long 0, .int 0, .null])), (a17, .inr (17, [.int 0, .ref a21, .ref a22, .int 0, .ref a23, .ref a24, .ref a25, .null, .null, .int 0, .ref a26, .ref a27, .ref a28, .int 0, .ref a29, .int 1])), (a21, .inl (z.2 0, 8, .inl (fun _ => 0))), (a23, .inl (z.2 0, 8, .inl (fun _ => 0))), (a24, .inl (z.2 0, 8, .inl (fun _ => 0))), (a25, .inl (z.2 0, 8, .inl (fun _ => 0))), (a26, .inl (z.2 0, 16, .inl (fun _ => 0))), (a27, .inl (z.2 0, 16, .inl (fun _ => 0))), (a28, .inl (z.2 0, 16, .inl (fun _ => 0))), (a29, .inl (z.2 0, 12, .inl (fun _ => 0))), (a18, .inl (z.2 6, 20, .inr (.inr (.inr (.inr (fun _ => none))))))]) (hS : va_S A s.heap H locs) (hl : lv_has ls 9 [(0, .ref b), (1, .ref a0), (2, .ref a1), (3, .ref a2), (4, .ref a3), (5, .int 0)]) : W p l e room_1 s m #[Value.ref b] below meth c H locs 265 8866 Q (F0 m 44 ls [.int 44]) := by
  refine lv_tableIn (tgt := 2654) hx hb d_law_44 (by decide +kernel) (by decide +kernel) rfl (by decide) ?_
  refine lv_aload_n hx hb d_law_2654 rfl (lv_at hl 1 rfl) ?_
  refine lv_aload_n hx hb d_law_2655 rfl (lv_at hl 0 rfl) ?_
  refine lv_iload hx hb d_law_2656 (lv_at hl 5 rfl) ?_
  refine lv_iconst (v := 1) hx hb d_law_2658 (by decide +kernel) ?_
  refine lv_iadd hx hb d_law_2659 ?_
  refine nrm (x1 := 1) (by decide +kernel) ?_
  refine va_sld hx hb hX hbl hbA hS (hin4 (i := 1) rfl) d_law_2660 ?_
  refine nrm (x1 := xs 1) rfl ?_
  refine lv_aload_n hx hb d_law_2661 rfl (lv_at hl 3 rfl) ?_
  refine kH (As := [.ref a0, .int (xs 1), .ref a2]) (rest := []) (wr := [(a1, .inr (18, [.ref a17, .ref a18, .int 0, .ref a19, .int 0, .ref a20, .int 0, .null, .int 0, .null, .long 0, .int 0, .null])), (a17, .inr (17, [.int 0, .ref a21, .ref a22, .int 0, .ref a23, .ref a24, .ref a25, .null, .null, .int 0, .ref a26, .ref a27, .ref a28, .int 0, .ref a29, .int 1])), (a21, .inl (z.2 0, 8, .inl (fun _ => 0))), (a23, .inl (z.2 0, 8, .inl (fun _ => 0))), (a24, .inl (z.2 0, 8, .inl (fun _ => 0))), (a25, .inl (z.2 0, 8, .inl (fun _ => 0))), (a26, .inl (z.2 0, 16, .inl (fun _ => 0))), (a27, .inl (z.2 0, 16, .inl (fun _ => 0))), (a28, .inl (z.2 0, 16, .inl (fun _ => 0))), (a29, .inl (z.2 0, 12, .inl (fun _ => 0))), (a18, .inl (z.2 6, 20, .inr (.inr (.inr (.inr (fun _ => none))))))]) (c611_BLaw_member l z a0 a2 a4 a5 a6 a7 a8 a9 a10 a11 a12 a13 a14 a15 a16 (xs 1) h0 h1) hx hb hml hown hts w_1515 w_1513 w_1514 w_0 md_b722a4 ⟨Nat.le_of_ble_eq_true rfl, Nat.le_of_ble_eq_true rfl⟩ hG hZ hP hD hS hA [0, 1, 2, 3, 4, 5, 6] [7, 8, 9, 10, 11, 12, 13, 14, 15, 16, 17] rfl rfl rfl rfl rfl hl.1 rfl (Nat.le_of_ble_eq_true rfl) d_law_2662 ⟨Nat.le_of_ble_eq_true rfl, Nat.le_of_ble_eq_true rfl⟩ (fun u0 H locs hP hD hS => ?_)
  have hP : va_P z.1 classes [(a1, .inr (18, [.ref a17, .ref a18, .int 0, .ref a19, .int 0, .ref a20, .int 0, .null, .int 0, .null, .long 0, .int 0, .null])), (a17, .inr (17, [.int 0, .ref a21, .ref a22, .int 0, .ref a23, .ref a24, .ref a25, .null, .null, .int 0, .ref a26, .ref a27, .ref a28, .int 0, .ref a29, .int 1])), (a21, .inl (z.2 0, 8, .inl (fun _ => 0))), (a23, .inl (z.2 0, 8, .inl (fun _ => 0))), (a24, .inl (z.2 0, 8, .inl (fun _ => 0))), (a25, .inl (z.2 0, 8, .inl (fun _ => 0))), (a26, .inl (z.2 0, 16, .inl (fun _ => 0))), (a27, .inl (z.2 0, 16, .inl (fun _ => 0))), (a28, .inl (z.2 0, 16, .inl (fun _ => 0))), (a29, .inl (z.2 0, 12, .inl (fun _ => 0))), (a18, .inl (z.2 6, 20, .inr (.inr (.inr (.inr (fun _ => none)))))), (a0, .inr (11, [.ref a4, .ref a5, .ref a6, .ref a7, .ref a8, .ref a9, .ref a10, .ref a11, .ref a12, .ref a13, .int 1, .int 1, .ref a14, .int 0])), (a10, .inr (1, [.int 1, .int 1, .ref a15, .ref a16])), (a15, .inl (z.2 0, 12, .inl (upd (fun _ => 0) 0 (xs 1)))), (a11, .inl (z.2 0, 20, .inl (upd (fun _ => 0) 1 11))), (a12, .inl (z.2 0, 20, .inl (fun _ => 0))), (a13, .inl (z.2 0, 20, .inl (fun _ => 0))), (a2, .inl (z.2 1, 1, .inr (.inl (fun _ => 0))))] H := hP
  have hD : va_D A [(a1, .inr (18, [.ref a17, .ref a18, .int 0, .ref a19, .int 0, .ref a20, .int 0, .null, .int 0, .null, .long 0, .int 0, .null])), (a17, .inr (17, [.int 0, .ref a21, .ref a22, .int 0, .ref a23, .ref a24, .ref a25, .null, .null, .int 0, .ref a26, .ref a27, .ref a28, .int 0, .ref a29, .int 1])), (a21, .inl (z.2 0, 8, .inl (fun _ => 0))), (a23, .inl (z.2 0, 8, .inl (fun _ => 0))), (a24, .inl (z.2 0, 8, .inl (fun _ => 0))), (a25, .inl (z.2 0, 8, .inl (fun _ => 0))), (a26, .inl (z.2 0, 16, .inl (fun _ => 0))), (a27, .inl (z.2 0, 16, .inl (fun _ => 0))), (a28, .inl (z.2 0, 16, .inl (fun _ => 0))), (a29, .inl (z.2 0, 12, .inl (fun _ => 0))), (a18, .inl (z.2 6, 20, .inr (.inr (.inr (.inr (fun _ => none)))))), (a0, .inr (11, [.ref a4, .ref a5, .ref a6, .ref a7, .ref a8, .ref a9, .ref a10, .ref a11, .ref a12, .ref a13, .int 1, .int 1, .ref a14, .int 0])), (a10, .inr (1, [.int 1, .int 1, .ref a15, .ref a16])), (a15, .inl (z.2 0, 12, .inl (upd (fun _ => 0) 0 (xs 1)))), (a11, .inl (z.2 0, 20, .inl (upd (fun _ => 0) 1 11))), (a12, .inl (z.2 0, 20, .inl (fun _ => 0))), (a13, .inl (z.2 0, 20, .inl (fun _ => 0))), (a2, .inl (z.2 1, 1, .inr (.inl (fun _ => 0))))] := hD
  refine W.eq (g2 := F0 m 2665 ls [.int 0]) rfl ?_
  refine lv_istore (lv' := [(6, .int 0), (0, .ref b), (1, .ref a0), (2, .ref a1), (3, .ref a2), (4, .ref a3), (5, .int 0)]) hx hb d_law_2665 hl (by decide) rfl (fun ls hl => ?_)
  refine lv_aload_n hx hb d_law_2667 rfl (lv_at hl 3 rfl) ?_
  refine lv_aload_n hx hb d_law_2668 rfl (lv_at hl 1 rfl) ?_
  refine lv_iload hx hb d_law_2669 (lv_at hl 6 rfl) ?_
  refine lv_iconst (v := 1) hx hb d_law_2671 (by decide +kernel) ?_
  refine lv_iadd hx hb d_law_2672 ?_
  refine nrm (x1 := 1) (by decide +kernel) ?_
  refine va_sld hx hb hX hbl hbA hS (hin4 (i := 1) rfl) d_law_2673 ?_
  refine nrm (x1 := xs 1) rfl ?_
  refine kV (As := [.int (xs 1)]) (rest := []) (wr := [(a0, .inr (11, [.ref a4, .ref a5, .ref a6, .ref a7, .ref a8, .ref a9, .ref a10, .ref a11, .ref a12, .ref a13, .int 1, .int 1, .ref a14, .int 0])), (a10, .inr (1, [.int 1, .int 1, .ref a15, .ref a16])), (a15, .inl (z.2 0, 12, .inl (upd (fun _ => 0) 0 (xs 1)))), (a11, .inl (z.2 0, 20, .inl (upd (fun _ => 0) 1 11))), (a12, .inl (z.2 0, 20, .inl (fun _ => 0))), (a13, .inl (z.2 0, 20, .inl (fun _ => 0))), (a2, .inl (z.2 1, 1, .inr (.inl (fun _ => 0))))]) (c613_BModel_member l z a1 a17 a18 a19 a20 a21 a22 a23 a24 a25 a26 a27 a28 a29 (xs 1) h0 h1) hx hb hml hown hts w_2469 w_2466 w_2467 w_2468 w_12 md_eac33d ⟨Nat.le_of_ble_eq_true rfl, Nat.le_of_ble_eq_true rfl⟩ hG hZ hP hD hS hA 0 rfl rfl rfl [0, 1, 2, 3, 4, 5, 6, 7, 8, 9, 10] [11, 12, 13, 14, 15, 16, 17] rfl rfl rfl rfl rfl hl.1 rfl (Nat.le_of_ble_eq_true rfl) d_law_2674 ⟨Nat.le_of_ble_eq_true rfl, Nat.le_of_ble_eq_true rfl⟩ (fun u1 H locs hP hD hS => ?_)
  have hP : va_P z.1 classes [(a0, .inr (11, [.ref a4, .ref a5, .ref a6, .ref a7, .ref a8, .ref a9, .ref a10, .ref a11, .ref a12, .ref a13, .int 1, .int 1, .ref a14, .int 0])), (a10, .inr (1, [.int 1, .int 1, .ref a15, .ref a16])), (a15, .inl (z.2 0, 12, .inl (upd (fun _ => 0) 0 (xs 1)))), (a11, .inl (z.2 0, 20, .inl (upd (fun _ => 0) 1 11))), (a12, .inl (z.2 0, 20, .inl (fun _ => 0))), (a13, .inl (z.2 0, 20, .inl (fun _ => 0))), (a2, .inl (z.2 1, 1, .inr (.inl (fun _ => 0)))), (a1, .inr (18, [.ref a17, .ref a18, .int 1, .ref a19, .int 0, .ref a20, .int 0, .null, .int 0, .null, .long 0, .int 0, .null])), (a17, .inr (17, [.int 0, .ref a21, .ref a22, .int 0, .ref a23, .ref a24, .ref a25, .null, .null, .int 0, .ref a26, .ref a27, .ref a28, .int 1, .ref a29, .int 1])), (a21, .inl (z.2 0, 8, .inl (fun _ => 0))), (a23, .inl (z.2 0, 8, .inl (fun _ => 0))), (a24, .inl (z.2 0, 8, .inl (fun _ => 0))), (a25, .inl (z.2 0, 8, .inl (fun _ => 0))), (a26, .inl (z.2 0, 16, .inl (fun _ => 0))), (a27, .inl (z.2 0, 16, .inl (fun _ => 0))), (a28, .inl (z.2 0, 16, .inl (fun _ => 0))), (a29, .inl (z.2 0, 12, .inl (upd (fun _ => 0) 0 (xs 1)))), (a18, .inl (z.2 6, 20, .inr (.inr (.inr (.inr (va_up (fun _ => none) 0 (some (u1.1 0))))))))] H := hP
  have hD : va_D A [(a0, .inr (11, [.ref a4, .ref a5, .ref a6, .ref a7, .ref a8, .ref a9, .ref a10, .ref a11, .ref a12, .ref a13, .int 1, .int 1, .ref a14, .int 0])), (a10, .inr (1, [.int 1, .int 1, .ref a15, .ref a16])), (a15, .inl (z.2 0, 12, .inl (upd (fun _ => 0) 0 (xs 1)))), (a11, .inl (z.2 0, 20, .inl (upd (fun _ => 0) 1 11))), (a12, .inl (z.2 0, 20, .inl (fun _ => 0))), (a13, .inl (z.2 0, 20, .inl (fun _ => 0))), (a2, .inl (z.2 1, 1, .inr (.inl (fun _ => 0)))), (a1, .inr (18, [.ref a17, .ref a18, .int 1, .ref a19, .int 0, .ref a20, .int 0, .null, .int 0, .null, .long 0, .int 0, .null])), (a17, .inr (17, [.int 0, .ref a21, .ref a22, .int 0, .ref a23, .ref a24, .ref a25, .null, .null, .int 0, .ref a26, .ref a27, .ref a28, .int 1, .ref a29, .int 1])), (a21, .inl (z.2 0, 8, .inl (fun _ => 0))), (a23, .inl (z.2 0, 8, .inl (fun _ => 0))), (a24, .inl (z.2 0, 8, .inl (fun _ => 0))), (a25, .inl (z.2 0, 8, .inl (fun _ => 0))), (a26, .inl (z.2 0, 16, .inl (fun _ => 0))), (a27, .inl (z.2 0, 16, .inl (fun _ => 0))), (a28, .inl (z.2 0, 16, .inl (fun _ => 0))), (a29, .inl (z.2 0, 12, .inl (upd (fun _ => 0) 0 (xs 1)))), (a18, .inl (z.2 6, 20, .inr (.inr (.inr (.inr (va_up (fun _ => none) 0 (some (u1.1 0))))))))] := hD
  refine W.eq (g2 := F0 m 2677 ls [.int 0]) rfl ?_
  refine lv_istore (lv' := [(7, .int 0), (6, .int 0), (0, .ref b), (1, .ref a0), (2, .ref a1), (3, .ref a2), (4, .ref a3), (5, .int 0)]) hx hb d_law_2677 hl (by decide) rfl (fun ls hl => ?_)
  refine lv_aload_n hx hb d_law_2679 rfl (lv_at hl 4 rfl) ?_
  refine kV (As := []) (rest := []) (wr := [(a0, .inr (11, [.ref a4, .ref a5, .ref a6, .ref a7, .ref a8, .ref a9, .ref a10, .ref a11, .ref a12, .ref a13, .int 1, .int 1, .ref a14, .int 0])), (a10, .inr (1, [.int 1, .int 1, .ref a15, .ref a16])), (a15, .inl (z.2 0, 12, .inl (upd (fun _ => 0) 0 (xs 1)))), (a11, .inl (z.2 0, 20, .inl (upd (fun _ => 0) 1 11))), (a12, .inl (z.2 0, 20, .inl (fun _ => 0))), (a13, .inl (z.2 0, 20, .inl (fun _ => 0))), (a2, .inl (z.2 1, 1, .inr (.inl (fun _ => 0)))), (a17, .inr (17, [.int 0, .ref a21, .ref a22, .int 0, .ref a23, .ref a24, .ref a25, .null, .null, .int 0, .ref a26, .ref a27, .ref a28, .int 1, .ref a29, .int 1])), (a21, .inl (z.2 0, 8, .inl (fun _ => 0))), (a23, .inl (z.2 0, 8, .inl (fun _ => 0))), (a24, .inl (z.2 0, 8, .inl (fun _ => 0))), (a25, .inl (z.2 0, 8, .inl (fun _ => 0))), (a26, .inl (z.2 0, 16, .inl (fun _ => 0))), (a27, .inl (z.2 0, 16, .inl (fun _ => 0))), (a28, .inl (z.2 0, 16, .inl (fun _ => 0))), (a29, .inl (z.2 0, 12, .inl (upd (fun _ => 0) 0 (xs 1)))), (a18, .inl (z.2 6, 20, .inr (.inr (.inr (.inr (va_up (fun _ => none) 0 (some (u1.1 0))))))))]) (c25_BModel_thrown l z a1 a17 a18 a19 a20) hx hb hml hown hts w_1688 w_1685 w_1686 w_1687 w_12 md_c48e0f ⟨Nat.le_of_ble_eq_true rfl, Nat.le_of_ble_eq_true rfl⟩ hG hZ hP hD hS hA 7 rfl rfl rfl [7] [0, 1, 2, 3, 4, 5, 6, 8, 9, 10, 11, 12, 13, 14, 15, 16, 17] rfl rfl rfl rfl rfl hl.1 rfl (Nat.le_of_ble_eq_true rfl) d_law_2680 ⟨Nat.le_of_ble_eq_true rfl, Nat.le_of_ble_eq_true rfl⟩ (fun u2 H locs hP hD hS => ?_)
  have hP : va_P z.1 classes [(a0, .inr (11, [.ref a4, .ref a5, .ref a6, .ref a7, .ref a8, .ref a9, .ref a10, .ref a11, .ref a12, .ref a13, .int 1, .int 1, .ref a14, .int 0])), (a10, .inr (1, [.int 1, .int 1, .ref a15, .ref a16])), (a15, .inl (z.2 0, 12, .inl (upd (fun _ => 0) 0 (xs 1)))), (a11, .inl (z.2 0, 20, .inl (upd (fun _ => 0) 1 11))), (a12, .inl (z.2 0, 20, .inl (fun _ => 0))), (a13, .inl (z.2 0, 20, .inl (fun _ => 0))), (a2, .inl (z.2 1, 1, .inr (.inl (fun _ => 0)))), (a17, .inr (17, [.int 0, .ref a21, .ref a22, .int 0, .ref a23, .ref a24, .ref a25, .null, .null, .int 0, .ref a26, .ref a27, .ref a28, .int 1, .ref a29, .int 1])), (a21, .inl (z.2 0, 8, .inl (fun _ => 0))), (a23, .inl (z.2 0, 8, .inl (fun _ => 0))), (a24, .inl (z.2 0, 8, .inl (fun _ => 0))), (a25, .inl (z.2 0, 8, .inl (fun _ => 0))), (a26, .inl (z.2 0, 16, .inl (fun _ => 0))), (a27, .inl (z.2 0, 16, .inl (fun _ => 0))), (a28, .inl (z.2 0, 16, .inl (fun _ => 0))), (a29, .inl (z.2 0, 12, .inl (upd (fun _ => 0) 0 (xs 1)))), (a18, .inl (z.2 6, 20, .inr (.inr (.inr (.inr (va_up (fun _ => none) 0 (some (u1.1 0)))))))), (a1, .inr (18, [.ref a17, .ref a18, .int 1, .ref a19, .int 0, .ref a20, .int 0, .null, .int 0, .null, .long 0, .int 0, .null]))] H := hP
  have hD : va_D A [(a0, .inr (11, [.ref a4, .ref a5, .ref a6, .ref a7, .ref a8, .ref a9, .ref a10, .ref a11, .ref a12, .ref a13, .int 1, .int 1, .ref a14, .int 0])), (a10, .inr (1, [.int 1, .int 1, .ref a15, .ref a16])), (a15, .inl (z.2 0, 12, .inl (upd (fun _ => 0) 0 (xs 1)))), (a11, .inl (z.2 0, 20, .inl (upd (fun _ => 0) 1 11))), (a12, .inl (z.2 0, 20, .inl (fun _ => 0))), (a13, .inl (z.2 0, 20, .inl (fun _ => 0))), (a2, .inl (z.2 1, 1, .inr (.inl (fun _ => 0)))), (a17, .inr (17, [.int 0, .ref a21, .ref a22, .int 0, .ref a23, .ref a24, .ref a25, .null, .null, .int 0, .ref a26, .ref a27, .ref a28, .int 1, .ref a29, .int 1])), (a21, .inl (z.2 0, 8, .inl (fun _ => 0))), (a23, .inl (z.2 0, 8, .inl (fun _ => 0))), (a24, .inl (z.2 0, 8, .inl (fun _ => 0))), (a25, .inl (z.2 0, 8, .inl (fun _ => 0))), (a26, .inl (z.2 0, 16, .inl (fun _ => 0))), (a27, .inl (z.2 0, 16, .inl (fun _ => 0))), (a28, .inl (z.2 0, 16, .inl (fun _ => 0))), (a29, .inl (z.2 0, 12, .inl (upd (fun _ => 0) 0 (xs 1)))), (a18, .inl (z.2 6, 20, .inr (.inr (.inr (.inr (va_up (fun _ => none) 0 (some (u1.1 0)))))))), (a1, .inr (18, [.ref a17, .ref a18, .int 1, .ref a19, .int 0, .ref a20, .int 0, .null, .int 0, .null, .long 0, .int 0, .null]))] := hD
  refine W.eq (g2 := F0 m 2683 ls [.int 0]) rfl ?_
  refine lv_iload hx hb d_law_2683 (lv_at hl 1 rfl) ?_
  refine lv_icmp_eq (tgt := 2690) hx hb d_law_2685 (by decide) (fun _ => ?_) (fun c9 => absurd (by decide +kernel) c9)
  refine lv_iload hx hb d_law_2690 (lv_at hl 1 rfl) ?_
  refine lv_if_ne (tgt := 2707) hx hb d_law_2692 (by decide) (fun c9 => absurd (by decide +kernel) c9) (fun _ => ?_)
  refine lv_aload_n hx hb d_law_2695 rfl (lv_at hl 5 rfl) ?_
  refine lv_iconst (v := 0) hx hb d_law_2696 (by decide +kernel) ?_
  refine va_lald hx hb hG.1 hP 6 1 rfl rfl (vin rfl) d_law_2697 ?_
  refine nrmL (x1 := 0) rfl ?_
  refine lv_iload hx hb d_law_2698 (lv_at hl 0 rfl) ?_
  refine lv_i2l (v := 0) hx hb d_law_2700 (by decide +kernel) ?_
  refine W.lcmp hx hb d_law_2701 ?_
  refine nrm (x1 := 0) (by decide +kernel) ?_
  refine lv_if_eq (tgt := 2707) hx hb d_law_2702 (by decide) (fun _ => ?_) (fun c9 => absurd (by decide +kernel) c9)
  refine lv_goto (tgt := 3072) hx hb d_law_2707 (by decide) ?_
  refine W.widen (k := 600002) (n := 7302232) (Nat.le_of_ble_eq_true rfl) (Nat.le_of_ble_eq_true rfl) ?_
  exact ht H locs ls hS (lv_sub hl [2, 7] rfl)
set_option maxRecDepth 100000 in
set_option maxHeartbeats 4000000 in
theorem L45_0 (l : Launch) (hl0 : l.stackTraces = false) (z : Zz) {p : Program} {e : Env} {s : State} {m : MethodId} {below : List Frame} {meth : Method} {c : Code} {A : Nat → Prop} {b : Nat} {xs : Nat → Int32} {Q : State → Prop} (hx : p.tables.exec = Jvm.exec) (hb : c.code = code) (hml : c.maxLocals = 9) (hts : ∀ w ∈ WG, w.before #[Value.ref b] s = true) (hown : s.vm.findClass "BallothallLaw" = some m.cls) (hA : ∀ q, s.heap.size ≤ q → A q) (hG : KG z s) (hZ : XZ A s) (hX : va_X b 4 xs s s.heap) (hbl : b < s.heap.size) (hbA : ¬ A b) (ht : ∀ (H : Heap) (locs : List Loc) (ls : Array Slot), va_S A s.heap H locs → lv_has ls 9 [(0, .ref b), (5, .int 0)] → W p l e room_1 s m #[Value.ref b] below meth c H locs 600002 7302232 Q (F0 m 3072 ls [])) (a0 : Nat) (a1 : Nat) (a2 : Nat) (a3 : Nat) (a4 : Nat) (a5 : Nat) (a6 : Nat) (a7 : Nat) (a8 : Nat) (a9 : Nat) (a10 : Nat) (a11 : Nat) (a12 : Nat) (a13 : Nat) (a14 : Nat) (a15 : Nat) (a16 : Nat) (a17 : Nat) (a18 : Nat) (h0 : (xs 1) < 1) (H : Heap) (locs : List Loc) (ls : Array Slot) (hP : va_P z.1 classes [(a0, .inr (11, [.ref a4, .ref a5, .ref a6, .ref a7, .ref a8, .ref a9, .ref a10, .ref a11, .ref a12, .ref a13, .int 0, .int 0, .ref a14, .int 0])), (a1, .inr (18, [.ref a15, .ref a16, .int 0, .ref a17, .int 0, .ref a18, .int 0, .null, .int 0, .null, .long 0, .int 0, .null]))] H) (hD : va_D A [(a0, .inr (11, [.ref a4, .ref a5, .ref a6, .ref a7, .ref a8, .ref a9, .ref a10, .ref a11, .ref a12, .ref a13, .int 0, .int 0, .ref a14, .int 0])), (a1, .inr (18, [.ref a15, .ref a16, .int 0, .ref a17, .int 0, .ref a18, .int 0, .null, .int 0, .null, .long 0, .int 0, .null]))]) (hS : va_S A s.heap H locs) (hl : lv_has ls 9 [(0, .ref b), (1, .ref a0), (2, .ref a1), (3, .ref a2), (4, .ref a3), (5, .int 0)]) : W p l e room_1 s m #[Value.ref b] below meth c H locs 265 8866 Q (F0 m 44 ls [.int 45]) := by
  refine lv_tableIn (tgt := 2710) hx hb d_law_44 (by decide +kernel) (by decide +kernel) rfl (by decide) ?_
  refine lv_aload_n hx hb d_law_2710 rfl (lv_at hl 1 rfl) ?_
  refine lv_aload_n hx hb d_law_2711 rfl (lv_at hl 0 rfl) ?_
  refine lv_iload hx hb d_law_2712 (lv_at hl 5 rfl) ?_
  refine lv_iconst (v := 1) hx hb d_law_2714 (by decide +kernel) ?_
  refine lv_iadd hx hb d_law_2715 ?_
  refine nrm (x1 := 1) (by decide +kernel) ?_
  refine va_sld hx hb hX hbl hbA hS (hin4 (i := 1) rfl) d_law_2716 ?_
  refine nrm (x1 := xs 1) rfl ?_
  refine lv_aload_n hx hb d_law_2717 rfl (lv_at hl 3 rfl) ?_
  refine kH (As := [.ref a0, .int (xs 1), .ref a2]) (rest := []) (wr := [(a1, .inr (18, [.ref a15, .ref a16, .int 0, .ref a17, .int 0, .ref a18, .int 0, .null, .int 0, .null, .long 0, .int 0, .null]))]) (c616_BLaw_setQuota l z hl0 a0 a2 a4 a5 a6 a7 a8 a9 a10 a11 a12 a13 a14 (xs 1) h0) hx hb hml hown hts w_1526 w_1524 w_1525 w_0 md_2b5a81 ⟨Nat.le_of_ble_eq_true rfl, Nat.le_of_ble_eq_true rfl⟩ hG hZ hP hD hS hA [0] [1] rfl rfl rfl rfl rfl hl.1 rfl (Nat.le_of_ble_eq_true rfl) d_law_2718 ⟨Nat.le_of_ble_eq_true rfl, Nat.le_of_ble_eq_true rfl⟩ (fun u0 H locs hP hD hS => ?_)
  have hP : va_P z.1 classes [(a1, .inr (18, [.ref a15, .ref a16, .int 0, .ref a17, .int 0, .ref a18, .int 0, .null, .int 0, .null, .long 0, .int 0, .null])), (a0, .inr (11, [.ref a4, .ref a5, .ref a6, .ref a7, .ref a8, .ref a9, .ref a10, .ref a11, .ref a12, .ref a13, .int 0, .int 0, .ref a14, .int 0]))] H := hP
  have hD : va_D A [(a1, .inr (18, [.ref a15, .ref a16, .int 0, .ref a17, .int 0, .ref a18, .int 0, .null, .int 0, .null, .long 0, .int 0, .null])), (a0, .inr (11, [.ref a4, .ref a5, .ref a6, .ref a7, .ref a8, .ref a9, .ref a10, .ref a11, .ref a12, .ref a13, .int 0, .int 0, .ref a14, .int 0]))] := hD
  refine W.eq (g2 := F0 m 2721 ls [.int 1]) rfl ?_
  refine lv_istore (lv' := [(6, .int 1), (0, .ref b), (1, .ref a0), (2, .ref a1), (3, .ref a2), (4, .ref a3), (5, .int 0)]) hx hb d_law_2721 hl (by decide) rfl (fun ls hl => ?_)
  refine lv_aload_n hx hb d_law_2723 rfl (lv_at hl 3 rfl) ?_
  refine lv_aload_n hx hb d_law_2724 rfl (lv_at hl 1 rfl) ?_
  refine lv_iload hx hb d_law_2725 (lv_at hl 6 rfl) ?_
  refine lv_iconst (v := 1) hx hb d_law_2727 (by decide +kernel) ?_
  refine lv_iadd hx hb d_law_2728 ?_
  refine nrm (x1 := 1) (by decide +kernel) ?_
  refine va_sld hx hb hX hbl hbA hS (hin4 (i := 1) rfl) d_law_2729 ?_
  refine nrm (x1 := xs 1) rfl ?_
  refine kV (As := [.int (xs 1)]) (rest := []) (wr := [(a0, .inr (11, [.ref a4, .ref a5, .ref a6, .ref a7, .ref a8, .ref a9, .ref a10, .ref a11, .ref a12, .ref a13, .int 0, .int 0, .ref a14, .int 0]))]) (c618_BModel_setQuota l z a1 a15 a16 a17 a18 (xs 1) h0) hx hb hml hown hts w_2473 w_2470 w_2471 w_2472 w_12 md_d1bd38 ⟨Nat.le_of_ble_eq_true rfl, Nat.le_of_ble_eq_true rfl⟩ hG hZ hP hD hS hA 0 rfl rfl rfl [0] [1] rfl rfl rfl rfl rfl hl.1 rfl (Nat.le_of_ble_eq_true rfl) d_law_2730 ⟨Nat.le_of_ble_eq_true rfl, Nat.le_of_ble_eq_true rfl⟩ (fun u1 H locs hP hD hS => ?_)
  have hP : va_P z.1 classes [(a0, .inr (11, [.ref a4, .ref a5, .ref a6, .ref a7, .ref a8, .ref a9, .ref a10, .ref a11, .ref a12, .ref a13, .int 0, .int 0, .ref a14, .int 0])), (a1, .inr (18, [.ref a15, .ref a16, .int 0, .ref a17, .int 0, .ref a18, .int 1, .null, .int 0, .null, .long 0, .int 0, .null]))] H := hP
  have hD : va_D A [(a0, .inr (11, [.ref a4, .ref a5, .ref a6, .ref a7, .ref a8, .ref a9, .ref a10, .ref a11, .ref a12, .ref a13, .int 0, .int 0, .ref a14, .int 0])), (a1, .inr (18, [.ref a15, .ref a16, .int 0, .ref a17, .int 0, .ref a18, .int 1, .null, .int 0, .null, .long 0, .int 0, .null]))] := hD
  refine W.eq (g2 := F0 m 2733 ls [.int 0]) rfl ?_
  refine lv_istore (lv' := [(7, .int 0), (6, .int 1), (0, .ref b), (1, .ref a0), (2, .ref a1), (3, .ref a2), (4, .ref a3), (5, .int 0)]) hx hb d_law_2733 hl (by decide) rfl (fun ls hl => ?_)
  refine lv_aload_n hx hb d_law_2735 rfl (lv_at hl 4 rfl) ?_
  refine kV (As := []) (rest := []) (wr := [(a0, .inr (11, [.ref a4, .ref a5, .ref a6, .ref a7, .ref a8, .ref a9, .ref a10, .ref a11, .ref a12, .ref a13, .int 0, .int 0, .ref a14, .int 0]))]) (c33_BModel_thrown l z a1 a15 a16 a17 a18) hx hb hml hown hts w_1688 w_1685 w_1686 w_1687 w_12 md_c48e0f ⟨Nat.le_of_ble_eq_true rfl, Nat.le_of_ble_eq_true rfl⟩ hG hZ hP hD hS hA 1 rfl rfl rfl [1] [0] rfl rfl rfl rfl rfl hl.1 rfl (Nat.le_of_ble_eq_true rfl) d_law_2736 ⟨Nat.le_of_ble_eq_true rfl, Nat.le_of_ble_eq_true rfl⟩ (fun u2 H locs hP hD hS => ?_)
  have hP : va_P z.1 classes [(a0, .inr (11, [.ref a4, .ref a5, .ref a6, .ref a7, .ref a8, .ref a9, .ref a10, .ref a11, .ref a12, .ref a13, .int 0, .int 0, .ref a14, .int 0])), (a1, .inr (18, [.ref a15, .ref a16, .int 0, .ref a17, .int 0, .ref a18, .int 1, .null, .int 0, .null, .long 0, .int 0, .null]))] H := hP
  have hD : va_D A [(a0, .inr (11, [.ref a4, .ref a5, .ref a6, .ref a7, .ref a8, .ref a9, .ref a10, .ref a11, .ref a12, .ref a13, .int 0, .int 0, .ref a14, .int 0])), (a1, .inr (18, [.ref a15, .ref a16, .int 0, .ref a17, .int 0, .ref a18, .int 1, .null, .int 0, .null, .long 0, .int 0, .null]))] := hD
  refine W.eq (g2 := F0 m 2739 ls [.int 1]) rfl ?_
  refine lv_iload hx hb d_law_2739 (lv_at hl 1 rfl) ?_
  refine lv_icmp_eq (tgt := 2746) hx hb d_law_2741 (by decide) (fun _ => ?_) (fun c9 => absurd (by decide +kernel) c9)
  refine lv_iload hx hb d_law_2746 (lv_at hl 1 rfl) ?_
  refine lv_if_ne (tgt := 2763) hx hb d_law_2748 (by decide) (fun _ => ?_) (fun c9 => absurd c9 (by decide +kernel))
  refine lv_goto (tgt := 3072) hx hb d_law_2763 (by decide) ?_
  refine W.widen (k := 600002) (n := 7302232) (Nat.le_of_ble_eq_true rfl) (Nat.le_of_ble_eq_true rfl) ?_
  exact ht H locs ls hS (lv_sub hl [2, 7] rfl)
set_option maxRecDepth 100000 in
set_option maxHeartbeats 4000000 in
theorem L45_1 (l : Launch) (hl0 : l.stackTraces = false) (z : Zz) {p : Program} {e : Env} {s : State} {m : MethodId} {below : List Frame} {meth : Method} {c : Code} {A : Nat → Prop} {b : Nat} {xs : Nat → Int32} {Q : State → Prop} (hx : p.tables.exec = Jvm.exec) (hb : c.code = code) (hml : c.maxLocals = 9) (hts : ∀ w ∈ WG, w.before #[Value.ref b] s = true) (hown : s.vm.findClass "BallothallLaw" = some m.cls) (hA : ∀ q, s.heap.size ≤ q → A q) (hG : KG z s) (hZ : XZ A s) (hX : va_X b 4 xs s s.heap) (hbl : b < s.heap.size) (hbA : ¬ A b) (ht : ∀ (H : Heap) (locs : List Loc) (ls : Array Slot), va_S A s.heap H locs → lv_has ls 9 [(0, .ref b), (5, .int 0)] → W p l e room_1 s m #[Value.ref b] below meth c H locs 600002 7302232 Q (F0 m 3072 ls [])) (a0 : Nat) (a1 : Nat) (a2 : Nat) (a3 : Nat) (a4 : Nat) (a5 : Nat) (a6 : Nat) (a7 : Nat) (a8 : Nat) (a9 : Nat) (a10 : Nat) (a11 : Nat) (a12 : Nat) (a13 : Nat) (a14 : Nat) (a15 : Nat) (a16 : Nat) (a17 : Nat) (a18 : Nat) (h0 : ¬ (xs 1) < 1) (h1 : 12000 < (xs 1)) (H : Heap) (locs : List Loc) (ls : Array Slot) (hP : va_P z.1 classes [(a0, .inr (11, [.ref a4, .ref a5, .ref a6, .ref a7, .ref a8, .ref a9, .ref a10, .ref a11, .ref a12, .ref a13, .int 0, .int 0, .ref a14, .int 0])), (a1, .inr (18, [.ref a15, .ref a16, .int 0, .ref a17, .int 0, .ref a18, .int 0, .null, .int 0, .null, .long 0, .int 0, .null]))] H) (hD : va_D A [(a0, .inr (11, [.ref a4, .ref a5, .ref a6, .ref a7, .ref a8, .ref a9, .ref a10, .ref a11, .ref a12, .ref a13, .int 0, .int 0, .ref a14, .int 0])), (a1, .inr (18, [.ref a15, .ref a16, .int 0, .ref a17, .int 0, .ref a18, .int 0, .null, .int 0, .null, .long 0, .int 0, .null]))]) (hS : va_S A s.heap H locs) (hl : lv_has ls 9 [(0, .ref b), (1, .ref a0), (2, .ref a1), (3, .ref a2), (4, .ref a3), (5, .int 0)]) : W p l e room_1 s m #[Value.ref b] below meth c H locs 265 8866 Q (F0 m 44 ls [.int 45]) := by
  refine lv_tableIn (tgt := 2710) hx hb d_law_44 (by decide +kernel) (by decide +kernel) rfl (by decide) ?_
  refine lv_aload_n hx hb d_law_2710 rfl (lv_at hl 1 rfl) ?_
  refine lv_aload_n hx hb d_law_2711 rfl (lv_at hl 0 rfl) ?_
  refine lv_iload hx hb d_law_2712 (lv_at hl 5 rfl) ?_
  refine lv_iconst (v := 1) hx hb d_law_2714 (by decide +kernel) ?_
  refine lv_iadd hx hb d_law_2715 ?_
  refine nrm (x1 := 1) (by decide +kernel) ?_
  refine va_sld hx hb hX hbl hbA hS (hin4 (i := 1) rfl) d_law_2716 ?_
  refine nrm (x1 := xs 1) rfl ?_
  refine lv_aload_n hx hb d_law_2717 rfl (lv_at hl 3 rfl) ?_
  refine kH (As := [.ref a0, .int (xs 1), .ref a2]) (rest := []) (wr := [(a1, .inr (18, [.ref a15, .ref a16, .int 0, .ref a17, .int 0, .ref a18, .int 0, .null, .int 0, .null, .long 0, .int 0, .null]))]) (c621_BLaw_setQuota l z hl0 a0 a2 a4 a5 a6 a7 a8 a9 a10 a11 a12 a13 a14 (xs 1) h0 h1) hx hb hml hown hts w_1526 w_1524 w_1525 w_0 md_2b5a81 ⟨Nat.le_of_ble_eq_true rfl, Nat.le_of_ble_eq_true rfl⟩ hG hZ hP hD hS hA [0] [1] rfl rfl rfl rfl rfl hl.1 rfl (Nat.le_of_ble_eq_true rfl) d_law_2718 ⟨Nat.le_of_ble_eq_true rfl, Nat.le_of_ble_eq_true rfl⟩ (fun u0 H locs hP hD hS => ?_)
  have hP : va_P z.1 classes [(a1, .inr (18, [.ref a15, .ref a16, .int 0, .ref a17, .int 0, .ref a18, .int 0, .null, .int 0, .null, .long 0, .int 0, .null])), (a0, .inr (11, [.ref a4, .ref a5, .ref a6, .ref a7, .ref a8, .ref a9, .ref a10, .ref a11, .ref a12, .ref a13, .int 0, .int 0, .ref a14, .int 0]))] H := hP
  have hD : va_D A [(a1, .inr (18, [.ref a15, .ref a16, .int 0, .ref a17, .int 0, .ref a18, .int 0, .null, .int 0, .null, .long 0, .int 0, .null])), (a0, .inr (11, [.ref a4, .ref a5, .ref a6, .ref a7, .ref a8, .ref a9, .ref a10, .ref a11, .ref a12, .ref a13, .int 0, .int 0, .ref a14, .int 0]))] := hD
  refine W.eq (g2 := F0 m 2721 ls [.int 1]) rfl ?_
  refine lv_istore (lv' := [(6, .int 1), (0, .ref b), (1, .ref a0), (2, .ref a1), (3, .ref a2), (4, .ref a3), (5, .int 0)]) hx hb d_law_2721 hl (by decide) rfl (fun ls hl => ?_)
  refine lv_aload_n hx hb d_law_2723 rfl (lv_at hl 3 rfl) ?_
  refine lv_aload_n hx hb d_law_2724 rfl (lv_at hl 1 rfl) ?_
  refine lv_iload hx hb d_law_2725 (lv_at hl 6 rfl) ?_
  refine lv_iconst (v := 1) hx hb d_law_2727 (by decide +kernel) ?_
  refine lv_iadd hx hb d_law_2728 ?_
  refine nrm (x1 := 1) (by decide +kernel) ?_
  refine va_sld hx hb hX hbl hbA hS (hin4 (i := 1) rfl) d_law_2729 ?_
  refine nrm (x1 := xs 1) rfl ?_
  refine kV (As := [.int (xs 1)]) (rest := []) (wr := [(a0, .inr (11, [.ref a4, .ref a5, .ref a6, .ref a7, .ref a8, .ref a9, .ref a10, .ref a11, .ref a12, .ref a13, .int 0, .int 0, .ref a14, .int 0]))]) (c623_BModel_setQuota l z a1 a15 a16 a17 a18 (xs 1) h0 h1) hx hb hml hown hts w_2473 w_2470 w_2471 w_2472 w_12 md_d1bd38 ⟨Nat.le_of_ble_eq_true rfl, Nat.le_of_ble_eq_true rfl⟩ hG hZ hP hD hS hA 0 rfl rfl rfl [0] [1] rfl rfl rfl rfl rfl hl.1 rfl (Nat.le_of_ble_eq_true rfl) d_law_2730 ⟨Nat.le_of_ble_eq_true rfl, Nat.le_of_ble_eq_true rfl⟩ (fun u1 H locs hP hD hS => ?_)
  have hP : va_P z.1 classes [(a0, .inr (11, [.ref a4, .ref a5, .ref a6, .ref a7, .ref a8, .ref a9, .ref a10, .ref a11, .ref a12, .ref a13, .int 0, .int 0, .ref a14, .int 0])), (a1, .inr (18, [.ref a15, .ref a16, .int 0, .ref a17, .int 0, .ref a18, .int 1, .null, .int 0, .null, .long 0, .int 0, .null]))] H := hP
  have hD : va_D A [(a0, .inr (11, [.ref a4, .ref a5, .ref a6, .ref a7, .ref a8, .ref a9, .ref a10, .ref a11, .ref a12, .ref a13, .int 0, .int 0, .ref a14, .int 0])), (a1, .inr (18, [.ref a15, .ref a16, .int 0, .ref a17, .int 0, .ref a18, .int 1, .null, .int 0, .null, .long 0, .int 0, .null]))] := hD
  refine W.eq (g2 := F0 m 2733 ls [.int 0]) rfl ?_
  refine lv_istore (lv' := [(7, .int 0), (6, .int 1), (0, .ref b), (1, .ref a0), (2, .ref a1), (3, .ref a2), (4, .ref a3), (5, .int 0)]) hx hb d_law_2733 hl (by decide) rfl (fun ls hl => ?_)
  refine lv_aload_n hx hb d_law_2735 rfl (lv_at hl 4 rfl) ?_
  refine kV (As := []) (rest := []) (wr := [(a0, .inr (11, [.ref a4, .ref a5, .ref a6, .ref a7, .ref a8, .ref a9, .ref a10, .ref a11, .ref a12, .ref a13, .int 0, .int 0, .ref a14, .int 0]))]) (c33_BModel_thrown l z a1 a15 a16 a17 a18) hx hb hml hown hts w_1688 w_1685 w_1686 w_1687 w_12 md_c48e0f ⟨Nat.le_of_ble_eq_true rfl, Nat.le_of_ble_eq_true rfl⟩ hG hZ hP hD hS hA 1 rfl rfl rfl [1] [0] rfl rfl rfl rfl rfl hl.1 rfl (Nat.le_of_ble_eq_true rfl) d_law_2736 ⟨Nat.le_of_ble_eq_true rfl, Nat.le_of_ble_eq_true rfl⟩ (fun u2 H locs hP hD hS => ?_)
  have hP : va_P z.1 classes [(a0, .inr (11, [.ref a4, .ref a5, .ref a6, .ref a7, .ref a8, .ref a9, .ref a10, .ref a11, .ref a12, .ref a13, .int 0, .int 0, .ref a14, .int 0])), (a1, .inr (18, [.ref a15, .ref a16, .int 0, .ref a17, .int 0, .ref a18, .int 1, .null, .int 0, .null, .long 0, .int 0, .null]))] H := hP
  have hD : va_D A [(a0, .inr (11, [.ref a4, .ref a5, .ref a6, .ref a7, .ref a8, .ref a9, .ref a10, .ref a11, .ref a12, .ref a13, .int 0, .int 0, .ref a14, .int 0])), (a1, .inr (18, [.ref a15, .ref a16, .int 0, .ref a17, .int 0, .ref a18, .int 1, .null, .int 0, .null, .long 0, .int 0, .null]))] := hD
  refine W.eq (g2 := F0 m 2739 ls [.int 1]) rfl ?_
  refine lv_iload hx hb d_law_2739 (lv_at hl 1 rfl) ?_
  refine lv_icmp_eq (tgt := 2746) hx hb d_law_2741 (by decide) (fun _ => ?_) (fun c9 => absurd (by decide +kernel) c9)
  refine lv_iload hx hb d_law_2746 (lv_at hl 1 rfl) ?_
  refine lv_if_ne (tgt := 2763) hx hb d_law_2748 (by decide) (fun _ => ?_) (fun c9 => absurd c9 (by decide +kernel))
  refine lv_goto (tgt := 3072) hx hb d_law_2763 (by decide) ?_
  refine W.widen (k := 600002) (n := 7302232) (Nat.le_of_ble_eq_true rfl) (Nat.le_of_ble_eq_true rfl) ?_
  exact ht H locs ls hS (lv_sub hl [2, 7] rfl)
set_option maxRecDepth 100000 in
set_option maxHeartbeats 4000000 in
theorem L45_2 (l : Launch) (hl0 : l.stackTraces = false) (z : Zz) {p : Program} {e : Env} {s : State} {m : MethodId} {below : List Frame} {meth : Method} {c : Code} {A : Nat → Prop} {b : Nat} {xs : Nat → Int32} {Q : State → Prop} (hx : p.tables.exec = Jvm.exec) (hb : c.code = code) (hml : c.maxLocals = 9) (hts : ∀ w ∈ WG, w.before #[Value.ref b] s = true) (hown : s.vm.findClass "BallothallLaw" = some m.cls) (hA : ∀ q, s.heap.size ≤ q → A q) (hG : KG z s) (hZ : XZ A s) (hX : va_X b 4 xs s s.heap) (hbl : b < s.heap.size) (hbA : ¬ A b) (ht : ∀ (H : Heap) (locs : List Loc) (ls : Array Slot), va_S A s.heap H locs → lv_has ls 9 [(0, .ref b), (5, .int 0)] → W p l e room_1 s m #[Value.ref b] below meth c H locs 600002 7302232 Q (F0 m 3072 ls [])) (a0 : Nat) (a1 : Nat) (a2 : Nat) (a3 : Nat) (a4 : Nat) (a5 : Nat) (a6 : Nat) (a7 : Nat) (a8 : Nat) (a9 : Nat) (a10 : Nat) (a11 : Nat) (a12 : Nat) (a13 : Nat) (a14 : Nat) (a15 : Nat) (a16 : Nat) (a17 : Nat) (a18 : Nat) (a19 : Nat) (a20 : Nat) (a21 : Nat) (a22 : Nat) (a23 : Nat) (a24 : Nat) (a25 : Nat) (a26 : Nat) (a27 : Nat) (a28 : Nat) (a29 : Nat) (h0 : ¬ (xs 1) < 1) (h1 : ¬ 12000 < (xs 1)) (H : Heap) (locs : List Loc) (ls : Array Slot) (hP : va_P z.1 classes [(a0, .inr (11, [.ref a4, .ref a5, .ref a6, .ref a7, .ref a8, .ref a9, .ref a10, .ref a11, .ref a12, .ref a13, .int 0, .int 0, .ref a14, .int 0])), (a10, .inr (1, [.int 0, .int 1, .ref a15, .ref a16])), (a11, .inl (z.2 0, 20, .inl (fun _ => 0))), (a12, .inl (z.2 0, 20, .inl (fun _ => 0))), (a13, .inl (z.2 0, 20, .inl (fun _ => 0))), (a2, .inl (z.2 1, 1, .inr (.inl (fun _ => 0)))), (a1, .inr (18, [.ref a17, .ref a18, .int 0, .ref a19, .int 0, .ref a20, .int 0, .null, .int 0, .null, .long 0, .int 0, .null])), (a17, .inr (17, [.int 0, .ref a21, .ref a22, .int 0, .ref a23, .ref a24, .ref a25, .null, .null, .int 0, .ref a26, .ref a27, .ref a28, .int 0, .ref a29, .int 1])), (a21, .inl (z.2 0, 8, .inl (fun _ => 0))), (a23, .inl (z.2 0, 8, .inl (fun _ => 0))), (a24, .inl (z.2 0, 8, .inl (fun _ => 0))), (a25, .inl (z.2 0, 8, .inl (fun _ => 0))), (a26, .inl (z.2 0, 16, .inl (fun _ => 0))), (a27, .inl (z.2 0, 16, .inl (fun _ => 0))), (a28, .inl (z.2 0, 16, .inl (fun _ => 0))), (a29, .inl (z.2 0, 12, .inl (fun _ => 0))), (a18, .inl (z.2 6, 20, .inr (.inr (.inr (.inr (fun _ => none))))))] H) (hD : va_D A [(a0, .inr (11, [.ref a4, .ref a5, .ref a6, .ref a7, .ref a8, .ref a9, .ref a10, .ref a11, .ref a12, .ref a13, .int 0, .int 0, .ref a14, .int 0])), (a10, .inr (1, [.int 0, .int 1, .ref a15, .ref a16])), (a11, .inl (z.2 0, 20, .inl (fun _ => 0))), (a12, .inl (z.2 0, 20, .inl (fun _ => 0))), (a13, .inl (z.2 0, 20, .inl (fun _ => 0))), (a2, .inl (z.2 1, 1, .inr (.inl (fun _ => 0)))), (a1, .inr (18, [.ref a17, .ref a18, .int 0, .ref a19, .int 0, .ref a20, .int 0, .null, .int 0, .null, .long 0, .int 0, .null])), (a17, .inr (17, [.int 0, .ref a21, .ref a22, .int 0, .ref a23, .ref a24, .ref a25, .null, .null, .int 0, .ref a26, .ref a27, .ref a28, .int 0, .ref a29, .int 1])), (a21, .inl (z.2 0, 8, .inl (fun _ => 0))), (a23, .inl (z.2 0, 8, .inl (fun _ => 0))), (a24, .inl (z.2 0, 8, .inl (fun _ => 0))), (a25, .inl (z.2 0, 8, .inl (fun _ => 0))), (a26, .inl (z.2 0, 16, .inl (fun _ => 0))), (a27, .inl (z.2 0, 16, .inl (fun _ => 0))), (a28, .inl (z.2 0, 16, .inl (fun _ => 0))), (a29, .inl (z.2 0, 12, .inl (fun _ => 0))), (a18, .inl (z.2 6, 20, .inr (.inr (.inr (.inr (fun _ => none))))))]) (hS : va_S A s.heap H locs) (hl : lv_has ls 9 [(0, .ref b), (1, .ref a0), (2, .ref a1), (3, .ref a2), (4, .ref a3), (5, .int 0)]) : W p l e room_1 s m #[Value.ref b] below meth c H locs 265 8866 Q (F0 m 44 ls [.int 45]) := by
  refine lv_tableIn (tgt := 2710) hx hb d_law_44 (by decide +kernel) (by decide +kernel) rfl (by decide) ?_
  refine lv_aload_n hx hb d_law_2710 rfl (lv_at hl 1 rfl) ?_
  refine lv_aload_n hx hb d_law_2711 rfl (lv_at hl 0 rfl) ?_
  refine lv_iload hx hb d_law_2712 (lv_at hl 5 rfl) ?_
  refine lv_iconst (v := 1) hx hb d_law_2714 (by decide +kernel) ?_
  refine lv_iadd hx hb d_law_2715 ?_
  refine nrm (x1 := 1) (by decide +kernel) ?_
  refine va_sld hx hb hX hbl hbA hS (hin4 (i := 1) rfl) d_law_2716 ?_
  refine nrm (x1 := xs 1) rfl ?_
  refine lv_aload_n hx hb d_law_2717 rfl (lv_at hl 3 rfl) ?_
  refine kH (As := [.ref a0, .int (xs 1), .ref a2]) (rest := []) (wr := [(a1, .inr (18, [.ref a17, .ref a18, .int 0, .ref a19, .int 0, .ref a20, .int 0, .null, .int 0, .null, .long 0, .int 0, .null])), (a17, .inr (17, [.int 0, .ref a21, .ref a22, .int 0, .ref a23, .ref a24, .ref a25, .null, .null, .int 0, .ref a26, .ref a27, .ref a28, .int 0, .ref a29, .int 1])), (a21, .inl (z.2 0, 8, .inl (fun _ => 0))), (a23, .inl (z.2 0, 8, .inl (fun _ => 0))), (a24, .inl (z.2 0, 8, .inl (fun _ => 0))), (a25, .inl (z.2 0, 8, .inl (fun _ => 0))), (a26, .inl (z.2 0, 16, .inl (fun _ => 0))), (a27, .inl (z.2 0, 16, .inl (fun _ => 0))), (a28, .inl (z.2 0, 16, .inl (fun _ => 0))), (a29, .inl (z.2 0, 12, .inl (fun _ => 0))), (a18, .inl (z.2 6, 20, .inr (.inr (.inr (.inr (fun _ => none))))))]) (c627_BLaw_setQuota l z a0 a2 a4 a5 a6 a7 a8 a9 a10 a11 a12 a13 a14 a15 a16 (xs 1) h0 h1) hx hb hml hown hts w_1526 w_1524 w_1525 w_0 md_2b5a81 ⟨Nat.le_of_ble_eq_true rfl, Nat.le_of_ble_eq_true rfl⟩ hG hZ hP hD hS hA [0, 1, 2, 3, 4, 5] [6, 7, 8, 9, 10, 11, 12, 13, 14, 15, 16] rfl rfl rfl rfl rfl hl.1 rfl (Nat.le_of_ble_eq_true rfl) d_law_2718 ⟨Nat.le_of_ble_eq_true rfl, Nat.le_of_ble_eq_true rfl⟩ (fun u0 H locs hP hD hS => ?_)
  have hP : va_P z.1 classes [(a1, .inr (18, [.ref a17, .ref a18, .int 0, .ref a19, .int 0, .ref a20, .int 0, .null, .int 0, .null, .long 0, .int 0, .null])), (a17, .inr (17, [.int 0, .ref a21, .ref a22, .int 0, .ref a23, .ref a24, .ref a25, .null, .null, .int 0, .ref a26, .ref a27, .ref a28, .int 0, .ref a29, .int 1])), (a21, .inl (z.2 0, 8, .inl (fun _ => 0))), (a23, .inl (z.2 0, 8, .inl (fun _ => 0))), (a24, .inl (z.2 0, 8, .inl (fun _ => 0))), (a25, .inl (z.2 0, 8, .inl (fun _ => 0))), (a26, .inl (z.2 0, 16, .inl (fun _ => 0))), (a27, .inl (z.2 0, 16, .inl (fun _ => 0))), (a28, .inl (z.2 0, 16, .inl (fun _ => 0))), (a29, .inl (z.2 0, 12, .inl (fun _ => 0))), (a18, .inl (z.2 6, 20, .inr (.inr (.inr (.inr (fun _ => none)))))), (a0, .inr (11, [.ref a4, .ref a5, .ref a6, .ref a7, .ref a8, .ref a9, .ref a10, .ref a11, .ref a12, .ref a13, .int 1, .int 1, .ref a14, .int 0])), (a10, .inr (1, [.int 0, .int (xs 1), .ref a15, .ref a16])), (a11, .inl (z.2 0, 20, .inl (upd (fun _ => 0) 1 12))), (a12, .inl (z.2 0, 20, .inl (fun _ => 0))), (a13, .inl (z.2 0, 20, .inl (upd (fun _ => 0) 1 1))), (a2, .inl (z.2 1, 1, .inr (.inl (vp_updL (fun _ => 0) 0 1))))] H := hP
  have hD : va_D A [(a1, .inr (18, [.ref a17, .ref a18, .int 0, .ref a19, .int 0, .ref a20, .int 0, .null, .int 0, .null, .long 0, .int 0, .null])), (a17, .inr (17, [.int 0, .ref a21, .ref a22, .int 0, .ref a23, .ref a24, .ref a25, .null, .null, .int 0, .ref a26, .ref a27, .ref a28, .int 0, .ref a29, .int 1])), (a21, .inl (z.2 0, 8, .inl (fun _ => 0))), (a23, .inl (z.2 0, 8, .inl (fun _ => 0))), (a24, .inl (z.2 0, 8, .inl (fun _ => 0))), (a25, .inl (z.2 0, 8, .inl (fun _ => 0))), (a26, .inl (z.2 0, 16, .inl (fun _ => 0))), (a27, .inl (z.2 0, 16, .inl (fun _ => 0))), (a28, .inl (z.2 0, 16, .inl (fun _ => 0))), (a29, .inl (z.2 0, 12, .inl (fun _ => 0))), (a18, .inl (z.2 6, 20, .inr (.inr (.inr (.inr (fun _ => none)))))), (a0, .inr (11, [.ref a4, .ref a5, .ref a6, .ref a7, .ref a8, .ref a9, .ref a10, .ref a11, .ref a12, .ref a13, .int 1, .int 1, .ref a14, .int 0])), (a10, .inr (1, [.int 0, .int (xs 1), .ref a15, .ref a16])), (a11, .inl (z.2 0, 20, .inl (upd (fun _ => 0) 1 12))), (a12, .inl (z.2 0, 20, .inl (fun _ => 0))), (a13, .inl (z.2 0, 20, .inl (upd (fun _ => 0) 1 1))), (a2, .inl (z.2 1, 1, .inr (.inl (vp_updL (fun _ => 0) 0 1))))] := hD
  refine W.eq (g2 := F0 m 2721 ls [.int 0]) rfl ?_
  refine lv_istore (lv' := [(6, .int 0), (0, .ref b), (1, .ref a0), (2, .ref a1), (3, .ref a2), (4, .ref a3), (5, .int 0)]) hx hb d_law_2721 hl (by decide) rfl (fun ls hl => ?_)
  refine lv_aload_n hx hb d_law_2723 rfl (lv_at hl 3 rfl) ?_
  refine lv_aload_n hx hb d_law_2724 rfl (lv_at hl 1 rfl) ?_
  refine lv_iload hx hb d_law_2725 (lv_at hl 6 rfl) ?_
  refine lv_iconst (v := 1) hx hb d_law_2727 (by decide +kernel) ?_
  refine lv_iadd hx hb d_law_2728 ?_
  refine nrm (x1 := 1) (by decide +kernel) ?_
  refine va_sld hx hb hX hbl hbA hS (hin4 (i := 1) rfl) d_law_2729 ?_
  refine nrm (x1 := xs 1) rfl ?_
  refine kV (As := [.int (xs 1)]) (rest := []) (wr := [(a0, .inr (11, [.ref a4, .ref a5, .ref a6, .ref a7, .ref a8, .ref a9, .ref a10, .ref a11, .ref a12, .ref a13, .int 1, .int 1, .ref a14, .int 0])), (a10, .inr (1, [.int 0, .int (xs 1), .ref a15, .ref a16])), (a11, .inl (z.2 0, 20, .inl (upd (fun _ => 0) 1 12))), (a12, .inl (z.2 0, 20, .inl (fun _ => 0))), (a13, .inl (z.2 0, 20, .inl (upd (fun _ => 0) 1 1))), (a2, .inl (z.2 1, 1, .inr (.inl (vp_updL (fun _ => 0) 0 1))))]) (c629_BModel_setQuota l z a1 a17 a18 a19 a20 a21 a22 a23 a24 a25 a26 a27 a28 a29 (xs 1) h0 h1) hx hb hml hown hts w_2473 w_2470 w_2471 w_2472 w_12 md_d1bd38 ⟨Nat.le_of_ble_eq_true rfl, Nat.le_of_ble_eq_true rfl⟩ hG hZ hP hD hS hA 0 rfl rfl rfl [0, 1, 2, 3, 4, 5, 6, 7, 8, 9, 10] [11, 12, 13, 14, 15, 16] rfl rfl rfl rfl rfl hl.1 rfl (Nat.le_of_ble_eq_true rfl) d_law_2730 ⟨Nat.le_of_ble_eq_true rfl, Nat.le_of_ble_eq_true rfl⟩ (fun u1 H locs hP hD hS => ?_)
  have hP : va_P z.1 classes [(a0, .inr (11, [.ref a4, .ref a5, .ref a6, .ref a7, .ref a8, .ref a9, .ref a10, .ref a11, .ref a12, .ref a13, .int 1, .int 1, .ref a14, .int 0])), (a10, .inr (1, [.int 0, .int (xs 1), .ref a15, .ref a16])), (a11, .inl (z.2 0, 20, .inl (upd (fun _ => 0) 1 12))), (a12, .inl (z.2 0, 20, .inl (fun _ => 0))), (a13, .inl (z.2 0, 20, .inl (upd (fun _ => 0) 1 1))), (a2, .inl (z.2 1, 1, .inr (.inl (vp_updL (fun _ => 0) 0 1)))), (a1, .inr (18, [.ref a17, .ref a18, .int 1, .ref a19, .int 0, .ref a20, .int 0, .null, .int 0, .null, .long 0, .int 0, .null])), (a17, .inr (17, [.int 0, .ref a21, .ref a22, .int 0, .ref a23, .ref a24, .ref a25, .null, .null, .int 0, .ref a26, .ref a27, .ref a28, .int 0, .ref a29, .int (xs 1)])), (a21, .inl (z.2 0, 8, .inl (fun _ => 0))), (a23, .inl (z.2 0, 8, .inl (fun _ => 0))), (a24, .inl (z.2 0, 8, .inl (fun _ => 0))), (a25, .inl (z.2 0, 8, .inl (fun _ => 0))), (a26, .inl (z.2 0, 16, .inl (fun _ => 0))), (a27, .inl (z.2 0, 16, .inl (fun _ => 0))), (a28, .inl (z.2 0, 16, .inl (fun _ => 0))), (a29, .inl (z.2 0, 12, .inl (fun _ => 0))), (a18, .inl (z.2 6, 20, .inr (.inr (.inr (.inr (va_up (fun _ => none) 0 (some (u1.1 0))))))))] H := hP
  have hD : va_D A [(a0, .inr (11, [.ref a4, .ref a5, .ref a6, .ref a7, .ref a8, .ref a9, .ref a10, .ref a11, .ref a12, .ref a13, .int 1, .int 1, .ref a14, .int 0])), (a10, .inr (1, [.int 0, .int (xs 1), .ref a15, .ref a16])), (a11, .inl (z.2 0, 20, .inl (upd (fun _ => 0) 1 12))), (a12, .inl (z.2 0, 20, .inl (fun _ => 0))), (a13, .inl (z.2 0, 20, .inl (upd (fun _ => 0) 1 1))), (a2, .inl (z.2 1, 1, .inr (.inl (vp_updL (fun _ => 0) 0 1)))), (a1, .inr (18, [.ref a17, .ref a18, .int 1, .ref a19, .int 0, .ref a20, .int 0, .null, .int 0, .null, .long 0, .int 0, .null])), (a17, .inr (17, [.int 0, .ref a21, .ref a22, .int 0, .ref a23, .ref a24, .ref a25, .null, .null, .int 0, .ref a26, .ref a27, .ref a28, .int 0, .ref a29, .int (xs 1)])), (a21, .inl (z.2 0, 8, .inl (fun _ => 0))), (a23, .inl (z.2 0, 8, .inl (fun _ => 0))), (a24, .inl (z.2 0, 8, .inl (fun _ => 0))), (a25, .inl (z.2 0, 8, .inl (fun _ => 0))), (a26, .inl (z.2 0, 16, .inl (fun _ => 0))), (a27, .inl (z.2 0, 16, .inl (fun _ => 0))), (a28, .inl (z.2 0, 16, .inl (fun _ => 0))), (a29, .inl (z.2 0, 12, .inl (fun _ => 0))), (a18, .inl (z.2 6, 20, .inr (.inr (.inr (.inr (va_up (fun _ => none) 0 (some (u1.1 0))))))))] := hD
  refine W.eq (g2 := F0 m 2733 ls [.int 1]) rfl ?_
  refine lv_istore (lv' := [(7, .int 1), (6, .int 0), (0, .ref b), (1, .ref a0), (2, .ref a1), (3, .ref a2), (4, .ref a3), (5, .int 0)]) hx hb d_law_2733 hl (by decide) rfl (fun ls hl => ?_)
  refine lv_aload_n hx hb d_law_2735 rfl (lv_at hl 4 rfl) ?_
  refine kV (As := []) (rest := []) (wr := [(a0, .inr (11, [.ref a4, .ref a5, .ref a6, .ref a7, .ref a8, .ref a9, .ref a10, .ref a11, .ref a12, .ref a13, .int 1, .int 1, .ref a14, .int 0])), (a10, .inr (1, [.int 0, .int (xs 1), .ref a15, .ref a16])), (a11, .inl (z.2 0, 20, .inl (upd (fun _ => 0) 1 12))), (a12, .inl (z.2 0, 20, .inl (fun _ => 0))), (a13, .inl (z.2 0, 20, .inl (upd (fun _ => 0) 1 1))), (a2, .inl (z.2 1, 1, .inr (.inl (vp_updL (fun _ => 0) 0 1)))), (a17, .inr (17, [.int 0, .ref a21, .ref a22, .int 0, .ref a23, .ref a24, .ref a25, .null, .null, .int 0, .ref a26, .ref a27, .ref a28, .int 0, .ref a29, .int (xs 1)])), (a21, .inl (z.2 0, 8, .inl (fun _ => 0))), (a23, .inl (z.2 0, 8, .inl (fun _ => 0))), (a24, .inl (z.2 0, 8, .inl (fun _ => 0))), (a25, .inl (z.2 0, 8, .inl (fun _ => 0))), (a26, .inl (z.2 0, 16, .inl (fun _ => 0))), (a27, .inl (z.2 0, 16, .inl (fun _ => 0))), (a28, .inl (z.2 0, 16, .inl (fun _ => 0))), (a29, .inl (z.2 0, 12, .inl (fun _ => 0))), (a18, .inl (z.2 6, 20, .inr (.inr (.inr (.inr (va_up (fun _ => none) 0 (some (u1.1 0))))))))]) (c25_BModel_thrown l z a1 a17 a18 a19 a20) hx hb hml hown hts w_1688 w_1685 w_1686 w_1687 w_12 md_c48e0f ⟨Nat.le_of_ble_eq_true rfl, Nat.le_of_ble_eq_true rfl⟩ hG hZ hP hD hS hA 6 rfl rfl rfl [6] [0, 1, 2, 3, 4, 5, 7, 8, 9, 10, 11, 12, 13, 14, 15, 16] rfl rfl rfl rfl rfl hl.1 rfl (Nat.le_of_ble_eq_true rfl) d_law_2736 ⟨Nat.le_of_ble_eq_true rfl, Nat.le_of_ble_eq_true rfl⟩ (fun u2 H locs hP hD hS => ?_)
  have hP : va_P z.1 classes [(a0, .inr (11, [.ref a4, .ref a5, .ref a6, .ref a7, .ref a8, .ref a9, .ref a10, .ref a11, .ref a12, .ref a13, .int 1, .int 1, .ref a14, .int 0])), (a10, .inr (1, [.int 0, .int (xs 1), .ref a15, .ref a16])), (a11, .inl (z.2 0, 20, .inl (upd (fun _ => 0) 1 12))), (a12, .inl (z.2 0, 20, .inl (fun _ => 0))), (a13, .inl (z.2 0, 20, .inl (upd (fun _ => 0) 1 1))), (a2, .inl (z.2 1, 1, .inr (.inl (vp_updL (fun _ => 0) 0 1)))), (a17, .inr (17, [.int 0, .ref a21, .ref a22, .int 0, .ref a23, .ref a24, .ref a25, .null, .null, .int 0, .ref a26, .ref a27, .ref a28, .int 0, .ref a29, .int (xs 1)])), (a21, .inl (z.2 0, 8, .inl (fun _ => 0))), (a23, .inl (z.2 0, 8, .inl (fun _ => 0))), (a24, .inl (z.2 0, 8, .inl (fun _ => 0))), (a25, .inl (z.2 0, 8, .inl (fun _ => 0))), (a26, .inl (z.2 0, 16, .inl (fun _ => 0))), (a27, .inl (z.2 0, 16, .inl (fun _ => 0))), (a28, .inl (z.2 0, 16, .inl (fun _ => 0))), (a29, .inl (z.2 0, 12, .inl (fun _ => 0))), (a18, .inl (z.2 6, 20, .inr (.inr (.inr (.inr (va_up (fun _ => none) 0 (some (u1.1 0)))))))), (a1, .inr (18, [.ref a17, .ref a18, .int 1, .ref a19, .int 0, .ref a20, .int 0, .null, .int 0, .null, .long 0, .int 0, .null]))] H := hP
  have hD : va_D A [(a0, .inr (11, [.ref a4, .ref a5, .ref a6, .ref a7, .ref a8, .ref a9, .ref a10, .ref a11, .ref a12, .ref a13, .int 1, .int 1, .ref a14, .int 0])), (a10, .inr (1, [.int 0, .int (xs 1), .ref a15, .ref a16])), (a11, .inl (z.2 0, 20, .inl (upd (fun _ => 0) 1 12))), (a12, .inl (z.2 0, 20, .inl (fun _ => 0))), (a13, .inl (z.2 0, 20, .inl (upd (fun _ => 0) 1 1))), (a2, .inl (z.2 1, 1, .inr (.inl (vp_updL (fun _ => 0) 0 1)))), (a17, .inr (17, [.int 0, .ref a21, .ref a22, .int 0, .ref a23, .ref a24, .ref a25, .null, .null, .int 0, .ref a26, .ref a27, .ref a28, .int 0, .ref a29, .int (xs 1)])), (a21, .inl (z.2 0, 8, .inl (fun _ => 0))), (a23, .inl (z.2 0, 8, .inl (fun _ => 0))), (a24, .inl (z.2 0, 8, .inl (fun _ => 0))), (a25, .inl (z.2 0, 8, .inl (fun _ => 0))), (a26, .inl (z.2 0, 16, .inl (fun _ => 0))), (a27, .inl (z.2 0, 16, .inl (fun _ => 0))), (a28, .inl (z.2 0, 16, .inl (fun _ => 0))), (a29, .inl (z.2 0, 12, .inl (fun _ => 0))), (a18, .inl (z.2 6, 20, .inr (.inr (.inr (.inr (va_up (fun _ => none) 0 (some (u1.1 0)))))))), (a1, .inr (18, [.ref a17, .ref a18, .int 1, .ref a19, .int 0, .ref a20, .int 0, .null, .int 0, .null, .long 0, .int 0, .null]))] := hD
  refine W.eq (g2 := F0 m 2739 ls [.int 0]) rfl ?_
  refine lv_iload hx hb d_law_2739 (lv_at hl 1 rfl) ?_
  refine lv_icmp_eq (tgt := 2746) hx hb d_law_2741 (by decide) (fun _ => ?_) (fun c9 => absurd (by decide +kernel) c9)
  refine lv_iload hx hb d_law_2746 (lv_at hl 1 rfl) ?_
  refine lv_if_ne (tgt := 2763) hx hb d_law_2748 (by decide) (fun c9 => absurd (by decide +kernel) c9) (fun _ => ?_)
  refine lv_aload_n hx hb d_law_2751 rfl (lv_at hl 5 rfl) ?_
  refine lv_iconst (v := 0) hx hb d_law_2752 (by decide +kernel) ?_
  refine va_lald hx hb hG.1 hP 5 1 rfl rfl (vin rfl) d_law_2753 ?_
  refine nrmL (x1 := 1) rfl ?_
  refine lv_iload hx hb d_law_2754 (lv_at hl 0 rfl) ?_
  refine lv_i2l (v := 1) hx hb d_law_2756 (by decide +kernel) ?_
  refine W.lcmp hx hb d_law_2757 ?_
  refine nrm (x1 := 0) (by decide +kernel) ?_
  refine lv_if_eq (tgt := 2763) hx hb d_law_2758 (by decide) (fun _ => ?_) (fun c9 => absurd (by decide +kernel) c9)
  refine lv_goto (tgt := 3072) hx hb d_law_2763 (by decide) ?_
  refine W.widen (k := 600002) (n := 7302232) (Nat.le_of_ble_eq_true rfl) (Nat.le_of_ble_eq_true rfl) ?_
  exact ht H locs ls hS (lv_sub hl [2, 7] rfl)
set_option maxRecDepth 100000 in
set_option maxHeartbeats 4000000 in
theorem L46_0 (l : Launch) (hl0 : l.stackTraces = false) (z : Zz) {p : Program} {e : Env} {s : State} {m : MethodId} {below : List Frame} {meth : Method} {c : Code} {A : Nat → Prop} {b : Nat} {xs : Nat → Int32} {Q : State → Prop} (hx : p.tables.exec = Jvm.exec) (hb : c.code = code) (hml : c.maxLocals = 9) (hts : ∀ w ∈ WG, w.before #[Value.ref b] s = true) (hown : s.vm.findClass "BallothallLaw" = some m.cls) (hA : ∀ q, s.heap.size ≤ q → A q) (hG : KG z s) (hZ : XZ A s) (hX : va_X b 4 xs s s.heap) (hbl : b < s.heap.size) (hbA : ¬ A b) (ht : ∀ (H : Heap) (locs : List Loc) (ls : Array Slot), va_S A s.heap H locs → lv_has ls 9 [(0, .ref b), (5, .int 0)] → W p l e room_1 s m #[Value.ref b] below meth c H locs 600002 7302232 Q (F0 m 3072 ls [])) (a0 : Nat) (a1 : Nat) (a2 : Nat) (a3 : Nat) (a4 : Nat) (a5 : Nat) (a6 : Nat) (a7 : Nat) (a8 : Nat) (a9 : Nat) (a10 : Nat) (a11 : Nat) (a12 : Nat) (a13 : Nat) (a14 : Nat) (a15 : Nat) (a16 : Nat) (a17 : Nat) (a18 : Nat) (a19 : Nat) (a20 : Nat) (a21 : Nat) (a22 : Nat) (a23 : Nat) (a24 : Nat) (a25 : Nat) (a26 : Nat) (a27 : Nat) (a28 : Nat) (a29 : Nat) (h0 : (xs 1) < 0) (H : Heap) (locs : List Loc) (ls : Array Slot) (hP : va_P z.1 classes [(a0, .inr (11, [.ref a4, .ref a5, .ref a6, .ref a7, .ref a8, .ref a9, .ref a10, .ref a11, .ref a12, .ref a13, .int 0, .int 0, .ref a14, .int 0])), (a10, .inr (1, [.int 0, .int 1, .ref a15, .ref a16])), (a1, .inr (18, [.ref a17, .ref a18, .int 0, .ref a19, .int 0, .ref a20, .int 0, .null, .int 0, .null, .long 0, .int 0, .null])), (a17, .inr (17, [.int 0, .ref a21, .ref a22, .int 0, .ref a23, .ref a24, .ref a25, .null, .null, .int 0, .ref a26, .ref a27, .ref a28, .int 0, .ref a29, .int 1]))] H) (hD : va_D A [(a0, .inr (11, [.ref a4, .ref a5, .ref a6, .ref a7, .ref a8, .ref a9, .ref a10, .ref a11, .ref a12, .ref a13, .int 0, .int 0, .ref a14, .int 0])), (a10, .inr (1, [.int 0, .int 1, .ref a15, .ref a16])), (a1, .inr (18, [.ref a17, .ref a18, .int 0, .ref a19, .int 0, .ref a20, .int 0, .null, .int 0, .null, .long 0, .int 0, .null])), (a17, .inr (17, [.int 0, .ref a21, .ref a22, .int 0, .ref a23, .ref a24, .ref a25, .null, .null, .int 0, .ref a26, .ref a27, .ref a28, .int 0, .ref a29, .int 1]))]) (hS : va_S A s.heap H locs) (hl : lv_has ls 9 [(0, .ref b), (1, .ref a0), (2, .ref a1), (3, .ref a2), (4, .ref a3), (5, .int 0)]) : W p l e room_1 s m #[Value.ref b] below meth c H locs 265 8866 Q (F0 m 44 ls [.int 46]) := by
  refine lv_tableIn (tgt := 2766) hx hb d_law_44 (by decide +kernel) (by decide +kernel) rfl (by decide) ?_
  refine lv_aload_n hx hb d_law_2766 rfl (lv_at hl 1 rfl) ?_
  refine lv_aload_n hx hb d_law_2767 rfl (lv_at hl 0 rfl) ?_
  refine lv_iload hx hb d_law_2768 (lv_at hl 5 rfl) ?_
  refine lv_iconst (v := 1) hx hb d_law_2770 (by decide +kernel) ?_
  refine lv_iadd hx hb d_law_2771 ?_
  refine nrm (x1 := 1) (by decide +kernel) ?_
  refine va_sld hx hb hX hbl hbA hS (hin4 (i := 1) rfl) d_law_2772 ?_
  refine nrm (x1 := xs 1) rfl ?_
  refine lv_aload_n hx hb d_law_2773 rfl (lv_at hl 3 rfl) ?_
  refine kH (As := [.ref a0, .int (xs 1), .ref a2]) (rest := []) (wr := [(a1, .inr (18, [.ref a17, .ref a18, .int 0, .ref a19, .int 0, .ref a20, .int 0, .null, .int 0, .null, .long 0, .int 0, .null])), (a17, .inr (17, [.int 0, .ref a21, .ref a22, .int 0, .ref a23, .ref a24, .ref a25, .null, .null, .int 0, .ref a26, .ref a27, .ref a28, .int 0, .ref a29, .int 1]))]) (c631_BLaw_swings l z hl0 a0 a2 a4 a5 a6 a7 a8 a9 a10 a11 a12 a13 a14 a15 a16 (xs 1) h0) hx hb hml hown hts w_1533 w_1531 w_1532 w_0 md_00f02f ⟨Nat.le_of_ble_eq_true rfl, Nat.le_of_ble_eq_true rfl⟩ hG hZ hP hD hS hA [0, 1] [2, 3] rfl rfl rfl rfl rfl hl.1 rfl (Nat.le_of_ble_eq_true rfl) d_law_2774 ⟨Nat.le_of_ble_eq_true rfl, Nat.le_of_ble_eq_true rfl⟩ (fun u0 H locs hP hD hS => ?_)
  have hP : va_P z.1 classes [(a1, .inr (18, [.ref a17, .ref a18, .int 0, .ref a19, .int 0, .ref a20, .int 0, .null, .int 0, .null, .long 0, .int 0, .null])), (a17, .inr (17, [.int 0, .ref a21, .ref a22, .int 0, .ref a23, .ref a24, .ref a25, .null, .null, .int 0, .ref a26, .ref a27, .ref a28, .int 0, .ref a29, .int 1]))] H := hP
  have hD : va_D A [(a1, .inr (18, [.ref a17, .ref a18, .int 0, .ref a19, .int 0, .ref a20, .int 0, .null, .int 0, .null, .long 0, .int 0, .null])), (a17, .inr (17, [.int 0, .ref a21, .ref a22, .int 0, .ref a23, .ref a24, .ref a25, .null, .null, .int 0, .ref a26, .ref a27, .ref a28, .int 0, .ref a29, .int 1]))] := hD
  refine W.eq (g2 := F0 m 2777 ls [.int 1]) rfl ?_
  refine lv_istore (lv' := [(6, .int 1), (0, .ref b), (1, .ref a0), (2, .ref a1), (3, .ref a2), (4, .ref a3), (5, .int 0)]) hx hb d_law_2777 hl (by decide) rfl (fun ls hl => ?_)
  refine lv_aload_n hx hb d_law_2779 rfl (lv_at hl 3 rfl) ?_
  refine lv_aload_n hx hb d_law_2780 rfl (lv_at hl 1 rfl) ?_
  refine lv_iload hx hb d_law_2781 (lv_at hl 6 rfl) ?_
  refine lv_iconst (v := 1) hx hb d_law_2783 (by decide +kernel) ?_
  refine lv_iadd hx hb d_law_2784 ?_
  refine nrm (x1 := 1) (by decide +kernel) ?_
  refine va_sld hx hb hX hbl hbA hS (hin4 (i := 1) rfl) d_law_2785 ?_
  refine nrm (x1 := xs 1) rfl ?_
  refine kV (As := [.int (xs 1)]) (rest := []) (wr := []) (c632_BModel_swings l z a1 a17 a18 a19 a20 a21 a22 a23 a24 a25 a26 a27 a28 a29 (xs 1) h0) hx hb hml hown hts w_2477 w_2474 w_2475 w_2476 w_12 md_719505 ⟨Nat.le_of_ble_eq_true rfl, Nat.le_of_ble_eq_true rfl⟩ hG hZ hP hD hS hA 0 rfl rfl rfl [0, 1] [] rfl rfl rfl rfl rfl hl.1 rfl (Nat.le_of_ble_eq_true rfl) d_law_2786 ⟨Nat.le_of_ble_eq_true rfl, Nat.le_of_ble_eq_true rfl⟩ (fun u1 H locs hP hD hS => ?_)
  have hP : va_P z.1 classes [(a1, .inr (18, [.ref a17, .ref a18, .int 0, .ref a19, .int 0, .ref a20, .int 1, .null, .int 0, .null, .long 0, .int 0, .null])), (a17, .inr (17, [.int 0, .ref a21, .ref a22, .int 0, .ref a23, .ref a24, .ref a25, .null, .null, .int 0, .ref a26, .ref a27, .ref a28, .int 0, .ref a29, .int 1]))] H := hP
  have hD : va_D A [(a1, .inr (18, [.ref a17, .ref a18, .int 0, .ref a19, .int 0, .ref a20, .int 1, .null, .int 0, .null, .long 0, .int 0, .null])), (a17, .inr (17, [.int 0, .ref a21, .ref a22, .int 0, .ref a23, .ref a24, .ref a25, .null, .null, .int 0, .ref a26, .ref a27, .ref a28, .int 0, .ref a29, .int 1]))] := hD
  refine W.eq (g2 := F0 m 2789 ls [.int 0]) rfl ?_
  refine lv_istore (lv' := [(7, .int 0), (6, .int 1), (0, .ref b), (1, .ref a0), (2, .ref a1), (3, .ref a2), (4, .ref a3), (5, .int 0)]) hx hb d_law_2789 hl (by decide) rfl (fun ls hl => ?_)
  refine lv_aload_n hx hb d_law_2791 rfl (lv_at hl 4 rfl) ?_
  refine kV (As := []) (rest := []) (wr := [(a17, .inr (17, [.int 0, .ref a21, .ref a22, .int 0, .ref a23, .ref a24, .ref a25, .null, .null, .int 0, .ref a26, .ref a27, .ref a28, .int 0, .ref a29, .int 1]))]) (c33_BModel_thrown l z a1 a17 a18 a19 a20) hx hb hml hown hts w_1688 w_1685 w_1686 w_1687 w_12 md_c48e0f ⟨Nat.le_of_ble_eq_true rfl, Nat.le_of_ble_eq_true rfl⟩ hG hZ hP hD hS hA 0 rfl rfl rfl [0] [1] rfl rfl rfl rfl rfl hl.1 rfl (Nat.le_of_ble_eq_true rfl) d_law_2792 ⟨Nat.le_of_ble_eq_true rfl, Nat.le_of_ble_eq_true rfl⟩ (fun u2 H locs hP hD hS => ?_)
  have hP : va_P z.1 classes [(a17, .inr (17, [.int 0, .ref a21, .ref a22, .int 0, .ref a23, .ref a24, .ref a25, .null, .null, .int 0, .ref a26, .ref a27, .ref a28, .int 0, .ref a29, .int 1])), (a1, .inr (18, [.ref a17, .ref a18, .int 0, .ref a19, .int 0, .ref a20, .int 1, .null, .int 0, .null, .long 0, .int 0, .null]))] H := hP
  have hD : va_D A [(a17, .inr (17, [.int 0, .ref a21, .ref a22, .int 0, .ref a23, .ref a24, .ref a25, .null, .null, .int 0, .ref a26, .ref a27, .ref a28, .int 0, .ref a29, .int 1])), (a1, .inr (18, [.ref a17, .ref a18, .int 0, .ref a19, .int 0, .ref a20, .int 1, .null, .int 0, .null, .long 0, .int 0, .null]))] := hD
  refine W.eq (g2 := F0 m 2795 ls [.int 1]) rfl ?_
  refine lv_iload hx hb d_law_2795 (lv_at hl 1 rfl) ?_
  refine lv_icmp_eq (tgt := 2802) hx hb d_law_2797 (by decide) (fun _ => ?_) (fun c9 => absurd (by decide +kernel) c9)
  refine lv_iload hx hb d_law_2802 (lv_at hl 1 rfl) ?_
  refine lv_if_ne (tgt := 2819) hx hb d_law_2804 (by decide) (fun _ => ?_) (fun c9 => absurd c9 (by decide +kernel))
  refine lv_goto (tgt := 3072) hx hb d_law_2819 (by decide) ?_
  refine W.widen (k := 600002) (n := 7302232) (Nat.le_of_ble_eq_true rfl) (Nat.le_of_ble_eq_true rfl) ?_
  exact ht H locs ls hS (lv_sub hl [2, 7] rfl)
set_option maxRecDepth 100000 in
set_option maxHeartbeats 4000000 in
theorem L46_1 (l : Launch) (hl0 : l.stackTraces = false) (z : Zz) {p : Program} {e : Env} {s : State} {m : MethodId} {below : List Frame} {meth : Method} {c : Code} {A : Nat → Prop} {b : Nat} {xs : Nat → Int32} {Q : State → Prop} (hx : p.tables.exec = Jvm.exec) (hb : c.code = code) (hml : c.maxLocals = 9) (hts : ∀ w ∈ WG, w.before #[Value.ref b] s = true) (hown : s.vm.findClass "BallothallLaw" = some m.cls) (hA : ∀ q, s.heap.size ≤ q → A q) (hG : KG z s) (hZ : XZ A s) (hX : va_X b 4 xs s s.heap) (hbl : b < s.heap.size) (hbA : ¬ A b) (ht : ∀ (H : Heap) (locs : List Loc) (ls : Array Slot), va_S A s.heap H locs → lv_has ls 9 [(0, .ref b), (5, .int 0)] → W p l e room_1 s m #[Value.ref b] below meth c H locs 600002 7302232 Q (F0 m 3072 ls [])) (a0 : Nat) (a1 : Nat) (a2 : Nat) (a3 : Nat) (a4 : Nat) (a5 : Nat) (a6 : Nat) (a7 : Nat) (a8 : Nat) (a9 : Nat) (a10 : Nat) (a11 : Nat) (a12 : Nat) (a13 : Nat) (a14 : Nat) (a15 : Nat) (a16 : Nat) (a17 : Nat) (a18 : Nat) (a19 : Nat) (a20 : Nat) (a21 : Nat) (a22 : Nat) (a23 : Nat) (a24 : Nat) (a25 : Nat) (a26 : Nat) (a27 : Nat) (a28 : Nat) (a29 : Nat) (h0 : ¬ (xs 1) < 0) (h1 : (-1) < (xs 1)) (H : Heap) (locs : List Loc) (ls : Array Slot) (hP : va_P z.1 classes [(a0, .inr (11, [.ref a4, .ref a5, .ref a6, .ref a7, .ref a8, .ref a9, .ref a10, .ref a11, .ref a12, .ref a13, .int 0, .int 0, .ref a14, .int 0])), (a10, .inr (1, [.int 0, .int 1, .ref a15, .ref a16])), (a1, .inr (18, [.ref a17, .ref a18, .int 0, .ref a19, .int 0, .ref a20, .int 0, .null, .int 0, .null, .long 0, .int 0, .null])), (a17, .inr (17, [.int 0, .ref a21, .ref a22, .int 0, .ref a23, .ref a24, .ref a25, .null, .null, .int 0, .ref a26, .ref a27, .ref a28, .int 0, .ref a29, .int 1]))] H) (hD : va_D A [(a0, .inr (11, [.ref a4, .ref a5, .ref a6, .ref a7, .ref a8, .ref a9, .ref a10, .ref a11, .ref a12, .ref a13, .int 0, .int 0, .ref a14, .int 0])), (a10, .inr (1, [.int 0, .int 1, .ref a15, .ref a16])), (a1, .inr (18, [.ref a17, .ref a18, .int 0, .ref a19, .int 0, .ref a20, .int 0, .null, .int 0, .null, .long 0, .int 0, .null])), (a17, .inr (17, [.int 0, .ref a21, .ref a22, .int 0, .ref a23, .ref a24, .ref a25, .null, .null, .int 0, .ref a26, .ref a27, .ref a28, .int 0, .ref a29, .int 1]))]) (hS : va_S A s.heap H locs) (hl : lv_has ls 9 [(0, .ref b), (1, .ref a0), (2, .ref a1), (3, .ref a2), (4, .ref a3), (5, .int 0)]) : W p l e room_1 s m #[Value.ref b] below meth c H locs 265 8866 Q (F0 m 44 ls [.int 46]) := by
  refine lv_tableIn (tgt := 2766) hx hb d_law_44 (by decide +kernel) (by decide +kernel) rfl (by decide) ?_
  refine lv_aload_n hx hb d_law_2766 rfl (lv_at hl 1 rfl) ?_
  refine lv_aload_n hx hb d_law_2767 rfl (lv_at hl 0 rfl) ?_
  refine lv_iload hx hb d_law_2768 (lv_at hl 5 rfl) ?_
  refine lv_iconst (v := 1) hx hb d_law_2770 (by decide +kernel) ?_
  refine lv_iadd hx hb d_law_2771 ?_
  refine nrm (x1 := 1) (by decide +kernel) ?_
  refine va_sld hx hb hX hbl hbA hS (hin4 (i := 1) rfl) d_law_2772 ?_
  refine nrm (x1 := xs 1) rfl ?_
  refine lv_aload_n hx hb d_law_2773 rfl (lv_at hl 3 rfl) ?_
  refine kH (As := [.ref a0, .int (xs 1), .ref a2]) (rest := []) (wr := [(a1, .inr (18, [.ref a17, .ref a18, .int 0, .ref a19, .int 0, .ref a20, .int 0, .null, .int 0, .null, .long 0, .int 0, .null])), (a17, .inr (17, [.int 0, .ref a21, .ref a22, .int 0, .ref a23, .ref a24, .ref a25, .null, .null, .int 0, .ref a26, .ref a27, .ref a28, .int 0, .ref a29, .int 1]))]) (c634_BLaw_swings l z hl0 a0 a2 a4 a5 a6 a7 a8 a9 a10 a11 a12 a13 a14 a15 a16 (xs 1) h0) hx hb hml hown hts w_1533 w_1531 w_1532 w_0 md_00f02f ⟨Nat.le_of_ble_eq_true rfl, Nat.le_of_ble_eq_true rfl⟩ hG hZ hP hD hS hA [0, 1] [2, 3] rfl rfl rfl rfl rfl hl.1 rfl (Nat.le_of_ble_eq_true rfl) d_law_2774 ⟨Nat.le_of_ble_eq_true rfl, Nat.le_of_ble_eq_true rfl⟩ (fun u0 H locs hP hD hS => ?_)
  have hP : va_P z.1 classes [(a1, .inr (18, [.ref a17, .ref a18, .int 0, .ref a19, .int 0, .ref a20, .int 0, .null, .int 0, .null, .long 0, .int 0, .null])), (a17, .inr (17, [.int 0, .ref a21, .ref a22, .int 0, .ref a23, .ref a24, .ref a25, .null, .null, .int 0, .ref a26, .ref a27, .ref a28, .int 0, .ref a29, .int 1]))] H := hP
  have hD : va_D A [(a1, .inr (18, [.ref a17, .ref a18, .int 0, .ref a19, .int 0, .ref a20, .int 0, .null, .int 0, .null, .long 0, .int 0, .null])), (a17, .inr (17, [.int 0, .ref a21, .ref a22, .int 0, .ref a23, .ref a24, .ref a25, .null, .null, .int 0, .ref a26, .ref a27, .ref a28, .int 0, .ref a29, .int 1]))] := hD
  refine W.eq (g2 := F0 m 2777 ls [.int 1]) rfl ?_
  refine lv_istore (lv' := [(6, .int 1), (0, .ref b), (1, .ref a0), (2, .ref a1), (3, .ref a2), (4, .ref a3), (5, .int 0)]) hx hb d_law_2777 hl (by decide) rfl (fun ls hl => ?_)
  refine lv_aload_n hx hb d_law_2779 rfl (lv_at hl 3 rfl) ?_
  refine lv_aload_n hx hb d_law_2780 rfl (lv_at hl 1 rfl) ?_
  refine lv_iload hx hb d_law_2781 (lv_at hl 6 rfl) ?_
  refine lv_iconst (v := 1) hx hb d_law_2783 (by decide +kernel) ?_
  refine lv_iadd hx hb d_law_2784 ?_
  refine nrm (x1 := 1) (by decide +kernel) ?_
  refine va_sld hx hb hX hbl hbA hS (hin4 (i := 1) rfl) d_law_2785 ?_
  refine nrm (x1 := xs 1) rfl ?_
  refine kV (As := [.int (xs 1)]) (rest := []) (wr := []) (c635_BModel_swings l z a1 a17 a18 a19 a20 a21 a22 a23 a24 a25 a26 a27 a28 a29 (xs 1) h0 h1) hx hb hml hown hts w_2477 w_2474 w_2475 w_2476 w_12 md_719505 ⟨Nat.le_of_ble_eq_true rfl, Nat.le_of_ble_eq_true rfl⟩ hG hZ hP hD hS hA 0 rfl rfl rfl [0, 1] [] rfl rfl rfl rfl rfl hl.1 rfl (Nat.le_of_ble_eq_true rfl) d_law_2786 ⟨Nat.le_of_ble_eq_true rfl, Nat.le_of_ble_eq_true rfl⟩ (fun u1 H locs hP hD hS => ?_)
  have hP : va_P z.1 classes [(a1, .inr (18, [.ref a17, .ref a18, .int 0, .ref a19, .int 0, .ref a20, .int 1, .null, .int 0, .null, .long 0, .int 0, .null])), (a17, .inr (17, [.int 0, .ref a21, .ref a22, .int 0, .ref a23, .ref a24, .ref a25, .null, .null, .int 0, .ref a26, .ref a27, .ref a28, .int 0, .ref a29, .int 1]))] H := hP
  have hD : va_D A [(a1, .inr (18, [.ref a17, .ref a18, .int 0, .ref a19, .int 0, .ref a20, .int 1, .null, .int 0, .null, .long 0, .int 0, .null])), (a17, .inr (17, [.int 0, .ref a21, .ref a22, .int 0, .ref a23, .ref a24, .ref a25, .null, .null, .int 0, .ref a26, .ref a27, .ref a28, .int 0, .ref a29, .int 1]))] := hD
  refine W.eq (g2 := F0 m 2789 ls [.int 0]) rfl ?_
  refine lv_istore (lv' := [(7, .int 0), (6, .int 1), (0, .ref b), (1, .ref a0), (2, .ref a1), (3, .ref a2), (4, .ref a3), (5, .int 0)]) hx hb d_law_2789 hl (by decide) rfl (fun ls hl => ?_)
  refine lv_aload_n hx hb d_law_2791 rfl (lv_at hl 4 rfl) ?_
  refine kV (As := []) (rest := []) (wr := [(a17, .inr (17, [.int 0, .ref a21, .ref a22, .int 0, .ref a23, .ref a24, .ref a25, .null, .null, .int 0, .ref a26, .ref a27, .ref a28, .int 0, .ref a29, .int 1]))]) (c33_BModel_thrown l z a1 a17 a18 a19 a20) hx hb hml hown hts w_1688 w_1685 w_1686 w_1687 w_12 md_c48e0f ⟨Nat.le_of_ble_eq_true rfl, Nat.le_of_ble_eq_true rfl⟩ hG hZ hP hD hS hA 0 rfl rfl rfl [0] [1] rfl rfl rfl rfl rfl hl.1 rfl (Nat.le_of_ble_eq_true rfl) d_law_2792 ⟨Nat.le_of_ble_eq_true rfl, Nat.le_of_ble_eq_true rfl⟩ (fun u2 H locs hP hD hS => ?_)
  have hP : va_P z.1 classes [(a17, .inr (17, [.int 0, .ref a21, .ref a22, .int 0, .ref a23, .ref a24, .ref a25, .null, .null, .int 0, .ref a26, .ref a27, .ref a28, .int 0, .ref a29, .int 1])), (a1, .inr (18, [.ref a17, .ref a18, .int 0, .ref a19, .int 0, .ref a20, .int 1, .null, .int 0, .null, .long 0, .int 0, .null]))] H := hP
  have hD : va_D A [(a17, .inr (17, [.int 0, .ref a21, .ref a22, .int 0, .ref a23, .ref a24, .ref a25, .null, .null, .int 0, .ref a26, .ref a27, .ref a28, .int 0, .ref a29, .int 1])), (a1, .inr (18, [.ref a17, .ref a18, .int 0, .ref a19, .int 0, .ref a20, .int 1, .null, .int 0, .null, .long 0, .int 0, .null]))] := hD
  refine W.eq (g2 := F0 m 2795 ls [.int 1]) rfl ?_
  refine lv_iload hx hb d_law_2795 (lv_at hl 1 rfl) ?_
  refine lv_icmp_eq (tgt := 2802) hx hb d_law_2797 (by decide) (fun _ => ?_) (fun c9 => absurd (by decide +kernel) c9)
  refine lv_iload hx hb d_law_2802 (lv_at hl 1 rfl) ?_
  refine lv_if_ne (tgt := 2819) hx hb d_law_2804 (by decide) (fun _ => ?_) (fun c9 => absurd c9 (by decide +kernel))
  refine lv_goto (tgt := 3072) hx hb d_law_2819 (by decide) ?_
  refine W.widen (k := 600002) (n := 7302232) (Nat.le_of_ble_eq_true rfl) (Nat.le_of_ble_eq_true rfl) ?_
  exact ht H locs ls hS (lv_sub hl [2, 7] rfl)
set_option maxRecDepth 100000 in
set_option maxHeartbeats 4000000 in
theorem L47_0 (l : Launch) (hl0 : l.stackTraces = false) (z : Zz) {p : Program} {e : Env} {s : State} {m : MethodId} {below : List Frame} {meth : Method} {c : Code} {A : Nat → Prop} {b : Nat} {xs : Nat → Int32} {Q : State → Prop} (hx : p.tables.exec = Jvm.exec) (hb : c.code = code) (hml : c.maxLocals = 9) (hts : ∀ w ∈ WG, w.before #[Value.ref b] s = true) (hown : s.vm.findClass "BallothallLaw" = some m.cls) (hA : ∀ q, s.heap.size ≤ q → A q) (hG : KG z s) (hZ : XZ A s) (hX : va_X b 4 xs s s.heap) (hbl : b < s.heap.size) (hbA : ¬ A b) (ht : ∀ (H : Heap) (locs : List Loc) (ls : Array Slot), va_S A s.heap H locs → lv_has ls 9 [(0, .ref b), (5, .int 0)] → W p l e room_1 s m #[Value.ref b] below meth c H locs 600002 7302232 Q (F0 m 3072 ls [])) (a0 : Nat) (a1 : Nat) (a2 : Nat) (a3 : Nat) (a4 : Nat) (a5 : Nat) (a6 : Nat) (a7 : Nat) (a8 : Nat) (a9 : Nat) (a10 : Nat) (a11 : Nat) (a12 : Nat) (a13 : Nat) (a14 : Nat) (a15 : Nat) (a16 : Nat) (a17 : Nat) (a18 : Nat) (a19 : Nat) (a20 : Nat) (a21 : Nat) (a22 : Nat) (a23 : Nat) (a24 : Nat) (a25 : Nat) (a26 : Nat) (a27 : Nat) (a28 : Nat) (a29 : Nat) (h0 : (xs 1) < 0) (H : Heap) (locs : List Loc) (ls : Array Slot) (hP : va_P z.1 classes [(a0, .inr (11, [.ref a4, .ref a5, .ref a6, .ref a7, .ref a8, .ref a9, .ref a10, .ref a11, .ref a12, .ref a13, .int 0, .int 0, .ref a14, .int 0])), (a10, .inr (1, [.int 0, .int 1, .ref a15, .ref a16])), (a1, .inr (18, [.ref a17, .ref a18, .int 0, .ref a19, .int 0, .ref a20, .int 0, .null, .int 0, .null, .long 0, .int 0, .null])), (a17, .inr (17, [.int 0, .ref a21, .ref a22, .int 0, .ref a23, .ref a24, .ref a25, .null, .null, .int 0, .ref a26, .ref a27, .ref a28, .int 0, .ref a29, .int 1]))] H) (hD : va_D A [(a0, .inr (11, [.ref a4, .ref a5, .ref a6, .ref a7, .ref a8, .ref a9, .ref a10, .ref a11, .ref a12, .ref a13, .int 0, .int 0, .ref a14, .int 0])), (a10, .inr (1, [.int 0, .int 1, .ref a15, .ref a16])), (a1, .inr (18, [.ref a17, .ref a18, .int 0, .ref a19, .int 0, .ref a20, .int 0, .null, .int 0, .null, .long 0, .int 0, .null])), (a17, .inr (17, [.int 0, .ref a21, .ref a22, .int 0, .ref a23, .ref a24, .ref a25, .null, .null, .int 0, .ref a26, .ref a27, .ref a28, .int 0, .ref a29, .int 1]))]) (hS : va_S A s.heap H locs) (hl : lv_has ls 9 [(0, .ref b), (1, .ref a0), (2, .ref a1), (3, .ref a2), (4, .ref a3), (5, .int 0)]) : W p l e room_1 s m #[Value.ref b] below meth c H locs 265 8866 Q (F0 m 44 ls [.int 47]) := by
  refine lv_tableIn (tgt := 2822) hx hb d_law_44 (by decide +kernel) (by decide +kernel) rfl (by decide) ?_
  refine lv_aload_n hx hb d_law_2822 rfl (lv_at hl 1 rfl) ?_
  refine lv_aload_n hx hb d_law_2823 rfl (lv_at hl 0 rfl) ?_
  refine lv_iload hx hb d_law_2824 (lv_at hl 5 rfl) ?_
  refine lv_iconst (v := 1) hx hb d_law_2826 (by decide +kernel) ?_
  refine lv_iadd hx hb d_law_2827 ?_
  refine nrm (x1 := 1) (by decide +kernel) ?_
  refine va_sld hx hb hX hbl hbA hS (hin4 (i := 1) rfl) d_law_2828 ?_
  refine nrm (x1 := xs 1) rfl ?_
  refine lv_aload_n hx hb d_law_2829 rfl (lv_at hl 3 rfl) ?_
  refine kH (As := [.ref a0, .int (xs 1), .ref a2]) (rest := []) (wr := [(a1, .inr (18, [.ref a17, .ref a18, .int 0, .ref a19, .int 0, .ref a20, .int 0, .null, .int 0, .null, .long 0, .int 0, .null])), (a17, .inr (17, [.int 0, .ref a21, .ref a22, .int 0, .ref a23, .ref a24, .ref a25, .null, .null, .int 0, .ref a26, .ref a27, .ref a28, .int 0, .ref a29, .int 1]))]) (c637_BLaw_ordersTurned l z hl0 a0 a2 a4 a5 a6 a7 a8 a9 a10 a11 a12 a13 a14 a15 a16 (xs 1) h0) hx hb hml hown hts w_1545 w_1543 w_1544 w_0 md_66d8ab ⟨Nat.le_of_ble_eq_true rfl, Nat.le_of_ble_eq_true rfl⟩ hG hZ hP hD hS hA [0, 1] [2, 3] rfl rfl rfl rfl rfl hl.1 rfl (Nat.le_of_ble_eq_true rfl) d_law_2830 ⟨Nat.le_of_ble_eq_true rfl, Nat.le_of_ble_eq_true rfl⟩ (fun u0 H locs hP hD hS => ?_)
  have hP : va_P z.1 classes [(a1, .inr (18, [.ref a17, .ref a18, .int 0, .ref a19, .int 0, .ref a20, .int 0, .null, .int 0, .null, .long 0, .int 0, .null])), (a17, .inr (17, [.int 0, .ref a21, .ref a22, .int 0, .ref a23, .ref a24, .ref a25, .null, .null, .int 0, .ref a26, .ref a27, .ref a28, .int 0, .ref a29, .int 1]))] H := hP
  have hD : va_D A [(a1, .inr (18, [.ref a17, .ref a18, .int 0, .ref a19, .int 0, .ref a20, .int 0, .null, .int 0, .null, .long 0, .int 0, .null])), (a17, .inr (17, [.int 0, .ref a21, .ref a22, .int 0, .ref a23, .ref a24, .ref a25, .null, .null, .int 0, .ref a26, .ref a27, .ref a28, .int 0, .ref a29, .int 1]))] := hD
  refine W.eq (g2 := F0 m 2833 ls [.int 1]) rfl ?_
  refine lv_istore (lv' := [(6, .int 1), (0, .ref b), (1, .ref a0), (2, .ref a1), (3, .ref a2), (4, .ref a3), (5, .int 0)]) hx hb d_law_2833 hl (by decide) rfl (fun ls hl => ?_)
  refine lv_aload_n hx hb d_law_2835 rfl (lv_at hl 3 rfl) ?_
  refine lv_aload_n hx hb d_law_2836 rfl (lv_at hl 1 rfl) ?_
  refine lv_iload hx hb d_law_2837 (lv_at hl 6 rfl) ?_
  refine lv_iconst (v := 1) hx hb d_law_2839 (by decide +kernel) ?_
  refine lv_iadd hx hb d_law_2840 ?_
  refine nrm (x1 := 1) (by decide +kernel) ?_
  refine va_sld hx hb hX hbl hbA hS (hin4 (i := 1) rfl) d_law_2841 ?_
  refine nrm (x1 := xs 1) rfl ?_
  refine kV (As := [.int (xs 1)]) (rest := []) (wr := []) (c638_BModel_ordersTurned l z a1 a17 a18 a19 a20 a21 a22 a23 a24 a25 a26 a27 a28 a29 (xs 1) h0) hx hb hml hown hts w_2485 w_2482 w_2483 w_2484 w_12 md_bc3f5d ⟨Nat.le_of_ble_eq_true rfl, Nat.le_of_ble_eq_true rfl⟩ hG hZ hP hD hS hA 0 rfl rfl rfl [0, 1] [] rfl rfl rfl rfl rfl hl.1 rfl (Nat.le_of_ble_eq_true rfl) d_law_2842 ⟨Nat.le_of_ble_eq_true rfl, Nat.le_of_ble_eq_true rfl⟩ (fun u1 H locs hP hD hS => ?_)
  have hP : va_P z.1 classes [(a1, .inr (18, [.ref a17, .ref a18, .int 0, .ref a19, .int 0, .ref a20, .int 1, .null, .int 0, .null, .long 0, .int 0, .null])), (a17, .inr (17, [.int 0, .ref a21, .ref a22, .int 0, .ref a23, .ref a24, .ref a25, .null, .null, .int 0, .ref a26, .ref a27, .ref a28, .int 0, .ref a29, .int 1]))] H := hP
  have hD : va_D A [(a1, .inr (18, [.ref a17, .ref a18, .int 0, .ref a19, .int 0, .ref a20, .int 1, .null, .int 0, .null, .long 0, .int 0, .null])), (a17, .inr (17, [.int 0, .ref a21, .ref a22, .int 0, .ref a23, .ref a24, .ref a25, .null, .null, .int 0, .ref a26, .ref a27, .ref a28, .int 0, .ref a29, .int 1]))] := hD
  refine W.eq (g2 := F0 m 2845 ls [.long 0]) rfl ?_
  refine lv_lstore (lv' := [(7, .long 0), (6, .int 1), (0, .ref b), (1, .ref a0), (2, .ref a1), (3, .ref a2), (4, .ref a3), (5, .int 0)]) hx hb d_law_2845 hl (by decide) rfl (fun ls hl => ?_)
  refine lv_aload_n hx hb d_law_2847 rfl (lv_at hl 4 rfl) ?_
  refine kV (As := []) (rest := []) (wr := [(a17, .inr (17, [.int 0, .ref a21, .ref a22, .int 0, .ref a23, .ref a24, .ref a25, .null, .null, .int 0, .ref a26, .ref a27, .ref a28, .int 0, .ref a29, .int 1]))]) (c33_BModel_thrown l z a1 a17 a18 a19 a20) hx hb hml hown hts w_1688 w_1685 w_1686 w_1687 w_12 md_c48e0f ⟨Nat.le_of_ble_eq_true rfl, Nat.le_of_ble_eq_true rfl⟩ hG hZ hP hD hS hA 0 rfl rfl rfl [0] [1] rfl rfl rfl rfl rfl hl.1 rfl (Nat.le_of_ble_eq_true rfl) d_law_2848 ⟨Nat.le_of_ble_eq_true rfl, Nat.le_of_ble_eq_true rfl⟩ (fun u2 H locs hP hD hS => ?_)
  have hP : va_P z.1 classes [(a17, .inr (17, [.int 0, .ref a21, .ref a22, .int 0, .ref a23, .ref a24, .ref a25, .null, .null, .int 0, .ref a26, .ref a27, .ref a28, .int 0, .ref a29, .int 1])), (a1, .inr (18, [.ref a17, .ref a18, .int 0, .ref a19, .int 0, .ref a20, .int 1, .null, .int 0, .null, .long 0, .int 0, .null]))] H := hP
  have hD : va_D A [(a17, .inr (17, [.int 0, .ref a21, .ref a22, .int 0, .ref a23, .ref a24, .ref a25, .null, .null, .int 0, .ref a26, .ref a27, .ref a28, .int 0, .ref a29, .int 1])), (a1, .inr (18, [.ref a17, .ref a18, .int 0, .ref a19, .int 0, .ref a20, .int 1, .null, .int 0, .null, .long 0, .int 0, .null]))] := hD
  refine W.eq (g2 := F0 m 2851 ls [.int 1]) rfl ?_
  refine lv_iload hx hb d_law_2851 (lv_at hl 1 rfl) ?_
  refine lv_icmp_eq (tgt := 2858) hx hb d_law_2853 (by decide) (fun _ => ?_) (fun c9 => absurd (by decide +kernel) c9)
  refine lv_iload hx hb d_law_2858 (lv_at hl 1 rfl) ?_
  refine lv_if_ne (tgt := 2874) hx hb d_law_2860 (by decide) (fun _ => ?_) (fun c9 => absurd c9 (by decide +kernel))
  refine lv_goto (tgt := 3072) hx hb d_law_2874 (by decide) ?_
  refine W.widen (k := 600002) (n := 7302232) (Nat.le_of_ble_eq_true rfl) (Nat.le_of_ble_eq_true rfl) ?_
  exact ht H locs ls hS (lv_sub hl [2, 7] rfl)
set_option maxRecDepth 100000 in
set_option maxHeartbeats 4000000 in
theorem L47_1 (l : Launch) (hl0 : l.stackTraces = false) (z : Zz) {p : Program} {e : Env} {s : State} {m : MethodId} {below : List Frame} {meth : Method} {c : Code} {A : Nat → Prop} {b : Nat} {xs : Nat → Int32} {Q : State → Prop} (hx : p.tables.exec = Jvm.exec) (hb : c.code = code) (hml : c.maxLocals = 9) (hts : ∀ w ∈ WG, w.before #[Value.ref b] s = true) (hown : s.vm.findClass "BallothallLaw" = some m.cls) (hA : ∀ q, s.heap.size ≤ q → A q) (hG : KG z s) (hZ : XZ A s) (hX : va_X b 4 xs s s.heap) (hbl : b < s.heap.size) (hbA : ¬ A b) (ht : ∀ (H : Heap) (locs : List Loc) (ls : Array Slot), va_S A s.heap H locs → lv_has ls 9 [(0, .ref b), (5, .int 0)] → W p l e room_1 s m #[Value.ref b] below meth c H locs 600002 7302232 Q (F0 m 3072 ls [])) (a0 : Nat) (a1 : Nat) (a2 : Nat) (a3 : Nat) (a4 : Nat) (a5 : Nat) (a6 : Nat) (a7 : Nat) (a8 : Nat) (a9 : Nat) (a10 : Nat) (a11 : Nat) (a12 : Nat) (a13 : Nat) (a14 : Nat) (a15 : Nat) (a16 : Nat) (a17 : Nat) (a18 : Nat) (a19 : Nat) (a20 : Nat) (a21 : Nat) (a22 : Nat) (a23 : Nat) (a24 : Nat) (a25 : Nat) (a26 : Nat) (a27 : Nat) (a28 : Nat) (a29 : Nat) (h0 : ¬ (xs 1) < 0) (h1 : (-1) < (xs 1)) (H : Heap) (locs : List Loc) (ls : Array Slot) (hP : va_P z.1 classes [(a0, .inr (11, [.ref a4, .ref a5, .ref a6, .ref a7, .ref a8, .ref a9, .ref a10, .ref a11, .ref a12, .ref a13, .int 0, .int 0, .ref a14, .int 0])), (a10, .inr (1, [.int 0, .int 1, .ref a15, .ref a16])), (a1, .inr (18, [.ref a17, .ref a18, .int 0, .ref a19, .int 0, .ref a20, .int 0, .null, .int 0, .null, .long 0, .int 0, .null])), (a17, .inr (17, [.int 0, .ref a21, .ref a22, .int 0, .ref a23, .ref a24, .ref a25, .null, .null, .int 0, .ref a26, .ref a27, .ref a28, .int 0, .ref a29, .int 1]))] H) (hD : va_D A [(a0, .inr (11, [.ref a4, .ref a5, .ref a6, .ref a7, .ref a8, .ref a9, .ref a10, .ref a11, .ref a12, .ref a13, .int 0, .int 0, .ref a14, .int 0])), (a10, .inr (1, [.int 0, .int 1, .ref a15, .ref a16])), (a1, .inr (18, [.ref a17, .ref a18, .int 0, .ref a19, .int 0, .ref a20, .int 0, .null, .int 0, .null, .long 0, .int 0, .null])), (a17, .inr (17, [.int 0, .ref a21, .ref a22, .int 0, .ref a23, .ref a24, .ref a25, .null, .null, .int 0, .ref a26, .ref a27, .ref a28, .int 0, .ref a29, .int 1]))]) (hS : va_S A s.heap H locs) (hl : lv_has ls 9 [(0, .ref b), (1, .ref a0), (2, .ref a1), (3, .ref a2), (4, .ref a3), (5, .int 0)]) : W p l e room_1 s m #[Value.ref b] below meth c H locs 265 8866 Q (F0 m 44 ls [.int 47]) := by
  refine lv_tableIn (tgt := 2822) hx hb d_law_44 (by decide +kernel) (by decide +kernel) rfl (by decide) ?_
  refine lv_aload_n hx hb d_law_2822 rfl (lv_at hl 1 rfl) ?_
  refine lv_aload_n hx hb d_law_2823 rfl (lv_at hl 0 rfl) ?_
  refine lv_iload hx hb d_law_2824 (lv_at hl 5 rfl) ?_
  refine lv_iconst (v := 1) hx hb d_law_2826 (by decide +kernel) ?_
  refine lv_iadd hx hb d_law_2827 ?_
  refine nrm (x1 := 1) (by decide +kernel) ?_
  refine va_sld hx hb hX hbl hbA hS (hin4 (i := 1) rfl) d_law_2828 ?_
  refine nrm (x1 := xs 1) rfl ?_
  refine lv_aload_n hx hb d_law_2829 rfl (lv_at hl 3 rfl) ?_
  refine kH (As := [.ref a0, .int (xs 1), .ref a2]) (rest := []) (wr := [(a1, .inr (18, [.ref a17, .ref a18, .int 0, .ref a19, .int 0, .ref a20, .int 0, .null, .int 0, .null, .long 0, .int 0, .null])), (a17, .inr (17, [.int 0, .ref a21, .ref a22, .int 0, .ref a23, .ref a24, .ref a25, .null, .null, .int 0, .ref a26, .ref a27, .ref a28, .int 0, .ref a29, .int 1]))]) (c640_BLaw_ordersTurned l z hl0 a0 a2 a4 a5 a6 a7 a8 a9 a10 a11 a12 a13 a14 a15 a16 (xs 1) h0) hx hb hml hown hts w_1545 w_1543 w_1544 w_0 md_66d8ab ⟨Nat.le_of_ble_eq_true rfl, Nat.le_of_ble_eq_true rfl⟩ hG hZ hP hD hS hA [0, 1] [2, 3] rfl rfl rfl rfl rfl hl.1 rfl (Nat.le_of_ble_eq_true rfl) d_law_2830 ⟨Nat.le_of_ble_eq_true rfl, Nat.le_of_ble_eq_true rfl⟩ (fun u0 H locs hP hD hS => ?_)
  have hP : va_P z.1 classes [(a1, .inr (18, [.ref a17, .ref a18, .int 0, .ref a19, .int 0, .ref a20, .int 0, .null, .int 0, .null, .long 0, .int 0, .null])), (a17, .inr (17, [.int 0, .ref a21, .ref a22, .int 0, .ref a23, .ref a24, .ref a25, .null, .null, .int 0, .ref a26, .ref a27, .ref a28, .int 0, .ref a29, .int 1]))] H := hP
  have hD : va_D A [(a1, .inr (18, [.ref a17, .ref a18, .int 0, .ref a19, .int 0, .ref a20, .int 0, .null, .int 0, .null, .long 0, .int 0, .null])), (a17, .inr (17, [.int 0, .ref a21, .ref a22, .int 0, .ref a23, .ref a24, .ref a25, .null, .null, .int 0, .ref a26, .ref a27, .ref a28, .int 0, .ref a29, .int 1]))] := hD
  refine W.eq (g2 := F0 m 2833 ls [.int 1]) rfl ?_
  refine lv_istore (lv' := [(6, .int 1), (0, .ref b), (1, .ref a0), (2, .ref a1), (3, .ref a2), (4, .ref a3), (5, .int 0)]) hx hb d_law_2833 hl (by decide) rfl (fun ls hl => ?_)
  refine lv_aload_n hx hb d_law_2835 rfl (lv_at hl 3 rfl) ?_
  refine lv_aload_n hx hb d_law_2836 rfl (lv_at hl 1 rfl) ?_
  refine lv_iload hx hb d_law_2837 (lv_at hl 6 rfl) ?_
  refine lv_iconst (v := 1) hx hb d_law_2839 (by decide +kernel) ?_
  refine lv_iadd hx hb d_law_2840 ?_
  refine nrm (x1 := 1) (by decide +kernel) ?_
  refine va_sld hx hb hX hbl hbA hS (hin4 (i := 1) rfl) d_law_2841 ?_
  refine nrm (x1 := xs 1) rfl ?_
  refine kV (As := [.int (xs 1)]) (rest := []) (wr := []) (c641_BModel_ordersTurned l z a1 a17 a18 a19 a20 a21 a22 a23 a24 a25 a26 a27 a28 a29 (xs 1) h0 h1) hx hb hml hown hts w_2485 w_2482 w_2483 w_2484 w_12 md_bc3f5d ⟨Nat.le_of_ble_eq_true rfl, Nat.le_of_ble_eq_true rfl⟩ hG hZ hP hD hS hA 0 rfl rfl rfl [0, 1] [] rfl rfl rfl rfl rfl hl.1 rfl (Nat.le_of_ble_eq_true rfl) d_law_2842 ⟨Nat.le_of_ble_eq_true rfl, Nat.le_of_ble_eq_true rfl⟩ (fun u1 H locs hP hD hS => ?_)
  have hP : va_P z.1 classes [(a1, .inr (18, [.ref a17, .ref a18, .int 0, .ref a19, .int 0, .ref a20, .int 1, .null, .int 0, .null, .long 0, .int 0, .null])), (a17, .inr (17, [.int 0, .ref a21, .ref a22, .int 0, .ref a23, .ref a24, .ref a25, .null, .null, .int 0, .ref a26, .ref a27, .ref a28, .int 0, .ref a29, .int 1]))] H := hP
  have hD : va_D A [(a1, .inr (18, [.ref a17, .ref a18, .int 0, .ref a19, .int 0, .ref a20, .int 1, .null, .int 0, .null, .long 0, .int 0, .null])), (a17, .inr (17, [.int 0, .ref a21, .ref a22, .int 0, .ref a23, .ref a24, .ref a25, .null, .null, .int 0, .ref a26, .ref a27, .ref a28, .int 0, .ref a29, .int 1]))] := hD
  refine W.eq (g2 := F0 m 2845 ls [.long 0]) rfl ?_
  refine lv_lstore (lv' := [(7, .long 0), (6, .int 1), (0, .ref b), (1, .ref a0), (2, .ref a1), (3, .ref a2), (4, .ref a3), (5, .int 0)]) hx hb d_law_2845 hl (by decide) rfl (fun ls hl => ?_)
  refine lv_aload_n hx hb d_law_2847 rfl (lv_at hl 4 rfl) ?_
  refine kV (As := []) (rest := []) (wr := [(a17, .inr (17, [.int 0, .ref a21, .ref a22, .int 0, .ref a23, .ref a24, .ref a25, .null, .null, .int 0, .ref a26, .ref a27, .ref a28, .int 0, .ref a29, .int 1]))]) (c33_BModel_thrown l z a1 a17 a18 a19 a20) hx hb hml hown hts w_1688 w_1685 w_1686 w_1687 w_12 md_c48e0f ⟨Nat.le_of_ble_eq_true rfl, Nat.le_of_ble_eq_true rfl⟩ hG hZ hP hD hS hA 0 rfl rfl rfl [0] [1] rfl rfl rfl rfl rfl hl.1 rfl (Nat.le_of_ble_eq_true rfl) d_law_2848 ⟨Nat.le_of_ble_eq_true rfl, Nat.le_of_ble_eq_true rfl⟩ (fun u2 H locs hP hD hS => ?_)
  have hP : va_P z.1 classes [(a17, .inr (17, [.int 0, .ref a21, .ref a22, .int 0, .ref a23, .ref a24, .ref a25, .null, .null, .int 0, .ref a26, .ref a27, .ref a28, .int 0, .ref a29, .int 1])), (a1, .inr (18, [.ref a17, .ref a18, .int 0, .ref a19, .int 0, .ref a20, .int 1, .null, .int 0, .null, .long 0, .int 0, .null]))] H := hP
  have hD : va_D A [(a17, .inr (17, [.int 0, .ref a21, .ref a22, .int 0, .ref a23, .ref a24, .ref a25, .null, .null, .int 0, .ref a26, .ref a27, .ref a28, .int 0, .ref a29, .int 1])), (a1, .inr (18, [.ref a17, .ref a18, .int 0, .ref a19, .int 0, .ref a20, .int 1, .null, .int 0, .null, .long 0, .int 0, .null]))] := hD
  refine W.eq (g2 := F0 m 2851 ls [.int 1]) rfl ?_
  refine lv_iload hx hb d_law_2851 (lv_at hl 1 rfl) ?_
  refine lv_icmp_eq (tgt := 2858) hx hb d_law_2853 (by decide) (fun _ => ?_) (fun c9 => absurd (by decide +kernel) c9)
  refine lv_iload hx hb d_law_2858 (lv_at hl 1 rfl) ?_
  refine lv_if_ne (tgt := 2874) hx hb d_law_2860 (by decide) (fun _ => ?_) (fun c9 => absurd c9 (by decide +kernel))
  refine lv_goto (tgt := 3072) hx hb d_law_2874 (by decide) ?_
  refine W.widen (k := 600002) (n := 7302232) (Nat.le_of_ble_eq_true rfl) (Nat.le_of_ble_eq_true rfl) ?_
  exact ht H locs ls hS (lv_sub hl [2, 7] rfl)
set_option maxRecDepth 100000 in
set_option maxHeartbeats 4000000 in
theorem L48_0 (l : Launch) (hl0 : l.stackTraces = false) (z : Zz) {p : Program} {e : Env} {s : State} {m : MethodId} {below : List Frame} {meth : Method} {c : Code} {A : Nat → Prop} {b : Nat} {xs : Nat → Int32} {Q : State → Prop} (hx : p.tables.exec = Jvm.exec) (hb : c.code = code) (hml : c.maxLocals = 9) (hts : ∀ w ∈ WG, w.before #[Value.ref b] s = true) (hown : s.vm.findClass "BallothallLaw" = some m.cls) (hA : ∀ q, s.heap.size ≤ q → A q) (hG : KG z s) (hZ : XZ A s) (hX : va_X b 4 xs s s.heap) (hbl : b < s.heap.size) (hbA : ¬ A b) (ht : ∀ (H : Heap) (locs : List Loc) (ls : Array Slot), va_S A s.heap H locs → lv_has ls 9 [(0, .ref b), (5, .int 0)] → W p l e room_1 s m #[Value.ref b] below meth c H locs 600002 7302232 Q (F0 m 3072 ls [])) (a0 : Nat) (a1 : Nat) (a2 : Nat) (a3 : Nat) (a4 : Nat) (a5 : Nat) (a6 : Nat) (a7 : Nat) (a8 : Nat) (a9 : Nat) (a10 : Nat) (a11 : Nat) (a12 : Nat) (a13 : Nat) (a14 : Nat) (a15 : Nat) (a16 : Nat) (a17 : Nat) (a18 : Nat) (H : Heap) (locs : List Loc) (ls : Array Slot) (hP : va_P z.1 classes [(a0, .inr (11, [.ref a4, .ref a5, .ref a6, .ref a7, .ref a8, .ref a9, .ref a10, .ref a11, .ref a12, .ref a13, .int 0, .int 0, .ref a14, .int 0])), (a1, .inr (18, [.ref a15, .ref a16, .int 0, .ref a17, .int 0, .ref a18, .int 0, .null, .int 0, .null, .long 0, .int 0, .null]))] H) (hD : va_D A [(a0, .inr (11, [.ref a4, .ref a5, .ref a6, .ref a7, .ref a8, .ref a9, .ref a10, .ref a11, .ref a12, .ref a13, .int 0, .int 0, .ref a14, .int 0])), (a1, .inr (18, [.ref a15, .ref a16, .int 0, .ref a17, .int 0, .ref a18, .int 0, .null, .int 0, .null, .long 0, .int 0, .null]))]) (hS : va_S A s.heap H locs) (hl : lv_has ls 9 [(0, .ref b), (1, .ref a0), (2, .ref a1), (3, .ref a2), (4, .ref a3), (5, .int 0)]) : W p l e room_1 s m #[Value.ref b] below meth c H locs 265 8866 Q (F0 m 44 ls [.int 48]) := by
  refine lv_tableIn (tgt := 2877) hx hb d_law_44 (by decide +kernel) (by decide +kernel) rfl (by decide) ?_
  refine lv_aload_n hx hb d_law_2877 rfl (lv_at hl 1 rfl) ?_
  refine kV (As := []) (rest := []) (wr := [(a1, .inr (18, [.ref a15, .ref a16, .int 0, .ref a17, .int 0, .ref a18, .int 0, .null, .int 0, .null, .long 0, .int 0, .null]))]) (c642_B_undo l z a0 a4 a5 a6 a7 a8 a9 a10 a11 a12 a13 a14) hx hb hml hown hts w_635 w_632 w_633 w_634 w_1 md_dc8747 ⟨Nat.le_of_ble_eq_true rfl, Nat.le_of_ble_eq_true rfl⟩ hG hZ hP hD hS hA 0 rfl rfl rfl [0] [1] rfl rfl rfl rfl rfl hl.1 rfl (Nat.le_of_ble_eq_true rfl) d_law_2878 ⟨Nat.le_of_ble_eq_true rfl, Nat.le_of_ble_eq_true rfl⟩ (fun u0 H locs hP hD hS => ?_)
  have hP : va_P z.1 classes [(a1, .inr (18, [.ref a15, .ref a16, .int 0, .ref a17, .int 0, .ref a18, .int 0, .null, .int 0, .null, .long 0, .int 0, .null])), (a0, .inr (11, [.ref a4, .ref a5, .ref a6, .ref a7, .ref a8, .ref a9, .ref a10, .ref a11, .ref a12, .ref a13, .int 0, .int 0, .ref a14, .int 0]))] H := hP
  have hD : va_D A [(a1, .inr (18, [.ref a15, .ref a16, .int 0, .ref a17, .int 0, .ref a18, .int 0, .null, .int 0, .null, .long 0, .int 0, .null])), (a0, .inr (11, [.ref a4, .ref a5, .ref a6, .ref a7, .ref a8, .ref a9, .ref a10, .ref a11, .ref a12, .ref a13, .int 0, .int 0, .ref a14, .int 0]))] := hD
  refine W.eq (g2 := F0 m 2881 ls [.int (-1)]) rfl ?_
  refine lv_aload_n hx hb d_law_2881 rfl (lv_at hl 2 rfl) ?_
  refine kV (As := []) (rest := [.int (-1)]) (wr := [(a0, .inr (11, [.ref a4, .ref a5, .ref a6, .ref a7, .ref a8, .ref a9, .ref a10, .ref a11, .ref a12, .ref a13, .int 0, .int 0, .ref a14, .int 0]))]) (c643_BModel_undo l z a1 a15 a16 a17 a18) hx hb hml hown hts w_2496 w_2493 w_2494 w_2495 w_12 md_fa4169 ⟨Nat.le_of_ble_eq_true rfl, Nat.le_of_ble_eq_true rfl⟩ hG hZ hP hD hS hA 0 rfl rfl rfl [0] [1] rfl rfl rfl rfl rfl hl.1 rfl (Nat.le_of_ble_eq_true rfl) d_law_2882 ⟨Nat.le_of_ble_eq_true rfl, Nat.le_of_ble_eq_true rfl⟩ (fun u1 H locs hP hD hS => ?_)
  have hP : va_P z.1 classes [(a0, .inr (11, [.ref a4, .ref a5, .ref a6, .ref a7, .ref a8, .ref a9, .ref a10, .ref a11, .ref a12, .ref a13, .int 0, .int 0, .ref a14, .int 0])), (a1, .inr (18, [.ref a15, .ref a16, .int 0, .ref a17, .int 0, .ref a18, .int 0, .null, .int 0, .null, .long 0, .int 0, .null]))] H := hP
  have hD : va_D A [(a0, .inr (11, [.ref a4, .ref a5, .ref a6, .ref a7, .ref a8, .ref a9, .ref a10, .ref a11, .ref a12, .ref a13, .int 0, .int 0, .ref a14, .int 0])), (a1, .inr (18, [.ref a15, .ref a16, .int 0, .ref a17, .int 0, .ref a18, .int 0, .null, .int 0, .null, .long 0, .int 0, .null]))] := hD
  refine W.eq (g2 := F0 m 2885 ls [.int (-1), .int (-1)]) rfl ?_
  refine lv_icmp_eq (tgt := 3072) hx hb d_law_2885 (by decide) (fun _ => ?_) (fun c9 => absurd (by decide +kernel) c9)
  refine W.widen (k := 600002) (n := 7302232) (Nat.le_of_ble_eq_true rfl) (Nat.le_of_ble_eq_true rfl) ?_
  exact ht H locs ls hS (lv_sub hl [0, 5] rfl)
set_option maxRecDepth 100000 in
set_option maxHeartbeats 4000000 in
theorem L49_0 (l : Launch) (hl0 : l.stackTraces = false) (z : Zz) {p : Program} {e : Env} {s : State} {m : MethodId} {below : List Frame} {meth : Method} {c : Code} {A : Nat → Prop} {b : Nat} {xs : Nat → Int32} {Q : State → Prop} (hx : p.tables.exec = Jvm.exec) (hb : c.code = code) (hml : c.maxLocals = 9) (hts : ∀ w ∈ WG, w.before #[Value.ref b] s = true) (hown : s.vm.findClass "BallothallLaw" = some m.cls) (hA : ∀ q, s.heap.size ≤ q → A q) (hG : KG z s) (hZ : XZ A s) (hX : va_X b 4 xs s s.heap) (hbl : b < s.heap.size) (hbA : ¬ A b) (ht : ∀ (H : Heap) (locs : List Loc) (ls : Array Slot), va_S A s.heap H locs → lv_has ls 9 [(0, .ref b), (5, .int 0)] → W p l e room_1 s m #[Value.ref b] below meth c H locs 600002 7302232 Q (F0 m 3072 ls [])) (a0 : Nat) (a1 : Nat) (a2 : Nat) (a3 : Nat) (a4 : Nat) (a5 : Nat) (a6 : Nat) (a7 : Nat) (a8 : Nat) (a9 : Nat) (a10 : Nat) (a11 : Nat) (a12 : Nat) (a13 : Nat) (a14 : Nat) (a15 : Nat) (a16 : Nat) (a17 : Nat) (a18 : Nat) (a19 : Nat) (a20 : Nat) (a21 : Nat) (a22 : Nat) (a23 : Nat) (a24 : Nat) (a25 : Nat) (a26 : Nat) (a27 : Nat) (a28 : Nat) (a29 : Nat) (a30 : Nat) (a31 : Nat) (a32 : Nat) (a33 : Nat) (a34 : Nat) (a35 : Nat) (a36 : Nat) (a37 : Nat) (a38 : Nat) (a39 : Nat) (a40 : Nat) (a41 : Nat) (a42 : Nat) (a43 : Nat) (a44 : Nat) (a45 : Nat) (a46 : Nat) (a47 : Nat) (a48 : Nat) (a49 : Nat) (a50 : Nat) (a51 : Nat) (a52 : Nat) (a53 : Nat) (a54 : Nat) (a55 : Nat) (a56 : Nat) (H : Heap) (locs : List Loc) (ls : Array Slot) (hP : va_P z.1 classes [(a0, .inr (11, [.ref a4, .ref a5, .ref a6, .ref a7, .ref a8, .ref a9, .ref a10, .ref a11, .ref a12, .ref a13, .int 0, .int 0, .ref a14, .int 0])), (a4, .inr (0, [.ref a15, .int 0, .int 0, .int 0, .ref a16, .ref a17, .ref a18, .ref a19, .ref a20, .ref a21])), (a7, .inr (7, [.int 0, .ref a22, .ref a23, .ref a24, .ref a25, .ref a26, .int 0, .ref a27, .ref a28, .ref a29, .int 0])), (a8, .inr (3, [.ref a4, .ref a30, .int 0, .int 0, .ref a31, .ref a32, .ref a33, .ref a34, .ref a35, .ref a36, .ref a37, .ref a38, .ref a39, .ref a40, .ref a41])), (a30, .inl (z.2 4, 21, .inr (.inr (.inr (.inr (fun _ => none)))))), (a10, .inr (1, [.int 0, .int 1, .ref a42, .ref a43])), (a1, .inr (18, [.ref a44, .ref a45, .int 0, .ref a46, .int 0, .ref a47, .int 0, .null, .int 0, .null, .long 0, .int 0, .null])), (a44, .inr (17, [.int 0, .ref a48, .ref a49, .int 0, .ref a50, .ref a51, .ref a52, .null, .null, .int 0, .ref a53, .ref a54, .ref a55, .int 0, .ref a56, .int 1])), (a49, .inl (z.2 7, 0, .inr (.inr (.inr (.inr (fun _ => none))))))] H) (hD : va_D A [(a0, .inr (11, [.ref a4, .ref a5, .ref a6, .ref a7, .ref a8, .ref a9, .ref a10, .ref a11, .ref a12, .ref a13, .int 0, .int 0, .ref a14, .int 0])), (a4, .inr (0, [.ref a15, .int 0, .int 0, .int 0, .ref a16, .ref a17, .ref a18, .ref a19, .ref a20, .ref a21])), (a7, .inr (7, [.int 0, .ref a22, .ref a23, .ref a24, .ref a25, .ref a26, .int 0, .ref a27, .ref a28, .ref a29, .int 0])), (a8, .inr (3, [.ref a4, .ref a30, .int 0, .int 0, .ref a31, .ref a32, .ref a33, .ref a34, .ref a35, .ref a36, .ref a37, .ref a38, .ref a39, .ref a40, .ref a41])), (a30, .inl (z.2 4, 21, .inr (.inr (.inr (.inr (fun _ => none)))))), (a10, .inr (1, [.int 0, .int 1, .ref a42, .ref a43])), (a1, .inr (18, [.ref a44, .ref a45, .int 0, .ref a46, .int 0, .ref a47, .int 0, .null, .int 0, .null, .long 0, .int 0, .null])), (a44, .inr (17, [.int 0, .ref a48, .ref a49, .int 0, .ref a50, .ref a51, .ref a52, .null, .null, .int 0, .ref a53, .ref a54, .ref a55, .int 0, .ref a56, .int 1])), (a49, .inl (z.2 7, 0, .inr (.inr (.inr (.inr (fun _ => none))))))]) (hS : va_S A s.heap H locs) (hl : lv_has ls 9 [(0, .ref b), (1, .ref a0), (2, .ref a1), (3, .ref a2), (4, .ref a3), (5, .int 0)]) : W p l e room_1 s m #[Value.ref b] below meth c H locs 265 8866 Q (F0 m 44 ls [.int 49]) := by
  refine lv_tableIn (tgt := 2890) hx hb d_law_44 (by decide +kernel) (by decide +kernel) rfl (by decide) ?_
  refine lv_aload_n hx hb d_law_2890 rfl (lv_at hl 1 rfl) ?_
  refine kV (As := []) (rest := []) (wr := [(a1, .inr (18, [.ref a44, .ref a45, .int 0, .ref a46, .int 0, .ref a47, .int 0, .null, .int 0, .null, .long 0, .int 0, .null])), (a44, .inr (17, [.int 0, .ref a48, .ref a49, .int 0, .ref a50, .ref a51, .ref a52, .null, .null, .int 0, .ref a53, .ref a54, .ref a55, .int 0, .ref a56, .int 1])), (a49, .inl (z.2 7, 0, .inr (.inr (.inr (.inr (fun _ => none))))))]) (c644_B_checksum l z a0 a4 a5 a6 a7 a8 a9 a10 a11 a12 a13 a14 a15 a16 a17 a18 a19 a20 a21 a22 a23 a24 a25 a26 a27 a28 a29 a30 a31 a32 a33 a34 a35 a36 a37 a38 a39 a40 a41 a42 a43) hx hb hml hown hts w_651 w_648 w_649 w_650 w_1 md_bce641 ⟨Nat.le_of_ble_eq_true rfl, Nat.le_of_ble_eq_true rfl⟩ hG hZ hP hD hS hA 0 rfl rfl rfl [0, 1, 2, 3, 4, 5] [6, 7, 8] rfl rfl rfl rfl rfl hl.1 rfl (Nat.le_of_ble_eq_true rfl) d_law_2891 ⟨Nat.le_of_ble_eq_true rfl, Nat.le_of_ble_eq_true rfl⟩ (fun u0 H locs hP hD hS => ?_)
  have hP : va_P z.1 classes [(a1, .inr (18, [.ref a44, .ref a45, .int 0, .ref a46, .int 0, .ref a47, .int 0, .null, .int 0, .null, .long 0, .int 0, .null])), (a44, .inr (17, [.int 0, .ref a48, .ref a49, .int 0, .ref a50, .ref a51, .ref a52, .null, .null, .int 0, .ref a53, .ref a54, .ref a55, .int 0, .ref a56, .int 1])), (a49, .inl (z.2 7, 0, .inr (.inr (.inr (.inr (fun _ => none)))))), (a0, .inr (11, [.ref a4, .ref a5, .ref a6, .ref a7, .ref a8, .ref a9, .ref a10, .ref a11, .ref a12, .ref a13, .int 0, .int 0, .ref a14, .int 0])), (a4, .inr (0, [.ref a15, .int 0, .int 0, .int 0, .ref a16, .ref a17, .ref a18, .ref a19, .ref a20, .ref a21])), (a7, .inr (7, [.int 0, .ref a22, .ref a23, .ref a24, .ref a25, .ref a26, .int 0, .ref a27, .ref a28, .ref a29, .int 0])), (a8, .inr (3, [.ref a4, .ref a30, .int 0, .int 0, .ref a31, .ref a32, .ref a33, .ref a34, .ref a35, .ref a36, .ref a37, .ref a38, .ref a39, .ref a40, .ref a41])), (a30, .inl (z.2 4, 21, .inr (.inr (.inr (.inr (fun _ => none)))))), (a10, .inr (1, [.int 0, .int 1, .ref a42, .ref a43]))] H := hP
  have hD : va_D A [(a1, .inr (18, [.ref a44, .ref a45, .int 0, .ref a46, .int 0, .ref a47, .int 0, .null, .int 0, .null, .long 0, .int 0, .null])), (a44, .inr (17, [.int 0, .ref a48, .ref a49, .int 0, .ref a50, .ref a51, .ref a52, .null, .null, .int 0, .ref a53, .ref a54, .ref a55, .int 0, .ref a56, .int 1])), (a49, .inl (z.2 7, 0, .inr (.inr (.inr (.inr (fun _ => none)))))), (a0, .inr (11, [.ref a4, .ref a5, .ref a6, .ref a7, .ref a8, .ref a9, .ref a10, .ref a11, .ref a12, .ref a13, .int 0, .int 0, .ref a14, .int 0])), (a4, .inr (0, [.ref a15, .int 0, .int 0, .int 0, .ref a16, .ref a17, .ref a18, .ref a19, .ref a20, .ref a21])), (a7, .inr (7, [.int 0, .ref a22, .ref a23, .ref a24, .ref a25, .ref a26, .int 0, .ref a27, .ref a28, .ref a29, .int 0])), (a8, .inr (3, [.ref a4, .ref a30, .int 0, .int 0, .ref a31, .ref a32, .ref a33, .ref a34, .ref a35, .ref a36, .ref a37, .ref a38, .ref a39, .ref a40, .ref a41])), (a30, .inl (z.2 4, 21, .inr (.inr (.inr (.inr (fun _ => none)))))), (a10, .inr (1, [.int 0, .int 1, .ref a42, .ref a43]))] := hD
  refine W.eq (g2 := F0 m 2894 ls [.long 0]) rfl ?_
  refine lv_aload_n hx hb d_law_2894 rfl (lv_at hl 2 rfl) ?_
  refine kV (As := []) (rest := [.long 0]) (wr := [(a0, .inr (11, [.ref a4, .ref a5, .ref a6, .ref a7, .ref a8, .ref a9, .ref a10, .ref a11, .ref a12, .ref a13, .int 0, .int 0, .ref a14, .int 0])), (a4, .inr (0, [.ref a15, .int 0, .int 0, .int 0, .ref a16, .ref a17, .ref a18, .ref a19, .ref a20, .ref a21])), (a7, .inr (7, [.int 0, .ref a22, .ref a23, .ref a24, .ref a25, .ref a26, .int 0, .ref a27, .ref a28, .ref a29, .int 0])), (a8, .inr (3, [.ref a4, .ref a30, .int 0, .int 0, .ref a31, .ref a32, .ref a33, .ref a34, .ref a35, .ref a36, .ref a37, .ref a38, .ref a39, .ref a40, .ref a41])), (a30, .inl (z.2 4, 21, .inr (.inr (.inr (.inr (fun _ => none)))))), (a10, .inr (1, [.int 0, .int 1, .ref a42, .ref a43]))]) (c645_BModel_checksum l z a1 a44 a45 a46 a47 a48 a49 a50 a51 a52 a53 a54 a55 a56) hx hb hml hown hts w_2500 w_2497 w_2498 w_2499 w_12 md_349689 ⟨Nat.le_of_ble_eq_true rfl, Nat.le_of_ble_eq_true rfl⟩ hG hZ hP hD hS hA 0 rfl rfl rfl [0, 1, 2] [3, 4, 5, 6, 7, 8] rfl rfl rfl rfl rfl hl.1 rfl (Nat.le_of_ble_eq_true rfl) d_law_2895 ⟨Nat.le_of_ble_eq_true rfl, Nat.le_of_ble_eq_true rfl⟩ (fun u1 H locs hP hD hS => ?_)
  have hP : va_P z.1 classes [(a0, .inr (11, [.ref a4, .ref a5, .ref a6, .ref a7, .ref a8, .ref a9, .ref a10, .ref a11, .ref a12, .ref a13, .int 0, .int 0, .ref a14, .int 0])), (a4, .inr (0, [.ref a15, .int 0, .int 0, .int 0, .ref a16, .ref a17, .ref a18, .ref a19, .ref a20, .ref a21])), (a7, .inr (7, [.int 0, .ref a22, .ref a23, .ref a24, .ref a25, .ref a26, .int 0, .ref a27, .ref a28, .ref a29, .int 0])), (a8, .inr (3, [.ref a4, .ref a30, .int 0, .int 0, .ref a31, .ref a32, .ref a33, .ref a34, .ref a35, .ref a36, .ref a37, .ref a38, .ref a39, .ref a40, .ref a41])), (a30, .inl (z.2 4, 21, .inr (.inr (.inr (.inr (fun _ => none)))))), (a10, .inr (1, [.int 0, .int 1, .ref a42, .ref a43])), (a1, .inr (18, [.ref a44, .ref a45, .int 0, .ref a46, .int 0, .ref a47, .int 0, .null, .int 0, .null, .long 0, .int 0, .null])), (a44, .inr (17, [.int 0, .ref a48, .ref a49, .int 0, .ref a50, .ref a51, .ref a52, .null, .null, .int 0, .ref a53, .ref a54, .ref a55, .int 0, .ref a56, .int 1])), (a49, .inl (z.2 7, 0, .inr (.inr (.inr (.inr (fun _ => none))))))] H := hP
  have hD : va_D A [(a0, .inr (11, [.ref a4, .ref a5, .ref a6, .ref a7, .ref a8, .ref a9, .ref a10, .ref a11, .ref a12, .ref a13, .int 0, .int 0, .ref a14, .int 0])), (a4, .inr (0, [.ref a15, .int 0, .int 0, .int 0, .ref a16, .ref a17, .ref a18, .ref a19, .ref a20, .ref a21])), (a7, .inr (7, [.int 0, .ref a22, .ref a23, .ref a24, .ref a25, .ref a26, .int 0, .ref a27, .ref a28, .ref a29, .int 0])), (a8, .inr (3, [.ref a4, .ref a30, .int 0, .int 0, .ref a31, .ref a32, .ref a33, .ref a34, .ref a35, .ref a36, .ref a37, .ref a38, .ref a39, .ref a40, .ref a41])), (a30, .inl (z.2 4, 21, .inr (.inr (.inr (.inr (fun _ => none)))))), (a10, .inr (1, [.int 0, .int 1, .ref a42, .ref a43])), (a1, .inr (18, [.ref a44, .ref a45, .int 0, .ref a46, .int 0, .ref a47, .int 0, .null, .int 0, .null, .long 0, .int 0, .null])), (a44, .inr (17, [.int 0, .ref a48, .ref a49, .int 0, .ref a50, .ref a51, .ref a52, .null, .null, .int 0, .ref a53, .ref a54, .ref a55, .int 0, .ref a56, .int 1])), (a49, .inl (z.2 7, 0, .inr (.inr (.inr (.inr (fun _ => none))))))] := hD
  refine W.eq (g2 := F0 m 2898 ls [.long 0, .long 0]) rfl ?_
  refine W.lcmp hx hb d_law_2898 ?_
  refine nrm (x1 := 0) (by decide +kernel) ?_
  refine lv_if_eq (tgt := 3072) hx hb d_law_2899 (by decide) (fun _ => ?_) (fun c9 => absurd (by decide +kernel) c9)
  refine W.widen (k := 600002) (n := 7302232) (Nat.le_of_ble_eq_true rfl) (Nat.le_of_ble_eq_true rfl) ?_
  exact ht H locs ls hS (lv_sub hl [0, 5] rfl)
set_option maxRecDepth 100000 in
set_option maxHeartbeats 4000000 in
theorem L50_0 (l : Launch) (hl0 : l.stackTraces = false) (z : Zz) {p : Program} {e : Env} {s : State} {m : MethodId} {below : List Frame} {meth : Method} {c : Code} {A : Nat → Prop} {b : Nat} {xs : Nat → Int32} {Q : State → Prop} (hx : p.tables.exec = Jvm.exec) (hb : c.code = code) (hml : c.maxLocals = 9) (hts : ∀ w ∈ WG, w.before #[Value.ref b] s = true) (hown : s.vm.findClass "BallothallLaw" = some m.cls) (hA : ∀ q, s.heap.size ≤ q → A q) (hG : KG z s) (hZ : XZ A s) (hX : va_X b 4 xs s s.heap) (hbl : b < s.heap.size) (hbA : ¬ A b) (ht : ∀ (H : Heap) (locs : List Loc) (ls : Array Slot), va_S A s.heap H locs → lv_has ls 9 [(0, .ref b), (5, .int 0)] → W p l e room_1 s m #[Value.ref b] below meth c H locs 600002 7302232 Q (F0 m 3072 ls [])) (a0 : Nat) (a1 : Nat) (a2 : Nat) (a3 : Nat) (a4 : Nat) (a5 : Nat) (a6 : Nat) (a7 : Nat) (a8 : Nat) (a9 : Nat) (a10 : Nat) (a11 : Nat) (a12 : Nat) (a13 : Nat) (a14 : Nat) (a15 : Nat) (a16 : Nat) (a17 : Nat) (a18 : Nat) (a19 : Nat) (a20 : Nat) (a21 : Nat) (a22 : Nat) (a23 : Nat) (a24 : Nat) (a25 : Nat) (a26 : Nat) (a27 : Nat) (a28 : Nat) (a29 : Nat) (a30 : Nat) (a31 : Nat) (a32 : Nat) (a33 : Nat) (a34 : Nat) (h0 : (xs 1) < 0) (H : Heap) (locs : List Loc) (ls : Array Slot) (hP : va_P z.1 classes [(a0, .inr (11, [.ref a4, .ref a5, .ref a6, .ref a7, .ref a8, .ref a9, .ref a10, .ref a11, .ref a12, .ref a13, .int 0, .int 0, .ref a14, .int 0])), (a4, .inr (0, [.ref a15, .int 0, .int 0, .int 0, .ref a16, .ref a17, .ref a18, .ref a19, .ref a20, .ref a21])), (a1, .inr (18, [.ref a22, .ref a23, .int 0, .ref a24, .int 0, .ref a25, .int 0, .null, .int 0, .null, .long 0, .int 0, .null])), (a22, .inr (17, [.int 0, .ref a26, .ref a27, .int 0, .ref a28, .ref a29, .ref a30, .null, .null, .int 0, .ref a31, .ref a32, .ref a33, .int 0, .ref a34, .int 1]))] H) (hD : va_D A [(a0, .inr (11, [.ref a4, .ref a5, .ref a6, .ref a7, .ref a8, .ref a9, .ref a10, .ref a11, .ref a12, .ref a13, .int 0, .int 0, .ref a14, .int 0])), (a4, .inr (0, [.ref a15, .int 0, .int 0, .int 0, .ref a16, .ref a17, .ref a18, .ref a19, .ref a20, .ref a21])), (a1, .inr (18, [.ref a22, .ref a23, .int 0, .ref a24, .int 0, .ref a25, .int 0, .null, .int 0, .null, .long 0, .int 0, .null])), (a22, .inr (17, [.int 0, .ref a26, .ref a27, .int 0, .ref a28, .ref a29, .ref a30, .null, .null, .int 0, .ref a31, .ref a32, .ref a33, .int 0, .ref a34, .int 1]))]) (hS : va_S A s.heap H locs) (hl : lv_has ls 9 [(0, .ref b), (1, .ref a0), (2, .ref a1), (3, .ref a2), (4, .ref a3), (5, .int 0)]) : W p l e room_1 s m #[Value.ref b] below meth c H locs 265 8866 Q (F0 m 44 ls [.int 50]) := by
  refine lv_tableIn (tgt := 2904) hx hb d_law_44 (by decide +kernel) (by decide +kernel) rfl (by decide) ?_
  refine lv_aload_n hx hb d_law_2904 rfl (lv_at hl 1 rfl) ?_
  refine lv_aload_n hx hb d_law_2905 rfl (lv_at hl 0 rfl) ?_
  refine lv_iload hx hb d_law_2906 (lv_at hl 5 rfl) ?_
  refine lv_iconst (v := 1) hx hb d_law_2908 (by decide +kernel) ?_
  refine lv_iadd hx hb d_law_2909 ?_
  refine nrm (x1 := 1) (by decide +kernel) ?_
  refine va_sld hx hb hX hbl hbA hS (hin4 (i := 1) rfl) d_law_2910 ?_
  refine nrm (x1 := xs 1) rfl ?_
  refine lv_aload hx hb d_law_2911 (lv_at hl 4 rfl) ?_
  refine kH (As := [.ref a0, .int (xs 1), .ref a3]) (rest := []) (wr := [(a1, .inr (18, [.ref a22, .ref a23, .int 0, .ref a24, .int 0, .ref a25, .int 0, .null, .int 0, .null, .long 0, .int 0, .null])), (a22, .inr (17, [.int 0, .ref a26, .ref a27, .int 0, .ref a28, .ref a29, .ref a30, .null, .null, .int 0, .ref a31, .ref a32, .ref a33, .int 0, .ref a34, .int 1]))]) (c647_BLaw_meanRank l z hl0 a0 a3 a4 a5 a6 a7 a8 a9 a10 a11 a12 a13 a14 a15 a16 a17 a18 a19 a20 a21 (xs 1) h0) hx hb hml hown hts w_1553 w_1551 w_1552 w_0 md_3f8a01 ⟨Nat.le_of_ble_eq_true rfl, Nat.le_of_ble_eq_true rfl⟩ hG hZ hP hD hS hA [0, 1] [2, 3] rfl rfl rfl rfl rfl hl.1 rfl (Nat.le_of_ble_eq_true rfl) d_law_2913 ⟨Nat.le_of_ble_eq_true rfl, Nat.le_of_ble_eq_true rfl⟩ (fun u0 H locs hP hD hS => ?_)
  have hP : va_P z.1 classes [(a1, .inr (18, [.ref a22, .ref a23, .int 0, .ref a24, .int 0, .ref a25, .int 0, .null, .int 0, .null, .long 0, .int 0, .null])), (a22, .inr (17, [.int 0, .ref a26, .ref a27, .int 0, .ref a28, .ref a29, .ref a30, .null, .null, .int 0, .ref a31, .ref a32, .ref a33, .int 0, .ref a34, .int 1]))] H := hP
  have hD : va_D A [(a1, .inr (18, [.ref a22, .ref a23, .int 0, .ref a24, .int 0, .ref a25, .int 0, .null, .int 0, .null, .long 0, .int 0, .null])), (a22, .inr (17, [.int 0, .ref a26, .ref a27, .int 0, .ref a28, .ref a29, .ref a30, .null, .null, .int 0, .ref a31, .ref a32, .ref a33, .int 0, .ref a34, .int 1]))] := hD
  refine W.eq (g2 := F0 m 2916 ls [.int 1]) rfl ?_
  refine lv_istore (lv' := [(6, .int 1), (0, .ref b), (1, .ref a0), (2, .ref a1), (3, .ref a2), (4, .ref a3), (5, .int 0)]) hx hb d_law_2916 hl (by decide) rfl (fun ls hl => ?_)
  refine lv_aload_n hx hb d_law_2918 rfl (lv_at hl 3 rfl) ?_
  refine lv_aload_n hx hb d_law_2919 rfl (lv_at hl 1 rfl) ?_
  refine lv_iload hx hb d_law_2920 (lv_at hl 6 rfl) ?_
  refine lv_iconst (v := 1) hx hb d_law_2922 (by decide +kernel) ?_
  refine lv_iadd hx hb d_law_2923 ?_
  refine nrm (x1 := 1) (by decide +kernel) ?_
  refine va_sld hx hb hX hbl hbA hS (hin4 (i := 1) rfl) d_law_2924 ?_
  refine nrm (x1 := xs 1) rfl ?_
  refine kV (As := [.int (xs 1)]) (rest := []) (wr := []) (c648_BModel_meanRank l z a1 a22 a23 a24 a25 a26 a27 a28 a29 a30 a31 a32 a33 a34 (xs 1) h0) hx hb hml hown hts w_2505 w_2502 w_2503 w_2504 w_12 md_31c5cd ⟨Nat.le_of_ble_eq_true rfl, Nat.le_of_ble_eq_true rfl⟩ hG hZ hP hD hS hA 0 rfl rfl rfl [0, 1] [] rfl rfl rfl rfl rfl hl.1 rfl (Nat.le_of_ble_eq_true rfl) d_law_2925 ⟨Nat.le_of_ble_eq_true rfl, Nat.le_of_ble_eq_true rfl⟩ (fun u1 H locs hP hD hS => ?_)
  have hP : va_P z.1 classes [(a1, .inr (18, [.ref a22, .ref a23, .int 0, .ref a24, .int 0, .ref a25, .int 1, .null, .int 0, .null, .long 0, .int 0, .null])), (a22, .inr (17, [.int 0, .ref a26, .ref a27, .int 0, .ref a28, .ref a29, .ref a30, .null, .null, .int 0, .ref a31, .ref a32, .ref a33, .int 0, .ref a34, .int 1]))] H := hP
  have hD : va_D A [(a1, .inr (18, [.ref a22, .ref a23, .int 0, .ref a24, .int 0, .ref a25, .int 1, .null, .int 0, .null, .long 0, .int 0, .null])), (a22, .inr (17, [.int 0, .ref a26, .ref a27, .int 0, .ref a28, .ref a29, .ref a30, .null, .null, .int 0, .ref a31, .ref a32, .ref a33, .int 0, .ref a34, .int 1]))] := hD
  refine W.eq (g2 := F0 m 2928 ls [.double 0]) rfl ?_
  refine lv_dstore (lv' := [(7, .double 0), (6, .int 1), (0, .ref b), (1, .ref a0), (2, .ref a1), (3, .ref a2), (4, .ref a3), (5, .int 0)]) hx hb d_law_2928 hl (by decide) rfl (fun ls hl => ?_)
  refine lv_aload_n hx hb d_law_2930 rfl (lv_at hl 4 rfl) ?_
  refine kV (As := []) (rest := []) (wr := [(a22, .inr (17, [.int 0, .ref a26, .ref a27, .int 0, .ref a28, .ref a29, .ref a30, .null, .null, .int 0, .ref a31, .ref a32, .ref a33, .int 0, .ref a34, .int 1]))]) (c33_BModel_thrown l z a1 a22 a23 a24 a25) hx hb hml hown hts w_1688 w_1685 w_1686 w_1687 w_12 md_c48e0f ⟨Nat.le_of_ble_eq_true rfl, Nat.le_of_ble_eq_true rfl⟩ hG hZ hP hD hS hA 0 rfl rfl rfl [0] [1] rfl rfl rfl rfl rfl hl.1 rfl (Nat.le_of_ble_eq_true rfl) d_law_2931 ⟨Nat.le_of_ble_eq_true rfl, Nat.le_of_ble_eq_true rfl⟩ (fun u2 H locs hP hD hS => ?_)
  have hP : va_P z.1 classes [(a22, .inr (17, [.int 0, .ref a26, .ref a27, .int 0, .ref a28, .ref a29, .ref a30, .null, .null, .int 0, .ref a31, .ref a32, .ref a33, .int 0, .ref a34, .int 1])), (a1, .inr (18, [.ref a22, .ref a23, .int 0, .ref a24, .int 0, .ref a25, .int 1, .null, .int 0, .null, .long 0, .int 0, .null]))] H := hP
  have hD : va_D A [(a22, .inr (17, [.int 0, .ref a26, .ref a27, .int 0, .ref a28, .ref a29, .ref a30, .null, .null, .int 0, .ref a31, .ref a32, .ref a33, .int 0, .ref a34, .int 1])), (a1, .inr (18, [.ref a22, .ref a23, .int 0, .ref a24, .int 0, .ref a25, .int 1, .null, .int 0, .null, .long 0, .int 0, .null]))] := hD
  refine W.eq (g2 := F0 m 2934 ls [.int 1]) rfl ?_
  refine lv_iload hx hb d_law_2934 (lv_at hl 1 rfl) ?_
  refine lv_icmp_eq (tgt := 2941) hx hb d_law_2936 (by decide) (fun _ => ?_) (fun c9 => absurd (by decide +kernel) c9)
  refine lv_iload hx hb d_law_2941 (lv_at hl 1 rfl) ?_
  refine lv_if_ne (tgt := 2978) hx hb d_law_2943 (by decide) (fun _ => ?_) (fun c9 => absurd c9 (by decide +kernel))
  refine lv_goto (tgt := 3072) hx hb d_law_2978 (by decide) ?_
  refine W.widen (k := 600002) (n := 7302232) (Nat.le_of_ble_eq_true rfl) (Nat.le_of_ble_eq_true rfl) ?_
  exact ht H locs ls hS (lv_sub hl [2, 7] rfl)
set_option maxRecDepth 100000 in
set_option maxHeartbeats 4000000 in
theorem L50_1 (l : Launch) (hl0 : l.stackTraces = false) (z : Zz) {p : Program} {e : Env} {s : State} {m : MethodId} {below : List Frame} {meth : Method} {c : Code} {A : Nat → Prop} {b : Nat} {xs : Nat → Int32} {Q : State → Prop} (hx : p.tables.exec = Jvm.exec) (hb : c.code = code) (hml : c.maxLocals = 9) (hts : ∀ w ∈ WG, w.before #[Value.ref b] s = true) (hown : s.vm.findClass "BallothallLaw" = some m.cls) (hA : ∀ q, s.heap.size ≤ q → A q) (hG : KG z s) (hZ : XZ A s) (hX : va_X b 4 xs s s.heap) (hbl : b < s.heap.size) (hbA : ¬ A b) (ht : ∀ (H : Heap) (locs : List Loc) (ls : Array Slot), va_S A s.heap H locs → lv_has ls 9 [(0, .ref b), (5, .int 0)] → W p l e room_1 s m #[Value.ref b] below meth c H locs 600002 7302232 Q (F0 m 3072 ls [])) (a0 : Nat) (a1 : Nat) (a2 : Nat) (a3 : Nat) (a4 : Nat) (a5 : Nat) (a6 : Nat) (a7 : Nat) (a8 : Nat) (a9 : Nat) (a10 : Nat) (a11 : Nat) (a12 : Nat) (a13 : Nat) (a14 : Nat) (a15 : Nat) (a16 : Nat) (a17 : Nat) (a18 : Nat) (a19 : Nat) (a20 : Nat) (a21 : Nat) (a22 : Nat) (a23 : Nat) (a24 : Nat) (a25 : Nat) (a26 : Nat) (a27 : Nat) (a28 : Nat) (a29 : Nat) (a30 : Nat) (a31 : Nat) (a32 : Nat) (a33 : Nat) (a34 : Nat) (h0 : ¬ (xs 1) < 0) (h1 : (-1) < (xs 1)) (H : Heap) (locs : List Loc) (ls : Array Slot) (hP : va_P z.1 classes [(a0, .inr (11, [.ref a4, .ref a5, .ref a6, .ref a7, .ref a8, .ref a9, .ref a10, .ref a11, .ref a12, .ref a13, .int 0, .int 0, .ref a14, .int 0])), (a4, .inr (0, [.ref a15, .int 0, .int 0, .int 0, .ref a16, .ref a17, .ref a18, .ref a19, .ref a20, .ref a21])), (a1, .inr (18, [.ref a22, .ref a23, .int 0, .ref a24, .int 0, .ref a25, .int 0, .null, .int 0, .null, .long 0, .int 0, .null])), (a22, .inr (17, [.int 0, .ref a26, .ref a27, .int 0, .ref a28, .ref a29, .ref a30, .null, .null, .int 0, .ref a31, .ref a32, .ref a33, .int 0, .ref a34, .int 1]))] H) (hD : va_D A [(a0, .inr (11, [.ref a4, .ref a5, .ref a6, .ref a7, .ref a8, .ref a9, .ref a10, .ref a11, .ref a12, .ref a13, .int 0, .int 0, .ref a14, .int 0])), (a4, .inr (0, [.ref a15, .int 0, .int 0, .int 0, .ref a16, .ref a17, .ref a18, .ref a19, .ref a20, .ref a21])), (a1, .inr (18, [.ref a22, .ref a23, .int 0, .ref a24, .int 0, .ref a25, .int 0, .null, .int 0, .null, .long 0, .int 0, .null])), (a22, .inr (17, [.int 0, .ref a26, .ref a27, .int 0, .ref a28, .ref a29, .ref a30, .null, .null, .int 0, .ref a31, .ref a32, .ref a33, .int 0, .ref a34, .int 1]))]) (hS : va_S A s.heap H locs) (hl : lv_has ls 9 [(0, .ref b), (1, .ref a0), (2, .ref a1), (3, .ref a2), (4, .ref a3), (5, .int 0)]) : W p l e room_1 s m #[Value.ref b] below meth c H locs 265 8866 Q (F0 m 44 ls [.int 50]) := by
  refine lv_tableIn (tgt := 2904) hx hb d_law_44 (by decide +kernel) (by decide +kernel) rfl (by decide) ?_
  refine lv_aload_n hx hb d_law_2904 rfl (lv_at hl 1 rfl) ?_
  refine lv_aload_n hx hb d_law_2905 rfl (lv_at hl 0 rfl) ?_
  refine lv_iload hx hb d_law_2906 (lv_at hl 5 rfl) ?_
  refine lv_iconst (v := 1) hx hb d_law_2908 (by decide +kernel) ?_
  refine lv_iadd hx hb d_law_2909 ?_
  refine nrm (x1 := 1) (by decide +kernel) ?_
  refine va_sld hx hb hX hbl hbA hS (hin4 (i := 1) rfl) d_law_2910 ?_
  refine nrm (x1 := xs 1) rfl ?_
  refine lv_aload hx hb d_law_2911 (lv_at hl 4 rfl) ?_
  refine kH (As := [.ref a0, .int (xs 1), .ref a3]) (rest := []) (wr := [(a1, .inr (18, [.ref a22, .ref a23, .int 0, .ref a24, .int 0, .ref a25, .int 0, .null, .int 0, .null, .long 0, .int 0, .null])), (a22, .inr (17, [.int 0, .ref a26, .ref a27, .int 0, .ref a28, .ref a29, .ref a30, .null, .null, .int 0, .ref a31, .ref a32, .ref a33, .int 0, .ref a34, .int 1]))]) (c650_BLaw_meanRank l z hl0 a0 a3 a4 a5 a6 a7 a8 a9 a10 a11 a12 a13 a14 a15 a16 a17 a18 a19 a20 a21 (xs 1) h0) hx hb hml hown hts w_1553 w_1551 w_1552 w_0 md_3f8a01 ⟨Nat.le_of_ble_eq_true rfl, Nat.le_of_ble_eq_true rfl⟩ hG hZ hP hD hS hA [0, 1] [2, 3] rfl rfl rfl rfl rfl hl.1 rfl (Nat.le_of_ble_eq_true rfl) d_law_2913 ⟨Nat.le_of_ble_eq_true rfl, Nat.le_of_ble_eq_true rfl⟩ (fun u0 H locs hP hD hS => ?_)
  have hP : va_P z.1 classes [(a1, .inr (18, [.ref a22, .ref a23, .int 0, .ref a24, .int 0, .ref a25, .int 0, .null, .int 0, .null, .long 0, .int 0, .null])), (a22, .inr (17, [.int 0, .ref a26, .ref a27, .int 0, .ref a28, .ref a29, .ref a30, .null, .null, .int 0, .ref a31, .ref a32, .ref a33, .int 0, .ref a34, .int 1]))] H := hP
  have hD : va_D A [(a1, .inr (18, [.ref a22, .ref a23, .int 0, .ref a24, .int 0, .ref a25, .int 0, .null, .int 0, .null, .long 0, .int 0, .null])), (a22, .inr (17, [.int 0, .ref a26, .ref a27, .int 0, .ref a28, .ref a29, .ref a30, .null, .null, .int 0, .ref a31, .ref a32, .ref a33, .int 0, .ref a34, .int 1]))] := hD
  refine W.eq (g2 := F0 m 2916 ls [.int 1]) rfl ?_
  refine lv_istore (lv' := [(6, .int 1), (0, .ref b), (1, .ref a0), (2, .ref a1), (3, .ref a2), (4, .ref a3), (5, .int 0)]) hx hb d_law_2916 hl (by decide) rfl (fun ls hl => ?_)
  refine lv_aload_n hx hb d_law_2918 rfl (lv_at hl 3 rfl) ?_
  refine lv_aload_n hx hb d_law_2919 rfl (lv_at hl 1 rfl) ?_
  refine lv_iload hx hb d_law_2920 (lv_at hl 6 rfl) ?_
  refine lv_iconst (v := 1) hx hb d_law_2922 (by decide +kernel) ?_
  refine lv_iadd hx hb d_law_2923 ?_
  refine nrm (x1 := 1) (by decide +kernel) ?_
  refine va_sld hx hb hX hbl hbA hS (hin4 (i := 1) rfl) d_law_2924 ?_
  refine nrm (x1 := xs 1) rfl ?_
  refine kV (As := [.int (xs 1)]) (rest := []) (wr := []) (c651_BModel_meanRank l z a1 a22 a23 a24 a25 a26 a27 a28 a29 a30 a31 a32 a33 a34 (xs 1) h0 h1) hx hb hml hown hts w_2505 w_2502 w_2503 w_2504 w_12 md_31c5cd ⟨Nat.le_of_ble_eq_true rfl, Nat.le_of_ble_eq_true rfl⟩ hG hZ hP hD hS hA 0 rfl rfl rfl [0, 1] [] rfl rfl rfl rfl rfl hl.1 rfl (Nat.le_of_ble_eq_true rfl) d_law_2925 ⟨Nat.le_of_ble_eq_true rfl, Nat.le_of_ble_eq_true rfl⟩ (fun u1 H locs hP hD hS => ?_)
  have hP : va_P z.1 classes [(a1, .inr (18, [.ref a22, .ref a23, .int 0, .ref a24, .int 0, .ref a25, .int 1, .null, .int 0, .null, .long 0, .int 0, .null])), (a22, .inr (17, [.int 0, .ref a26, .ref a27, .int 0, .ref a28, .ref a29, .ref a30, .null, .null, .int 0, .ref a31, .ref a32, .ref a33, .int 0, .ref a34, .int 1]))] H := hP
  have hD : va_D A [(a1, .inr (18, [.ref a22, .ref a23, .int 0, .ref a24, .int 0, .ref a25, .int 1, .null, .int 0, .null, .long 0, .int 0, .null])), (a22, .inr (17, [.int 0, .ref a26, .ref a27, .int 0, .ref a28, .ref a29, .ref a30, .null, .null, .int 0, .ref a31, .ref a32, .ref a33, .int 0, .ref a34, .int 1]))] := hD
  refine W.eq (g2 := F0 m 2928 ls [.double 0]) rfl ?_
  refine lv_dstore (lv' := [(7, .double 0), (6, .int 1), (0, .ref b), (1, .ref a0), (2, .ref a1), (3, .ref a2), (4, .ref a3), (5, .int 0)]) hx hb d_law_2928 hl (by decide) rfl (fun ls hl => ?_)
  refine lv_aload_n hx hb d_law_2930 rfl (lv_at hl 4 rfl) ?_
  refine kV (As := []) (rest := []) (wr := [(a22, .inr (17, [.int 0, .ref a26, .ref a27, .int 0, .ref a28, .ref a29, .ref a30, .null, .null, .int 0, .ref a31, .ref a32, .ref a33, .int 0, .ref a34, .int 1]))]) (c33_BModel_thrown l z a1 a22 a23 a24 a25) hx hb hml hown hts w_1688 w_1685 w_1686 w_1687 w_12 md_c48e0f ⟨Nat.le_of_ble_eq_true rfl, Nat.le_of_ble_eq_true rfl⟩ hG hZ hP hD hS hA 0 rfl rfl rfl [0] [1] rfl rfl rfl rfl rfl hl.1 rfl (Nat.le_of_ble_eq_true rfl) d_law_2931 ⟨Nat.le_of_ble_eq_true rfl, Nat.le_of_ble_eq_true rfl⟩ (fun u2 H locs hP hD hS => ?_)
  have hP : va_P z.1 classes [(a22, .inr (17, [.int 0, .ref a26, .ref a27, .int 0, .ref a28, .ref a29, .ref a30, .null, .null, .int 0, .ref a31, .ref a32, .ref a33, .int 0, .ref a34, .int 1])), (a1, .inr (18, [.ref a22, .ref a23, .int 0, .ref a24, .int 0, .ref a25, .int 1, .null, .int 0, .null, .long 0, .int 0, .null]))] H := hP
  have hD : va_D A [(a22, .inr (17, [.int 0, .ref a26, .ref a27, .int 0, .ref a28, .ref a29, .ref a30, .null, .null, .int 0, .ref a31, .ref a32, .ref a33, .int 0, .ref a34, .int 1])), (a1, .inr (18, [.ref a22, .ref a23, .int 0, .ref a24, .int 0, .ref a25, .int 1, .null, .int 0, .null, .long 0, .int 0, .null]))] := hD
  refine W.eq (g2 := F0 m 2934 ls [.int 1]) rfl ?_
  refine lv_iload hx hb d_law_2934 (lv_at hl 1 rfl) ?_
  refine lv_icmp_eq (tgt := 2941) hx hb d_law_2936 (by decide) (fun _ => ?_) (fun c9 => absurd (by decide +kernel) c9)
  refine lv_iload hx hb d_law_2941 (lv_at hl 1 rfl) ?_
  refine lv_if_ne (tgt := 2978) hx hb d_law_2943 (by decide) (fun _ => ?_) (fun c9 => absurd c9 (by decide +kernel))
  refine lv_goto (tgt := 3072) hx hb d_law_2978 (by decide) ?_
  refine W.widen (k := 600002) (n := 7302232) (Nat.le_of_ble_eq_true rfl) (Nat.le_of_ble_eq_true rfl) ?_
  exact ht H locs ls hS (lv_sub hl [2, 7] rfl)
