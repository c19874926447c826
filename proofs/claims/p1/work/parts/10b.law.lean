set_option maxRecDepth 100000 in
set_option maxHeartbeats 4000000 in
theorem L9_1 (l : Launch) (hl0 : l.stackTraces = false) (z : Zz) {p : Program} {e : Env} {s : State} {m : MethodId} {below : List Frame} {meth : Method} {c : Code} {A : Nat → Prop} {b : Nat} {xs : Nat → Int32} {Q : State → Prop} (hx : p.tables.exec = Jvm.exec) (hb : c.code = code) (hml : c.maxLocals = 9) (hts : ∀ w ∈ WG, w.before #[Value.ref b] s = true) (hown : s.vm.findClass "BallothallLaw" = some m.cls) (hA : ∀ q, s.heap.size ≤ q → A q) (hG : KG z s) (hZ : XZ A s) (hX : va_X b 4 xs s s.heap) (hbl : b < s.heap.size) (hbA : ¬ A b) (ht : ∀ (H : Heap) (locs : List Loc) (ls : Array Slot), va_S A s.heap H locs → lv_has ls 9 [(0, .ref b), (5, .int 0)] → W p l e room_1 s m #[Value.ref b] below meth c H locs 600002 7302232 Q (F0 m 3072 ls [])) (a0 : Nat) (a1 : Nat) (a2 : Nat) (a3 : Nat) (a4 : Nat) (a5 : Nat) (a6 : Nat) (a7 : Nat) (a8 : Nat) (a9 : Nat) (a10 : Nat) (a11 : Nat) (a12 : Nat) (a13 : Nat) (a14 : Nat) (a15 : Nat) (a16 : Nat) (a17 : Nat) (a18 : Nat) (a19 : Nat) (a20 : Nat) (a21 : Nat) (a22 : Nat) (a23 : Nat) (a24 : Nat) (a25 : Nat) (a26 : Nat) (a27 : Nat) (a28 : Nat) (a29 : Nat) (a30 : Nat) (a31 : Nat) (a32 : Nat) (a33 : Nat) (a34 : Nat) (a35 : Nat) (h0 : ¬ (xs 1) < 0) (h1 : (-1) < (xs 1)) (H : Heap) (locs : List Loc) (ls : Array Slot) (hP : va_P z.1 classes [(a0, .inr (11, [.ref a4, .ref a5, .ref a6, .ref a7, .ref a8, .ref a9, .ref a10, .ref a11, .ref a12, .ref a13, .int 0, .int 0, .ref a14, .int 0])), (a7, .inr (7, [.int 0, .ref a15, .ref a16, .ref a17, .ref a18, .ref a19, .int 0, .ref a20, .ref a21, .ref a22, .int 0])), (a1, .inr (18, [.ref a23, .ref a24, .int 0, .ref a25, .int 0, .ref a26, .int 0, .null, .int 0, .null, .long 0, .int 0, .null])), (a23, .inr (17, [.int 0, .ref a27, .ref a28, .int 0, .ref a29, .ref a30, .ref a31, .null, .null, .int 0, .ref a32, .ref a33, .ref a34, .int 0, .ref a35, .int 1]))] H) (hD : va_D A [(a0, .inr (11, [.ref a4, .ref a5, .ref a6, .ref a7, .ref a8, .ref a9, .ref a10, .ref a11, .ref a12, .ref a13, .int 0, .int 0, .ref a14, .int 0])), (a7, .inr (7, [.int 0, .ref a15, .ref a16, .ref a17, .ref a18, .ref a19, .int 0, .ref a20, .ref a21, .ref a22, .int 0])), (a1, .inr (18, [.ref a23, .ref a24, .int 0, .ref a25, .int 0, .ref a26, .int 0, .null, .int 0, .null, .long 0, .int 0, .null])), (a23, .inr (17, [.int 0, .ref a27, .ref a28, .int 0, .ref a29, .ref a30, .ref a31, .null, .null, .int 0, .ref a32, .ref a33, .ref a34, .int 0, .ref a35, .int 1]))]) (hS : va_S A s.heap H locs) (hl : lv_has ls 9 [(0, .ref b), (1, .ref a0), (2, .ref a1), (3, .ref a2), (4, .ref a3), (5, .int 0)]) : W p l e room_1 s m #[Value.ref b] below meth c H locs 265 8866 Q (F0 m 44 ls [.int 9]) := by
  refine lv_tableIn (tgt := 845) hx hb d_law_44 (by decide +kernel) (by decide +kernel) rfl (by decide) ?_
  refine lv_aload_n hx hb d_law_845 rfl (lv_at hl 1 rfl) ?_
  refine lv_aload_n hx hb d_law_846 rfl (lv_at hl 0 rfl) ?_
  refine lv_iload hx hb d_law_847 (lv_at hl 5 rfl) ?_
  refine lv_iconst (v := 1) hx hb d_law_849 (by decide +kernel) ?_
  refine lv_iadd hx hb d_law_850 ?_
  refine nrm (x1 := 1) (by decide +kernel) ?_
  refine va_sld hx hb hX hbl hbA hS (hin4 (i := 1) rfl) d_law_851 ?_
  refine nrm (x1 := xs 1) rfl ?_
  refine lv_aload_n hx hb d_law_852 rfl (lv_at hl 0 rfl) ?_
  refine lv_iload hx hb d_law_853 (lv_at hl 5 rfl) ?_
  refine lv_iconst (v := 2) hx hb d_law_855 (by decide +kernel) ?_
  refine lv_iadd hx hb d_law_856 ?_
  refine nrm (x1 := 2) (by decide +kernel) ?_
  refine va_sld hx hb hX hbl hbA hS (hin4 (i := 2) rfl) d_law_857 ?_
  refine nrm (x1 := xs 2) rfl ?_
  refine lv_aload_n hx hb d_law_858 rfl (lv_at hl 3 rfl) ?_
  refine kH (As := [.ref a0, .int (xs 1), .int (xs 2), .ref a2]) (rest := []) (wr := [(a1, .inr (18, [.ref a23, .ref a24, .int 0, .ref a25, .int 0, .ref a26, .int 0, .null, .int 0, .null, .long 0, .int 0, .null])), (a23, .inr (17, [.int 0, .ref a27, .ref a28, .int 0, .ref a29, .ref a30, .ref a31, .null, .null, .int 0, .ref a32, .ref a33, .ref a34, .int 0, .ref a35, .int 1]))]) (c132_BLaw_setVotes l z hl0 a0 a2 a4 a5 a6 a7 a8 a9 a10 a11 a12 a13 a14 a15 a16 a17 a18 a19 a20 a21 a22 (xs 1) (xs 2) h0) hx hb hml hown hts w_980 w_978 w_979 w_0 md_c397b9 ⟨Nat.le_of_ble_eq_true rfl, Nat.le_of_ble_eq_true rfl⟩ hG hZ hP hD hS hA [0, 1] [2, 3] rfl rfl rfl rfl rfl hl.1 rfl (Nat.le_of_ble_eq_true rfl) d_law_859 ⟨Nat.le_of_ble_eq_true rfl, Nat.le_of_ble_eq_true rfl⟩ (fun u0 H locs hP hD hS => ?_)
  have hP : va_P z.1 classes [(a1, .inr (18, [.ref a23, .ref a24, .int 0, .ref a25, .int 0, .ref a26, .int 0, .null, .int 0, .null, .long 0, .int 0, .null])), (a23, .inr (17, [.int 0, .ref a27, .ref a28, .int 0, .ref a29, .ref a30, .ref a31, .null, .null, .int 0, .ref a32, .ref a33, .ref a34, .int 0, .ref a35, .int 1]))] H := hP
  have hD : va_D A [(a1, .inr (18, [.ref a23, .ref a24, .int 0, .ref a25, .int 0, .ref a26, .int 0, .null, .int 0, .null, .long 0, .int 0, .null])), (a23, .inr (17, [.int 0, .ref a27, .ref a28, .int 0, .ref a29, .ref a30, .ref a31, .null, .null, .int 0, .ref a32, .ref a33, .ref a34, .int 0, .ref a35, .int 1]))] := hD
  refine W.eq (g2 := F0 m 862 ls [.int 1]) rfl ?_
  refine lv_istore (lv' := [(6, .int 1), (0, .ref b), (1, .ref a0), (2, .ref a1), (3, .ref a2), (4, .ref a3), (5, .int 0)]) hx hb d_law_862 hl (by decide) rfl (fun ls hl => ?_)
  refine lv_aload_n hx hb d_law_864 rfl (lv_at hl 3 rfl) ?_
  refine lv_aload_n hx hb d_law_865 rfl (lv_at hl 1 rfl) ?_
  refine lv_iload hx hb d_law_866 (lv_at hl 6 rfl) ?_
  refine lv_iconst (v := 1) hx hb d_law_868 (by decide +kernel) ?_
  refine lv_iadd hx hb d_law_869 ?_
  refine nrm (x1 := 1) (by decide +kernel) ?_
  refine va_sld hx hb hX hbl hbA hS (hin4 (i := 1) rfl) d_law_870 ?_
  refine nrm (x1 := xs 1) rfl ?_
  refine lv_aload_n hx hb d_law_871 rfl (lv_at hl 1 rfl) ?_
  refine lv_iload hx hb d_law_872 (lv_at hl 6 rfl) ?_
  refine lv_iconst (v := 2) hx hb d_law_874 (by decide +kernel) ?_
  refine lv_iadd hx hb d_law_875 ?_
  refine nrm (x1 := 2) (by decide +kernel) ?_
  refine va_sld hx hb hX hbl hbA hS (hin4 (i := 2) rfl) d_law_876 ?_
  refine nrm (x1 := xs 2) rfl ?_
  refine kV (As := [.int (xs 1), .int (xs 2)]) (rest := []) (wr := []) (c133_BModel_setVotes l z a1 a23 a24 a25 a26 a27 a28 a29 a30 a31 a32 a33 a34 a35 (xs 1) (xs 2) h0 h1) hx hb hml hown hts w_1816 w_1813 w_1814 w_1815 w_12 md_9ca9ad ⟨Nat.le_of_ble_eq_true rfl, Nat.le_of_ble_eq_true rfl⟩ hG hZ hP hD hS hA 0 rfl rfl rfl [0, 1] [] rfl rfl rfl rfl rfl hl.1 rfl (Nat.le_of_ble_eq_true rfl) d_law_877 ⟨Nat.le_of_ble_eq_true rfl, Nat.le_of_ble_eq_true rfl⟩ (fun u1 H locs hP hD hS => ?_)
  have hP : va_P z.1 classes [(a1, .inr (18, [.ref a23, .ref a24, .int 0, .ref a25, .int 0, .ref a26, .int 1, .null, .int 0, .null, .long 0, .int 0, .null])), (a23, .inr (17, [.int 0, .ref a27, .ref a28, .int 0, .ref a29, .ref a30, .ref a31, .null, .null, .int 0, .ref a32, .ref a33, .ref a34, .int 0, .ref a35, .int 1]))] H := hP
  have hD : va_D A [(a1, .inr (18, [.ref a23, .ref a24, .int 0, .ref a25, .int 0, .ref a26, .int 1, .null, .int 0, .null, .long 0, .int 0, .null])), (a23, .inr (17, [.int 0, .ref a27, .ref a28, .int 0, .ref a29, .ref a30, .ref a31, .null, .null, .int 0, .ref a32, .ref a33, .ref a34, .int 0, .ref a35, .int 1]))] := hD
  refine W.eq (g2 := F0 m 880 ls [.int 0]) rfl ?_
  refine lv_istore (lv' := [(7, .int 0), (6, .int 1), (0, .ref b), (1, .ref a0), (2, .ref a1), (3, .ref a2), (4, .ref a3), (5, .int 0)]) hx hb d_law_880 hl (by decide) rfl (fun ls hl => ?_)
  refine lv_aload_n hx hb d_law_882 rfl (lv_at hl 4 rfl) ?_
  refine kV (As := []) (rest := []) (wr := [(a23, .inr (17, [.int 0, .ref a27, .ref a28, .int 0, .ref a29, .ref a30, .ref a31, .null, .null, .int 0, .ref a32, .ref a33, .ref a34, .int 0, .ref a35, .int 1]))]) (c33_BModel_thrown l z a1 a23 a24 a25 a26) hx hb hml hown hts w_1688 w_1685 w_1686 w_1687 w_12 md_c48e0f ⟨Nat.le_of_ble_eq_true rfl, Nat.le_of_ble_eq_true rfl⟩ hG hZ hP hD hS hA 0 rfl rfl rfl [0] [1] rfl rfl rfl rfl rfl hl.1 rfl (Nat.le_of_ble_eq_true rfl) d_law_883 ⟨Nat.le_of_ble_eq_true rfl, Nat.le_of_ble_eq_true rfl⟩ (fun u2 H locs hP hD hS => ?_)
  have hP : va_P z.1 classes [(a23, .inr (17, [.int 0, .ref a27, .ref a28, .int 0, .ref a29, .ref a30, .ref a31, .null, .null, .int 0, .ref a32, .ref a33, .ref a34, .int 0, .ref a35, .int 1])), (a1, .inr (18, [.ref a23, .ref a24, .int 0, .ref a25, .int 0, .ref a26, .int 1, .null, .int 0, .null, .long 0, .int 0, .null]))] H := hP
  have hD : va_D A [(a23, .inr (17, [.int 0, .ref a27, .ref a28, .int 0, .ref a29, .ref a30, .ref a31, .null, .null, .int 0, .ref a32, .ref a33, .ref a34, .int 0, .ref a35, .int 1])), (a1, .inr (18, [.ref a23, .ref a24, .int 0, .ref a25, .int 0, .ref a26, .int 1, .null, .int 0, .null, .long 0, .int 0, .null]))] := hD
  refine W.eq (g2 := F0 m 886 ls [.int 1]) rfl ?_
  refine lv_iload hx hb d_law_886 (lv_at hl 1 rfl) ?_
  refine lv_icmp_eq (tgt := 893) hx hb d_law_888 (by decide) (fun _ => ?_) (fun c9 => absurd (by decide +kernel) c9)
  refine lv_iload hx hb d_law_893 (lv_at hl 1 rfl) ?_
  refine lv_if_ne (tgt := 910) hx hb d_law_895 (by decide) (fun _ => ?_) (fun c9 => absurd c9 (by decide +kernel))
  refine lv_goto (tgt := 3072) hx hb d_law_910 (by decide) ?_
  refine W.widen (k := 600002) (n := 7302232) (Nat.le_of_ble_eq_true rfl) (Nat.le_of_ble_eq_true rfl) ?_
  exact ht H locs ls hS (lv_sub hl [2, 7] rfl)
set_option maxRecDepth 100000 in
set_option maxHeartbeats 4000000 in
theorem L10_0 (l : Launch) (hl0 : l.stackTraces = false) (z : Zz) {p : Program} {e : Env} {s : State} {m : MethodId} {below : List Frame} {meth : Method} {c : Code} {A : Nat → Prop} {b : Nat} {xs : Nat → Int32} {Q : State → Prop} (hx : p.tables.exec = Jvm.exec) (hb : c.code = code) (hml : c.maxLocals = 9) (hts : ∀ w ∈ WG, w.before #[Value.ref b] s = true) (hown : s.vm.findClass "BallothallLaw" = some m.cls) (hA : ∀ q, s.heap.size ≤ q → A q) (hG : KG z s) (hZ : XZ A s) (hX : va_X b 4 xs s s.heap) (hbl : b < s.heap.size) (hbA : ¬ A b) (ht : ∀ (H : Heap) (locs : List Loc) (ls : Array Slot), va_S A s.heap H locs → lv_has ls 9 [(0, .ref b), (5, .int 0)] → W p l e room_1 s m #[Value.ref b] below meth c H locs 600002 7302232 Q (F0 m 3072 ls [])) (a0 : Nat) (a1 : Nat) (a2 : Nat) (a3 : Nat) (a4 : Nat) (a5 : Nat) (a6 : Nat) (a7 : Nat) (a8 : Nat) (a9 : Nat) (a10 : Nat) (a11 : Nat) (a12 : Nat) (a13 : Nat) (a14 : Nat) (a15 : Nat) (a16 : Nat) (a17 : Nat) (a18 : Nat) (a19 : Nat) (a20 : Nat) (a21 : Nat) (a22 : Nat) (a23 : Nat) (a24 : Nat) (a25 : Nat) (a26 : Nat) (a27 : Nat) (a28 : Nat) (a29 : Nat) (a30 : Nat) (a31 : Nat) (a32 : Nat) (a33 : Nat) (a34 : Nat) (a35 : Nat) (h0 : (xs 1) < 0) (H : Heap) (locs : List Loc) (ls : Array Slot) (hP : va_P z.1 classes [(a0, .inr (11, [.ref a4, .ref a5, .ref a6, .ref a7, .ref a8, .ref a9, .ref a10, .ref a11, .ref a12, .ref a13, .int 0, .int 0, .ref a14, .int 0])), (a7, .inr (7, [.int 0, .ref a15, .ref a16, .ref a17, .ref a18, .ref a19, .int 0, .ref a20, .ref a21, .ref a22, .int 0])), (a1, .inr (18, [.ref a23, .ref a24, .int 0, .ref a25, .int 0, .ref a26, .int 0, .null, .int 0, .null, .long 0, .int 0, .null])), (a23, .inr (17, [.int 0, .ref a27, .ref a28, .int 0, .ref a29, .ref a30, .ref a31, .null, .null, .int 0, .ref a32, .ref a33, .ref a34, .int 0, .ref a35, .int 1]))] H) (hD : va_D A [(a0, .inr (11, [.ref a4, .ref a5, .ref a6, .ref a7, .ref a8, .ref a9, .ref a10, .ref a11, .ref a12, .ref a13, .int 0, .int 0, .ref a14, .int 0])), (a7, .inr (7, [.int 0, .ref a15, .ref a16, .ref a17, .ref a18, .ref a19, .int 0, .ref a20, .ref a21, .ref a22, .int 0])), (a1, .inr (18, [.ref a23, .ref a24, .int 0, .ref a25, .int 0, .ref a26, .int 0, .null, .int 0, .null, .long 0, .int 0, .null])), (a23, .inr (17, [.int 0, .ref a27, .ref a28, .int 0, .ref a29, .ref a30, .ref a31, .null, .null, .int 0, .ref a32, .ref a33, .ref a34, .int 0, .ref a35, .int 1]))]) (hS : va_S A s.heap H locs) (hl : lv_has ls 9 [(0, .ref b), (1, .ref a0), (2, .ref a1), (3, .ref a2), (4, .ref a3), (5, .int 0)]) : W p l e room_1 s m #[Value.ref b] below meth c H locs 265 8866 Q (F0 m 44 ls [.int 10]) := by
  refine lv_tableIn (tgt := 913) hx hb d_law_44 (by decide +kernel) (by decide +kernel) rfl (by decide) ?_
  refine lv_aload_n hx hb d_law_913 rfl (lv_at hl 1 rfl) ?_
  refine lv_aload_n hx hb d_law_914 rfl (lv_at hl 0 rfl) ?_
  refine lv_iload hx hb d_law_915 (lv_at hl 5 rfl) ?_
  refine lv_iconst (v := 1) hx hb d_law_917 (by decide +kernel) ?_
  refine lv_iadd hx hb d_law_918 ?_
  refine nrm (x1 := 1) (by decide +kernel) ?_
  refine va_sld hx hb hX hbl hbA hS (hin4 (i := 1) rfl) d_law_919 ?_
  refine nrm (x1 := xs 1) rfl ?_
  refine lv_aload_n hx hb d_law_920 rfl (lv_at hl 0 rfl) ?_
  refine lv_iload hx hb d_law_921 (lv_at hl 5 rfl) ?_
  refine lv_iconst (v := 2) hx hb d_law_923 (by decide +kernel) ?_
  refine lv_iadd hx hb d_law_924 ?_
  refine nrm (x1 := 2) (by decide +kernel) ?_
  refine va_sld hx hb hX hbl hbA hS (hin4 (i := 2) rfl) d_law_925 ?_
  refine nrm (x1 := xs 2) rfl ?_
  refine lv_aload_n hx hb d_law_926 rfl (lv_at hl 3 rfl) ?_
  refine kH (As := [.ref a0, .int (xs 1), .int (xs 2), .ref a2]) (rest := []) (wr := [(a1, .inr (18, [.ref a23, .ref a24, .int 0, .ref a25, .int 0, .ref a26, .int 0, .null, .int 0, .null, .long 0, .int 0, .null])), (a23, .inr (17, [.int 0, .ref a27, .ref a28, .int 0, .ref a29, .ref a30, .ref a31, .null, .null, .int 0, .ref a32, .ref a33, .ref a34, .int 0, .ref a35, .int 1]))]) (c135_BLaw_ally l z hl0 a0 a2 a4 a5 a6 a7 a8 a9 a10 a11 a12 a13 a14 a15 a16 a17 a18 a19 a20 a21 a22 (xs 1) (xs 2) h0) hx hb hml hown hts w_987 w_985 w_986 w_0 md_952981 ⟨Nat.le_of_ble_eq_true rfl, Nat.le_of_ble_eq_true rfl⟩ hG hZ hP hD hS hA [0, 1] [2, 3] rfl rfl rfl rfl rfl hl.1 rfl (Nat.le_of_ble_eq_true rfl) d_law_927 ⟨Nat.le_of_ble_eq_true rfl, Nat.le_of_ble_eq_true rfl⟩ (fun u0 H locs hP hD hS => ?_)
  have hP : va_P z.1 classes [(a1, .inr (18, [.ref a23, .ref a24, .int 0, .ref a25, .int 0, .ref a26, .int 0, .null, .int 0, .null, .long 0, .int 0, .null])), (a23, .inr (17, [.int 0, .ref a27, .ref a28, .int 0, .ref a29, .ref a30, .ref a31, .null, .null, .int 0, .ref a32, .ref a33, .ref a34, .int 0, .ref a35, .int 1]))] H := hP
  have hD : va_D A [(a1, .inr (18, [.ref a23, .ref a24, .int 0, .ref a25, .int 0, .ref a26, .int 0, .null, .int 0, .null, .long 0, .int 0, .null])), (a23, .inr (17, [.int 0, .ref a27, .ref a28, .int 0, .ref a29, .ref a30, .ref a31, .null, .null, .int 0, .ref a32, .ref a33, .ref a34, .int 0, .ref a35, .int 1]))] := hD
  refine W.eq (g2 := F0 m 930 ls [.int 1]) rfl ?_
  refine lv_istore (lv' := [(6, .int 1), (0, .ref b), (1, .ref a0), (2, .ref a1), (3, .ref a2), (4, .ref a3), (5, .int 0)]) hx hb d_law_930 hl (by decide) rfl (fun ls hl => ?_)
  refine lv_aload_n hx hb d_law_932 rfl (lv_at hl 3 rfl) ?_
  refine lv_aload_n hx hb d_law_933 rfl (lv_at hl 1 rfl) ?_
  refine lv_iload hx hb d_law_934 (lv_at hl 6 rfl) ?_
  refine lv_iconst (v := 1) hx hb d_law_936 (by decide +kernel) ?_
  refine lv_iadd hx hb d_law_937 ?_
  refine nrm (x1 := 1) (by decide +kernel) ?_
  refine va_sld hx hb hX hbl hbA hS (hin4 (i := 1) rfl) d_law_938 ?_
  refine nrm (x1 := xs 1) rfl ?_
  refine lv_aload_n hx hb d_law_939 rfl (lv_at hl 1 rfl) ?_
  refine lv_iload hx hb d_law_940 (lv_at hl 6 rfl) ?_
  refine lv_iconst (v := 2) hx hb d_law_942 (by decide +kernel) ?_
  refine lv_iadd hx hb d_law_943 ?_
  refine nrm (x1 := 2) (by decide +kernel) ?_
  refine va_sld hx hb hX hbl hbA hS (hin4 (i := 2) rfl) d_law_944 ?_
  refine nrm (x1 := xs 2) rfl ?_
  refine kV (As := [.int (xs 1), .int (xs 2)]) (rest := []) (wr := []) (c136_BModel_ally l z a1 a23 a24 a25 a26 a27 a28 a29 a30 a31 a32 a33 a34 a35 (xs 1) (xs 2) h0) hx hb hml hown hts w_1820 w_1817 w_1818 w_1819 w_12 md_3f8884 ⟨Nat.le_of_ble_eq_true rfl, Nat.le_of_ble_eq_true rfl⟩ hG hZ hP hD hS hA 0 rfl rfl rfl [0, 1] [] rfl rfl rfl rfl rfl hl.1 rfl (Nat.le_of_ble_eq_true rfl) d_law_945 ⟨Nat.le_of_ble_eq_true rfl, Nat.le_of_ble_eq_true rfl⟩ (fun u1 H locs hP hD hS => ?_)
  have hP : va_P z.1 classes [(a1, .inr (18, [.ref a23, .ref a24, .int 0, .ref a25, .int 0, .ref a26, .int 1, .null, .int 0, .null, .long 0, .int 0, .null])), (a23, .inr (17, [.int 0, .ref a27, .ref a28, .int 0, .ref a29, .ref a30, .ref a31, .null, .null, .int 0, .ref a32, .ref a33, .ref a34, .int 0, .ref a35, .int 1]))] H := hP
  have hD : va_D A [(a1, .inr (18, [.ref a23, .ref a24, .int 0, .ref a25, .int 0, .ref a26, .int 1, .null, .int 0, .null, .long 0, .int 0, .null])), (a23, .inr (17, [.int 0, .ref a27, .ref a28, .int 0, .ref a29, .ref a30, .ref a31, .null, .null, .int 0, .ref a32, .ref a33, .ref a34, .int 0, .ref a35, .int 1]))] := hD
  refine W.eq (g2 := F0 m 948 ls [.int 0]) rfl ?_
  refine lv_istore (lv' := [(7, .int 0), (6, .int 1), (0, .ref b), (1, .ref a0), (2, .ref a1), (3, .ref a2), (4, .ref a3), (5, .int 0)]) hx hb d_law_948 hl (by decide) rfl (fun ls hl => ?_)
  refine lv_aload_n hx hb d_law_950 rfl (lv_at hl 4 rfl) ?_
  refine kV (As := []) (rest := []) (wr := [(a23, .inr (17, [.int 0, .ref a27, .ref a28, .int 0, .ref a29, .ref a30, .ref a31, .null, .null, .int 0, .ref a32, .ref a33, .ref a34, .int 0, .ref a35, .int 1]))]) (c33_BModel_thrown l z a1 a23 a24 a25 a26) hx hb hml hown hts w_1688 w_1685 w_1686 w_1687 w_12 md_c48e0f ⟨Nat.le_of_ble_eq_true rfl, Nat.le_of_ble_eq_true rfl⟩ hG hZ hP hD hS hA 0 rfl rfl rfl [0] [1] rfl rfl rfl rfl rfl hl.1 rfl (Nat.le_of_ble_eq_true rfl) d_law_951 ⟨Nat.le_of_ble_eq_true rfl, Nat.le_of_ble_eq_true rfl⟩ (fun u2 H locs hP hD hS => ?_)
  have hP : va_P z.1 classes [(a23, .inr (17, [.int 0, .ref a27, .ref a28, .int 0, .ref a29, .ref a30, .ref a31, .null, .null, .int 0, .ref a32, .ref a33, .ref a34, .int 0, .ref a35, .int 1])), (a1, .inr (18, [.ref a23, .ref a24, .int 0, .ref a25, .int 0, .ref a26, .int 1, .null, .int 0, .null, .long 0, .int 0, .null]))] H := hP
  have hD : va_D A [(a23, .inr (17, [.int 0, .ref a27, .ref a28, .int 0, .ref a29, .ref a30, .ref a31, .null, .null, .int 0, .ref a32, .ref a33, .ref a34, .int 0, .ref a35, .int 1])), (a1, .inr (18, [.ref a23, .ref a24, .int 0, .ref a25, .int 0, .ref a26, .int 1, .null, .int 0, .null, .long 0, .int 0, .null]))] := hD
  refine W.eq (g2 := F0 m 954 ls [.int 1]) rfl ?_
  refine lv_iload hx hb d_law_954 (lv_at hl 1 rfl) ?_
  refine lv_icmp_eq (tgt := 961) hx hb d_law_956 (by decide) (fun _ => ?_) (fun c9 => absurd (by decide +kernel) c9)
  refine lv_iload hx hb d_law_961 (lv_at hl 1 rfl) ?_
  refine lv_if_ne (tgt := 978) hx hb d_law_963 (by decide) (fun _ => ?_) (fun c9 => absurd c9 (by decide +kernel))
  refine lv_goto (tgt := 3072) hx hb d_law_978 (by decide) ?_
  refine W.widen (k := 600002) (n := 7302232) (Nat.le_of_ble_eq_true rfl) (Nat.le_of_ble_eq_true rfl) ?_
  exact ht H locs ls hS (lv_sub hl [2, 7] rfl)
set_option maxRecDepth 100000 in
set_option maxHeartbeats 4000000 in
theorem L10_1 (l : Launch) (hl0 : l.stackTraces = false) (z : Zz) {p : Program} {e : Env} {s : State} {m : MethodId} {below : List Frame} {meth : Method} {c : Code} {A : Nat → Prop} {b : Nat} {xs : Nat → Int32} {Q : State → Prop} (hx : p.tables.exec = Jvm.exec) (hb : c.code = code) (hml : c.maxLocals = 9) (hts : ∀ w ∈ WG, w.before #[Value.ref b] s = true) (hown : s.vm.findClass "BallothallLaw" = some m.cls) (hA : ∀ q, s.heap.size ≤ q → A q) (hG : KG z s) (hZ : XZ A s) (hX : va_X b 4 xs s s.heap) (hbl : b < s.heap.size) (hbA : ¬ A b) (ht : ∀ (H : Heap) (locs : List Loc) (ls : Array Slot), va_S A s.heap H locs → lv_has ls 9 [(0, .ref b), (5, .int 0)] → W p l e room_1 s m #[Value.ref b] below meth c H locs 600002 7302232 Q (F0 m 3072 ls [])) (a0 : Nat) (a1 : Nat) (a2 : Nat) (a3 : Nat) (a4 : Nat) (a5 : Nat) (a6 : Nat) (a7 : Nat) (a8 : Nat) (a9 : Nat) (a10 : Nat) (a11 : Nat) (a12 : Nat) (a13 : Nat) (a14 : Nat) (a15 : Nat) (a16 : Nat) (a17 : Nat) (a18 : Nat) (a19 : Nat) (a20 : Nat) (a21 : Nat) (a22 : Nat) (a23 : Nat) (a24 : Nat) (a25 : Nat) (a26 : Nat) (a27 : Nat) (a28 : Nat) (a29 : Nat) (a30 : Nat) (a31 : Nat) (a32 : Nat) (a33 : Nat) (a34 : Nat) (a35 : Nat) (h0 : ¬ (xs 1) < 0) (h1 : (-1) < (xs 1)) (H : Heap) (locs : List Loc) (ls : Array Slot) (hP : va_P z.1 classes [(a0, .inr (11, [.ref a4, .ref a5, .ref a6, .ref a7, .ref a8, .ref a9, .ref a10, .ref a11, .ref a12, .ref a13, .int 0, .int 0, .ref a14, .int 0])), (a7, .inr (7, [.int 0, .ref a15, .ref a16, .ref a17, .ref a18, .ref a19, .int 0, .ref a20, .ref a21, .ref a22, .int 0])), (a1, .inr (18, [.ref a23, .ref a24, .int 0, .ref a25, .int 0, .ref a26, .int 0, .null, .int 0, .null, .long 0, .int 0, .null])), (a23, .inr (17, [.int 0, .ref a27, .ref a28, .int 0, .ref a29, .ref a30, .ref a31, .null, .null, .int 0, .ref a32, .ref a33, .ref a34, .int 0, .ref a35, .int 1]))] H) (hD : va_D A [(a0, .inr (11, [.ref a4, .ref a5, .ref a6, .ref a7, .ref a8, .ref a9, .ref a10, .ref a11, .ref a12, .ref a13, .int 0, .int 0, .ref a14, .int 0])), (a7, .inr (7, [.int 0, .ref a15, .ref a16, .ref a17, .ref a18, .ref a19, .int 0, .ref a20, .ref a21, .ref a22, .int 0])), (a1, .inr (18, [.ref a23, .ref a24, .int 0, .ref a25, .int 0, .ref a26, .int 0, .null, .int 0, .null, .long 0, .int 0, .null])), (a23, .inr (17, [.int 0, .ref a27, .ref a28, .int 0, .ref a29, .ref a30, .ref a31, .null, .null, .int 0, .ref a32, .ref a33, .ref a34, .int 0, .ref a35, .int 1]))]) (hS : va_S A s.heap H locs) (hl : lv_has ls 9 [(0, .ref b), (1, .ref a0), (2, .ref a1), (3, .ref a2), (4, .ref a3), (5, .int 0)]) : W p l e room_1 s m #[Value.ref b] below meth c H locs 265 8866 Q (F0 m 44 ls [.int 10]) := by
  refine lv_tableIn (tgt := 913) hx hb d_law_44 (by decide +kernel) (by decide +kernel) rfl (by decide) ?_
  refine lv_aload_n hx hb d_law_913 rfl (lv_at hl 1 rfl) ?_
  refine lv_aload_n hx hb d_law_914 rfl (lv_at hl 0 rfl) ?_
  refine lv_iload hx hb d_law_915 (lv_at hl 5 rfl) ?_
  refine lv_iconst (v := 1) hx hb d_law_917 (by decide +kernel) ?_
  refine lv_iadd hx hb d_law_918 ?_
  refine nrm (x1 := 1) (by decide +kernel) ?_
  refine va_sld hx hb hX hbl hbA hS (hin4 (i := 1) rfl) d_law_919 ?_
  refine nrm (x1 := xs 1) rfl ?_
  refine lv_aload_n hx hb d_law_920 rfl (lv_at hl 0 rfl) ?_
  refine lv_iload hx hb d_law_921 (lv_at hl 5 rfl) ?_
  refine lv_iconst (v := 2) hx hb d_law_923 (by decide +kernel) ?_
  refine lv_iadd hx hb d_law_924 ?_
  refine nrm (x1 := 2) (by decide +kernel) ?_
  refine va_sld hx hb hX hbl hbA hS (hin4 (i := 2) rfl) d_law_925 ?_
  refine nrm (x1 := xs 2) rfl ?_
  refine lv_aload_n hx hb d_law_926 rfl (lv_at hl 3 rfl) ?_
  refine kH (As := [.ref a0, .int (xs 1), .int (xs 2), .ref a2]) (rest := []) (wr := [(a1, .inr (18, [.ref a23, .ref a24, .int 0, .ref a25, .int 0, .ref a26, .int 0, .null, .int 0, .null, .long 0, .int 0, .null])), (a23, .inr (17, [.int 0, .ref a27, .ref a28, .int 0, .ref a29, .ref a30, .ref a31, .null, .null, .int 0, .ref a32, .ref a33, .ref a34, .int 0, .ref a35, .int 1]))]) (c138_BLaw_ally l z hl0 a0 a2 a4 a5 a6 a7 a8 a9 a10 a11 a12 a13 a14 a15 a16 a17 a18 a19 a20 a21 a22 (xs 1) (xs 2) h0) hx hb hml hown hts w_987 w_985 w_986 w_0 md_952981 ⟨Nat.le_of_ble_eq_true rfl, Nat.le_of_ble_eq_true rfl⟩ hG hZ hP hD hS hA [0, 1] [2, 3] rfl rfl rfl rfl rfl hl.1 rfl (Nat.le_of_ble_eq_true rfl) d_law_927 ⟨Nat.le_of_ble_eq_true rfl, Nat.le_of_ble_eq_true rfl⟩ (fun u0 H locs hP hD hS => ?_)
  have hP : va_P z.1 classes [(a1, .inr (18, [.ref a23, .ref a24, .int 0, .ref a25, .int 0, .ref a26, .int 0, .null, .int 0, .null, .long 0, .int 0, .null])), (a23, .inr (17, [.int 0, .ref a27, .ref a28, .int 0, .ref a29, .ref a30, .ref a31, .null, .null, .int 0, .ref a32, .ref a33, .ref a34, .int 0, .ref a35, .int 1]))] H := hP
  have hD : va_D A [(a1, .inr (18, [.ref a23, .ref a24, .int 0, .ref a25, .int 0, .ref a26, .int 0, .null, .int 0, .null, .long 0, .int 0, .null])), (a23, .inr (17, [.int 0, .ref a27, .ref a28, .int 0, .ref a29, .ref a30, .ref a31, .null, .null, .int 0, .ref a32, .ref a33, .ref a34, .int 0, .ref a35, .int 1]))] := hD
  refine W.eq (g2 := F0 m 930 ls [.int 1]) rfl ?_
  refine lv_istore (lv' := [(6, .int 1), (0, .ref b), (1, .ref a0), (2, .ref a1), (3, .ref a2), (4, .ref a3), (5, .int 0)]) hx hb d_law_930 hl (by decide) rfl (fun ls hl => ?_)
  refine lv_aload_n hx hb d_law_932 rfl (lv_at hl 3 rfl) ?_
  refine lv_aload_n hx hb d_law_933 rfl (lv_at hl 1 rfl) ?_
  refine lv_iload hx hb d_law_934 (lv_at hl 6 rfl) ?_
  refine lv_iconst (v := 1) hx hb d_law_936 (by decide +kernel) ?_
  refine lv_iadd hx hb d_law_937 ?_
  refine nrm (x1 := 1) (by decide +kernel) ?_
  refine va_sld hx hb hX hbl hbA hS (hin4 (i := 1) rfl) d_law_938 ?_
  refine nrm (x1 := xs 1) rfl ?_
  refine lv_aload_n hx hb d_law_939 rfl (lv_at hl 1 rfl) ?_
  refine lv_iload hx hb d_law_940 (lv_at hl 6 rfl) ?_
  refine lv_iconst (v := 2) hx hb d_law_942 (by decide +kernel) ?_
  refine lv_iadd hx hb d_law_943 ?_
  refine nrm (x1 := 2) (by decide +kernel) ?_
  refine va_sld hx hb hX hbl hbA hS (hin4 (i := 2) rfl) d_law_944 ?_
  refine nrm (x1 := xs 2) rfl ?_
  refine kV (As := [.int (xs 1), .int (xs 2)]) (rest := []) (wr := []) (c139_BModel_ally l z a1 a23 a24 a25 a26 a27 a28 a29 a30 a31 a32 a33 a34 a35 (xs 1) (xs 2) h0 h1) hx hb hml hown hts w_1820 w_1817 w_1818 w_1819 w_12 md_3f8884 ⟨Nat.le_of_ble_eq_true rfl, Nat.le_of_ble_eq_true rfl⟩ hG hZ hP hD hS hA 0 rfl rfl rfl [0, 1] [] rfl rfl rfl rfl rfl hl.1 rfl (Nat.le_of_ble_eq_true rfl) d_law_945 ⟨Nat.le_of_ble_eq_true rfl, Nat.le_of_ble_eq_true rfl⟩ (fun u1 H locs hP hD hS => ?_)
  have hP : va_P z.1 classes [(a1, .inr (18, [.ref a23, .ref a24, .int 0, .ref a25, .int 0, .ref a26, .int 1, .null, .int 0, .null, .long 0, .int 0, .null])), (a23, .inr (17, [.int 0, .ref a27, .ref a28, .int 0, .ref a29, .ref a30, .ref a31, .null, .null, .int 0, .ref a32, .ref a33, .ref a34, .int 0, .ref a35, .int 1]))] H := hP
  have hD : va_D A [(a1, .inr (18, [.ref a23, .ref a24, .int 0, .ref a25, .int 0, .ref a26, .int 1, .null, .int 0, .null, .long 0, .int 0, .null])), (a23, .inr (17, [.int 0, .ref a27, .ref a28, .int 0, .ref a29, .ref a30, .ref a31, .null, .null, .int 0, .ref a32, .ref a33, .ref a34, .int 0, .ref a35, .int 1]))] := hD
  refine W.eq (g2 := F0 m 948 ls [.int 0]) rfl ?_
  refine lv_istore (lv' := [(7, .int 0), (6, .int 1), (0, .ref b), (1, .ref a0), (2, .ref a1), (3, .ref a2), (4, .ref a3), (5, .int 0)]) hx hb d_law_948 hl (by decide) rfl (fun ls hl => ?_)
  refine lv_aload_n hx hb d_law_950 rfl (lv_at hl 4 rfl) ?_
  refine kV (As := []) (rest := []) (wr := [(a23, .inr (17, [.int 0, .ref a27, .ref a28, .int 0, .ref a29, .ref a30, .ref a31, .null, .null, .int 0, .ref a32, .ref a33, .ref a34, .int 0, .ref a35, .int 1]))]) (c33_BModel_thrown l z a1 a23 a24 a25 a26) hx hb hml hown hts w_1688 w_1685 w_1686 w_1687 w_12 md_c48e0f ⟨Nat.le_of_ble_eq_true rfl, Nat.le_of_ble_eq_true rfl⟩ hG hZ hP hD hS hA 0 rfl rfl rfl [0] [1] rfl rfl rfl rfl rfl hl.1 rfl (Nat.le_of_ble_eq_true rfl) d_law_951 ⟨Nat.le_of_ble_eq_true rfl, Nat.le_of_ble_eq_true rfl⟩ (fun u2 H locs hP hD hS => ?_)
  have hP : va_P z.1 classes [(a23, .inr (17, [.int 0, .ref a27, .ref a28, .int 0, .ref a29, .ref a30, .ref a31, .null, .null, .int 0, .ref a32, .ref a33, .ref a34, .int 0, .ref a35, .int 1])), (a1, .inr (18, [.ref a23, .ref a24, .int 0, .ref a25, .int 0, .ref a26, .int 1, .null, .int 0, .null, .long 0, .int 0, .null]))] H := hP
  have hD : va_D A [(a23, .inr (17, [.int 0, .ref a27, .ref a28, .int 0, .ref a29, .ref a30, .ref a31, .null, .null, .int 0, .ref a32, .ref a33, .ref a34, .int 0, .ref a35, .int 1])), (a1, .inr (18, [.ref a23, .ref a24, .int 0, .ref a25, .int 0, .ref a26, .int 1, .null, .int 0, .null, .long 0, .int 0, .null]))] := hD
  refine W.eq (g2 := F0 m 954 ls [.int 1]) rfl ?_
  refine lv_iload hx hb d_law_954 (lv_at hl 1 rfl) ?_
  refine lv_icmp_eq (tgt := 961) hx hb d_law_956 (by decide) (fun _ => ?_) (fun c9 => absurd (by decide +kernel) c9)
  refine lv_iload hx hb d_law_961 (lv_at hl 1 rfl) ?_
  refine lv_if_ne (tgt := 978) hx hb d_law_963 (by decide) (fun _ => ?_) (fun c9 => absurd c9 (by decide +kernel))
  refine lv_goto (tgt := 3072) hx hb d_law_978 (by decide) ?_
  refine W.widen (k := 600002) (n := 7302232) (Nat.le_of_ble_eq_true rfl) (Nat.le_of_ble_eq_true rfl) ?_
  exact ht H locs ls hS (lv_sub hl [2, 7] rfl)
set_option maxRecDepth 100000 in
set_option maxHeartbeats 4000000 in
theorem L11_0 (l : Launch) (hl0 : l.stackTraces = false) (z : Zz) {p : Program} {e : Env} {s : State} {m : MethodId} {below : List Frame} {meth : Method} {c : Code} {A : Nat → Prop} {b : Nat} {xs : Nat → Int32} {Q : State → Prop} (hx : p.tables.exec = Jvm.exec) (hb : c.code = code) (hml : c.maxLocals = 9) (hts : ∀ w ∈ WG, w.before #[Value.ref b] s = true) (hown : s.vm.findClass "BallothallLaw" = some m.cls) (hA : ∀ q, s.heap.size ≤ q → A q) (hG : KG z s) (hZ : XZ A s) (hX : va_X b 4 xs s s.heap) (hbl : b < s.heap.size) (hbA : ¬ A b) (ht : ∀ (H : Heap) (locs : List Loc) (ls : Array Slot), va_S A s.heap H locs → lv_has ls 9 [(0, .ref b), (5, .int 0)] → W p l e room_1 s m #[Value.ref b] below meth c H locs 600002 7302232 Q (F0 m 3072 ls [])) (a0 : Nat) (a1 : Nat) (a2 : Nat) (a3 : Nat) (a4 : Nat) (a5 : Nat) (a6 : Nat) (a7 : Nat) (a8 : Nat) (a9 : Nat) (a10 : Nat) (a11 : Nat) (a12 : Nat) (a13 : Nat) (a14 : Nat) (a15 : Nat) (a16 : Nat) (a17 : Nat) (a18 : Nat) (h0 : (xs 1) < 0) (H : Heap) (locs : List Loc) (ls : Array Slot) (hP : va_P z.1 classes [(a0, .inr (11, [.ref a4, .ref a5, .ref a6, .ref a7, .ref a8, .ref a9, .ref a10, .ref a11, .ref a12, .ref a13, .int 0, .int 0, .ref a14, .int 0])), (a1, .inr (18, [.ref a15, .ref a16, .int 0, .ref a17, .int 0, .ref a18, .int 0, .null, .int 0, .null, .long 0, .int 0, .null]))] H) (hD : va_D A [(a0, .inr (11, [.ref a4, .ref a5, .ref a6, .ref a7, .ref a8, .ref a9, .ref a10, .ref a11, .ref a12, .ref a13, .int 0, .int 0, .ref a14, .int 0])), (a1, .inr (18, [.ref a15, .ref a16, .int 0, .ref a17, .int 0, .ref a18, .int 0, .null, .int 0, .null, .long 0, .int 0, .null]))]) (hS : va_S A s.heap H locs) (hl : lv_has ls 9 [(0, .ref b), (1, .ref a0), (2, .ref a1), (3, .ref a2), (4, .ref a3), (5, .int 0)]) : W p l e room_1 s m #[Value.ref b] below meth c H locs 265 8866 Q (F0 m 44 ls [.int 11]) := by
  refine lv_tableIn (tgt := 981) hx hb d_law_44 (by decide +kernel) (by decide +kernel) rfl (by decide) ?_
  refine lv_aload_n hx hb d_law_981 rfl (lv_at hl 1 rfl) ?_
  refine lv_aload_n hx hb d_law_982 rfl (lv_at hl 0 rfl) ?_
  refine lv_iload hx hb d_law_983 (lv_at hl 5 rfl) ?_
  refine lv_iconst (v := 1) hx hb d_law_985 (by decide +kernel) ?_
  refine lv_iadd hx hb d_law_986 ?_
  refine nrm (x1 := 1) (by decide +kernel) ?_
  refine va_sld hx hb hX hbl hbA hS (hin4 (i := 1) rfl) d_law_987 ?_
  refine nrm (x1 := xs 1) rfl ?_
  refine lv_aload_n hx hb d_law_988 rfl (lv_at hl 0 rfl) ?_
  refine lv_iload hx hb d_law_989 (lv_at hl 5 rfl) ?_
  refine lv_iconst (v := 2) hx hb d_law_991 (by decide +kernel) ?_
  refine lv_iadd hx hb d_law_992 ?_
  refine nrm (x1 := 2) (by decide +kernel) ?_
  refine va_sld hx hb hX hbl hbA hS (hin4 (i := 2) rfl) d_law_993 ?_
  refine nrm (x1 := xs 2) rfl ?_
  refine lv_aload_n hx hb d_law_994 rfl (lv_at hl 0 rfl) ?_
  refine lv_iload hx hb d_law_995 (lv_at hl 5 rfl) ?_
  refine lv_iconst (v := 3) hx hb d_law_997 (by decide +kernel) ?_
  refine lv_iadd hx hb d_law_998 ?_
  refine nrm (x1 := 3) (by decide +kernel) ?_
  refine va_sld hx hb hX hbl hbA hS (hin4 (i := 3) rfl) d_law_999 ?_
  refine nrm (x1 := xs 3) rfl ?_
  refine lv_aload_n hx hb d_law_1000 rfl (lv_at hl 3 rfl) ?_
  refine kH (As := [.ref a0, .int (xs 1), .int (xs 2), .int (xs 3), .ref a2]) (rest := []) (wr := [(a1, .inr (18, [.ref a15, .ref a16, .int 0, .ref a17, .int 0, .ref a18, .int 0, .null, .int 0, .null, .long 0, .int 0, .null]))]) (c142_BLaw_seats l z hl0 a0 a2 a4 a5 a6 a7 a8 a9 a10 a11 a12 a13 a14 (xs 1) (xs 2) (xs 3) h0) hx hb hml hown hts w_994 w_992 w_993 w_0 md_e152f2 ⟨Nat.le_of_ble_eq_true rfl, Nat.le_of_ble_eq_true rfl⟩ hG hZ hP hD hS hA [0] [1] rfl rfl rfl rfl rfl hl.1 rfl (Nat.le_of_ble_eq_true rfl) d_law_1001 ⟨Nat.le_of_ble_eq_true rfl, Nat.le_of_ble_eq_true rfl⟩ (fun u0 H locs hP hD hS => ?_)
  have hP : va_P z.1 classes [(a1, .inr (18, [.ref a15, .ref a16, .int 0, .ref a17, .int 0, .ref a18, .int 0, .null, .int 0, .null, .long 0, .int 0, .null])), (a0, .inr (11, [.ref a4, .ref a5, .ref a6, .ref a7, .ref a8, .ref a9, .ref a10, .ref a11, .ref a12, .ref a13, .int 0, .int 0, .ref a14, .int 0]))] H := hP
  have hD : va_D A [(a1, .inr (18, [.ref a15, .ref a16, .int 0, .ref a17, .int 0, .ref a18, .int 0, .null, .int 0, .null, .long 0, .int 0, .null])), (a0, .inr (11, [.ref a4, .ref a5, .ref a6, .ref a7, .ref a8, .ref a9, .ref a10, .ref a11, .ref a12, .ref a13, .int 0, .int 0, .ref a14, .int 0]))] := hD
  refine W.eq (g2 := F0 m 1004 ls [.int 1]) rfl ?_
  refine lv_istore (lv' := [(6, .int 1), (0, .ref b), (1, .ref a0), (2, .ref a1), (3, .ref a2), (4, .ref a3), (5, .int 0)]) hx hb d_law_1004 hl (by decide) rfl (fun ls hl => ?_)
  refine lv_aload_n hx hb d_law_1006 rfl (lv_at hl 3 rfl) ?_
  refine lv_aload_n hx hb d_law_1007 rfl (lv_at hl 1 rfl) ?_
  refine lv_iload hx hb d_law_1008 (lv_at hl 6 rfl) ?_
  refine lv_iconst (v := 1) hx hb d_law_1010 (by decide +kernel) ?_
  refine lv_iadd hx hb d_law_1011 ?_
  refine nrm (x1 := 1) (by decide +kernel) ?_
  refine va_sld hx hb hX hbl hbA hS (hin4 (i := 1) rfl) d_law_1012 ?_
  refine nrm (x1 := xs 1) rfl ?_
  refine lv_aload_n hx hb d_law_1013 rfl (lv_at hl 1 rfl) ?_
  refine lv_iload hx hb d_law_1014 (lv_at hl 6 rfl) ?_
  refine lv_iconst (v := 2) hx hb d_law_1016 (by decide +kernel) ?_
  refine lv_iadd hx hb d_law_1017 ?_
  refine nrm (x1 := 2) (by decide +kernel) ?_
  refine va_sld hx hb hX hbl hbA hS (hin4 (i := 2) rfl) d_law_1018 ?_
  refine nrm (x1 := xs 2) rfl ?_
  refine lv_aload_n hx hb d_law_1019 rfl (lv_at hl 1 rfl) ?_
  refine lv_iload hx hb d_law_1020 (lv_at hl 6 rfl) ?_
  refine lv_iconst (v := 3) hx hb d_law_1022 (by decide +kernel) ?_
  refine lv_iadd hx hb d_law_1023 ?_
  refine nrm (x1 := 3) (by decide +kernel) ?_
  refine va_sld hx hb hX hbl hbA hS (hin4 (i := 3) rfl) d_law_1024 ?_
  refine nrm (x1 := xs 3) rfl ?_
  refine kV (As := [.int (xs 1), .int (xs 2), .int (xs 3)]) (rest := []) (wr := [(a0, .inr (11, [.ref a4, .ref a5, .ref a6, .ref a7, .ref a8, .ref a9, .ref a10, .ref a11, .ref a12, .ref a13, .int 0, .int 0, .ref a14, .int 0]))]) (c144_BModel_seats l z a1 a15 a16 a17 a18 (xs 1) (xs 2) (xs 3) h0) hx hb hml hown hts w_1824 w_1821 w_1822 w_1823 w_12 md_d0d460 ⟨Nat.le_of_ble_eq_true rfl, Nat.le_of_ble_eq_true rfl⟩ hG hZ hP hD hS hA 0 rfl rfl rfl [0] [1] rfl rfl rfl rfl rfl hl.1 rfl (Nat.le_of_ble_eq_true rfl) d_law_1025 ⟨Nat.le_of_ble_eq_true rfl, Nat.le_of_ble_eq_true rfl⟩ (fun u1 H locs hP hD hS => ?_)
  have hP : va_P z.1 classes [(a0, .inr (11, [.ref a4, .ref a5, .ref a6, .ref a7, .ref a8, .ref a9, .ref a10, .ref a11, .ref a12, .ref a13, .int 0, .int 0, .ref a14, .int 0])), (a1, .inr (18, [.ref a15, .ref a16, .int 0, .ref a17, .int 0, .ref a18, .int 1, .null, .int 0, .null, .long 0, .int 0, .null]))] H := hP
  have hD : va_D A [(a0, .inr (11, [.ref a4, .ref a5, .ref a6, .ref a7, .ref a8, .ref a9, .ref a10, .ref a11, .ref a12, .ref a13, .int 0, .int 0, .ref a14, .int 0])), (a1, .inr (18, [.ref a15, .ref a16, .int 0, .ref a17, .int 0, .ref a18, .int 1, .null, .int 0, .null, .long 0, .int 0, .null]))] := hD
  refine W.eq (g2 := F0 m 1028 ls [.int 0]) rfl ?_
  refine lv_istore (lv' := [(7, .int 0), (6, .int 1), (0, .ref b), (1, .ref a0), (2, .ref a1), (3, .ref a2), (4, .ref a3), (5, .int 0)]) hx hb d_law_1028 hl (by decide) rfl (fun ls hl => ?_)
  refine lv_aload_n hx hb d_law_1030 rfl (lv_at hl 4 rfl) ?_
  refine kV (As := []) (rest := []) (wr := [(a0, .inr (11, [.ref a4, .ref a5, .ref a6, .ref a7, .ref a8, .ref a9, .ref a10, .ref a11, .ref a12, .ref a13, .int 0, .int 0, .ref a14, .int 0]))]) (c33_BModel_thrown l z a1 a15 a16 a17 a18) hx hb hml hown hts w_1688 w_1685 w_1686 w_1687 w_12 md_c48e0f ⟨Nat.le_of_ble_eq_true rfl, Nat.le_of_ble_eq_true rfl⟩ hG hZ hP hD hS hA 1 rfl rfl rfl [1] [0] rfl rfl rfl rfl rfl hl.1 rfl (Nat.le_of_ble_eq_true rfl) d_law_1031 ⟨Nat.le_of_ble_eq_true rfl, Nat.le_of_ble_eq_true rfl⟩ (fun u2 H locs hP hD hS => ?_)
  have hP : va_P z.1 classes [(a0, .inr (11, [.ref a4, .ref a5, .ref a6, .ref a7, .ref a8, .ref a9, .ref a10, .ref a11, .ref a12, .ref a13, .int 0, .int 0, .ref a14, .int 0])), (a1, .inr (18, [.ref a15, .ref a16, .int 0, .ref a17, .int 0, .ref a18, .int 1, .null, .int 0, .null, .long 0, .int 0, .null]))] H := hP
  have hD : va_D A [(a0, .inr (11, [.ref a4, .ref a5, .ref a6, .ref a7, .ref a8, .ref a9, .ref a10, .ref a11, .ref a12, .ref a13, .int 0, .int 0, .ref a14, .int 0])), (a1, .inr (18, [.ref a15, .ref a16, .int 0, .ref a17, .int 0, .ref a18, .int 1, .null, .int 0, .null, .long 0, .int 0, .null]))] := hD
  refine W.eq (g2 := F0 m 1034 ls [.int 1]) rfl ?_
  refine lv_iload hx hb d_law_1034 (lv_at hl 1 rfl) ?_
  refine lv_icmp_eq (tgt := 1041) hx hb d_law_1036 (by decide) (fun _ => ?_) (fun c9 => absurd (by decide +kernel) c9)
  refine lv_iload hx hb d_law_1041 (lv_at hl 1 rfl) ?_
  refine lv_if_ne (tgt := 1058) hx hb d_law_1043 (by decide) (fun _ => ?_) (fun c9 => absurd c9 (by decide +kernel))
  refine lv_goto (tgt := 3072) hx hb d_law_1058 (by decide) ?_
  refine W.widen (k := 600002) (n := 7302232) (Nat.le_of_ble_eq_true rfl) (Nat.le_of_ble_eq_true rfl) ?_
  exact ht H locs ls hS (lv_sub hl [2, 7] rfl)
set_option maxRecDepth 100000 in
set_option maxHeartbeats 4000000 in
theorem L11_1 (l : Launch) (hl0 : l.stackTraces = false) (z : Zz) {p : Program} {e : Env} {s : State} {m : MethodId} {below : List Frame} {meth : Method} {c : Code} {A : Nat → Prop} {b : Nat} {xs : Nat → Int32} {Q : State → Prop} (hx : p.tables.exec = Jvm.exec) (hb : c.code = code) (hml : c.maxLocals = 9) (hts : ∀ w ∈ WG, w.before #[Value.ref b] s = true) (hown : s.vm.findClass "BallothallLaw" = some m.cls) (hA : ∀ q, s.heap.size ≤ q → A q) (hG : KG z s) (hZ : XZ A s) (hX : va_X b 4 xs s s.heap) (hbl : b < s.heap.size) (hbA : ¬ A b) (ht : ∀ (H : Heap) (locs : List Loc) (ls : Array Slot), va_S A s.heap H locs → lv_has ls 9 [(0, .ref b), (5, .int 0)] → W p l e room_1 s m #[Value.ref b] below meth c H locs 600002 7302232 Q (F0 m 3072 ls [])) (a0 : Nat) (a1 : Nat) (a2 : Nat) (a3 : Nat) (a4 : Nat) (a5 : Nat) (a6 : Nat) (a7 : Nat) (a8 : Nat) (a9 : Nat) (a10 : Nat) (a11 : Nat) (a12 : Nat) (a13 : Nat) (a14 : Nat) (a15 : Nat) (a16 : Nat) (a17 : Nat) (a18 : Nat) (h0 : ¬ (xs 1) < 0) (h1 : 5 < (xs 1)) (H : Heap) (locs : List Loc) (ls : Array Slot) (hP : va_P z.1 classes [(a0, .inr (11, [.ref a4, .ref a5, .ref a6, .ref a7, .ref a8, .ref a9, .ref a10, .ref a11, .ref a12, .ref a13, .int 0, .int 0, .ref a14, .int 0])), (a1, .inr (18, [.ref a15, .ref a16, .int 0, .ref a17, .int 0, .ref a18, .int 0, .null, .int 0, .null, .long 0, .int 0, .null]))] H) (hD : va_D A [(a0, .inr (11, [.ref a4, .ref a5, .ref a6, .ref a7, .ref a8, .ref a9, .ref a10, .ref a11, .ref a12, .ref a13, .int 0, .int 0, .ref a14, .int 0])), (a1, .inr (18, [.ref a15, .ref a16, .int 0, .ref a17, .int 0, .ref a18, .int 0, .null, .int 0, .null, .long 0, .int 0, .null]))]) (hS : va_S A s.heap H locs) (hl : lv_has ls 9 [(0, .ref b), (1, .ref a0), (2, .ref a1), (3, .ref a2), (4, .ref a3), (5, .int 0)]) : W p l e room_1 s m #[Value.ref b] below meth c H locs 265 8866 Q (F0 m 44 ls [.int 11]) := by
  refine lv_tableIn (tgt := 981) hx hb d_law_44 (by decide +kernel) (by decide +kernel) rfl (by decide) ?_
  refine lv_aload_n hx hb d_law_981 rfl (lv_at hl 1 rfl) ?_
  refine lv_aload_n hx hb d_law_982 rfl (lv_at hl 0 rfl) ?_
  refine lv_iload hx hb d_law_983 (lv_at hl 5 rfl) ?_
  refine lv_iconst (v := 1) hx hb d_law_985 (by decide +kernel) ?_
  refine lv_iadd hx hb d_law_986 ?_
  refine nrm (x1 := 1) (by decide +kernel) ?_
  refine va_sld hx hb hX hbl hbA hS (hin4 (i := 1) rfl) d_law_987 ?_
  refine nrm (x1 := xs 1) rfl ?_
  refine lv_aload_n hx hb d_law_988 rfl (lv_at hl 0 rfl) ?_
  refine lv_iload hx hb d_law_989 (lv_at hl 5 rfl) ?_
  refine lv_iconst (v := 2) hx hb d_law_991 (by decide +kernel) ?_
  refine lv_iadd hx hb d_law_992 ?_
  refine nrm (x1 := 2) (by decide +kernel) ?_
  refine va_sld hx hb hX hbl hbA hS (hin4 (i := 2) rfl) d_law_993 ?_
  refine nrm (x1 := xs 2) rfl ?_
  refine lv_aload_n hx hb d_law_994 rfl (lv_at hl 0 rfl) ?_
  refine lv_iload hx hb d_law_995 (lv_at hl 5 rfl) ?_
  refine lv_iconst (v := 3) hx hb d_law_997 (by decide +kernel) ?_
  refine lv_iadd hx hb d_law_998 ?_
  refine nrm (x1 := 3) (by decide +kernel) ?_
  refine va_sld hx hb hX hbl hbA hS (hin4 (i := 3) rfl) d_law_999 ?_
  refine nrm (x1 := xs 3) rfl ?_
  refine lv_aload_n hx hb d_law_1000 rfl (lv_at hl 3 rfl) ?_
  refine kH (As := [.ref a0, .int (xs 1), .int (xs 2), .int (xs 3), .ref a2]) (rest := []) (wr := [(a1, .inr (18, [.ref a15, .ref a16, .int 0, .ref a17, .int 0, .ref a18, .int 0, .null, .int 0, .null, .long 0, .int 0, .null]))]) (c147_BLaw_seats l z hl0 a0 a2 a4 a5 a6 a7 a8 a9 a10 a11 a12 a13 a14 (xs 1) (xs 2) (xs 3) h0 h1) hx hb hml hown hts w_994 w_992 w_993 w_0 md_e152f2 ⟨Nat.le_of_ble_eq_true rfl, Nat.le_of_ble_eq_true rfl⟩ hG hZ hP hD hS hA [0] [1] rfl rfl rfl rfl rfl hl.1 rfl (Nat.le_of_ble_eq_true rfl) d_law_1001 ⟨Nat.le_of_ble_eq_true rfl, Nat.le_of_ble_eq_true rfl⟩ (fun u0 H locs hP hD hS => ?_)
  have hP : va_P z.1 classes [(a1, .inr (18, [.ref a15, .ref a16, .int 0, .ref a17, .int 0, .ref a18, .int 0, .null, .int 0, .null, .long 0, .int 0, .null])), (a0, .inr (11, [.ref a4, .ref a5, .ref a6, .ref a7, .ref a8, .ref a9, .ref a10, .ref a11, .ref a12, .ref a13, .int 0, .int 0, .ref a14, .int 0]))] H := hP
  have hD : va_D A [(a1, .inr (18, [.ref a15, .ref a16, .int 0, .ref a17, .int 0, .ref a18, .int 0, .null, .int 0, .null, .long 0, .int 0, .null])), (a0, .inr (11, [.ref a4, .ref a5, .ref a6, .ref a7, .ref a8, .ref a9, .ref a10, .ref a11, .ref a12, .ref a13, .int 0, .int 0, .ref a14, .int 0]))] := hD
  refine W.eq (g2 := F0 m 1004 ls [.int 1]) rfl ?_
  refine lv_istore (lv' := [(6, .int 1), (0, .ref b), (1, .ref a0), (2, .ref a1), (3, .ref a2), (4, .ref a3), (5, .int 0)]) hx hb d_law_1004 hl (by decide) rfl (fun ls hl => ?_)
  refine lv_aload_n hx hb d_law_1006 rfl (lv_at hl 3 rfl) ?_
  refine lv_aload_n hx hb d_law_1007 rfl (lv_at hl 1 rfl) ?_
  refine lv_iload hx hb d_law_1008 (lv_at hl 6 rfl) ?_
  refine lv_iconst (v := 1) hx hb d_law_1010 (by decide +kernel) ?_
  refine lv_iadd hx hb d_law_1011 ?_
  refine nrm (x1 := 1) (by decide +kernel) ?_
  refine va_sld hx hb hX hbl hbA hS (hin4 (i := 1) rfl) d_law_1012 ?_
  refine nrm (x1 := xs 1) rfl ?_
  refine lv_aload_n hx hb d_law_1013 rfl (lv_at hl 1 rfl) ?_
  refine lv_iload hx hb d_law_1014 (lv_at hl 6 rfl) ?_
  refine lv_iconst (v := 2) hx hb d_law_1016 (by decide +kernel) ?_
  refine lv_iadd hx hb d_law_1017 ?_
  refine nrm (x1 := 2) (by decide +kernel) ?_
  refine va_sld hx hb hX hbl hbA hS (hin4 (i := 2) rfl) d_law_1018 ?_
  refine nrm (x1 := xs 2) rfl ?_
  refine lv_aload_n hx hb d_law_1019 rfl (lv_at hl 1 rfl) ?_
  refine lv_iload hx hb d_law_1020 (lv_at hl 6 rfl) ?_
  refine lv_iconst (v := 3) hx hb d_law_1022 (by decide +kernel) ?_
  refine lv_iadd hx hb d_law_1023 ?_
  refine nrm (x1 := 3) (by decide +kernel) ?_
  refine va_sld hx hb hX hbl hbA hS (hin4 (i := 3) rfl) d_law_1024 ?_
  refine nrm (x1 := xs 3) rfl ?_
  refine kV (As := [.int (xs 1), .int (xs 2), .int (xs 3)]) (rest := []) (wr := [(a0, .inr (11, [.ref a4, .ref a5, .ref a6, .ref a7, .ref a8, .ref a9, .ref a10, .ref a11, .ref a12, .ref a13, .int 0, .int 0, .ref a14, .int 0]))]) (c149_BModel_seats l z a1 a15 a16 a17 a18 (xs 1) (xs 2) (xs 3) h0 h1) hx hb hml hown hts w_1824 w_1821 w_1822 w_1823 w_12 md_d0d460 ⟨Nat.le_of_ble_eq_true rfl, Nat.le_of_ble_eq_true rfl⟩ hG hZ hP hD hS hA 0 rfl rfl rfl [0] [1] rfl rfl rfl rfl rfl hl.1 rfl (Nat.le_of_ble_eq_true rfl) d_law_1025 ⟨Nat.le_of_ble_eq_true rfl, Nat.le_of_ble_eq_true rfl⟩ (fun u1 H locs hP hD hS => ?_)
  have hP : va_P z.1 classes [(a0, .inr (11, [.ref a4, .ref a5, .ref a6, .ref a7, .ref a8, .ref a9, .ref a10, .ref a11, .ref a12, .ref a13, .int 0, .int 0, .ref a14, .int 0])), (a1, .inr (18, [.ref a15, .ref a16, .int 0, .ref a17, .int 0, .ref a18, .int 1, .null, .int 0, .null, .long 0, .int 0, .null]))] H := hP
  have hD : va_D A [(a0, .inr (11, [.ref a4, .ref a5, .ref a6, .ref a7, .ref a8, .ref a9, .ref a10, .ref a11, .ref a12, .ref a13, .int 0, .int 0, .ref a14, .int 0])), (a1, .inr (18, [.ref a15, .ref a16, .int 0, .ref a17, .int 0, .ref a18, .int 1, .null, .int 0, .null, .long 0, .int 0, .null]))] := hD
  refine W.eq (g2 := F0 m 1028 ls [.int 0]) rfl ?_
  refine lv_istore (lv' := [(7, .int 0), (6, .int 1), (0, .ref b), (1, .ref a0), (2, .ref a1), (3, .ref a2), (4, .ref a3), (5, .int 0)]) hx hb d_law_1028 hl (by decide) rfl (fun ls hl => ?_)
  refine lv_aload_n hx hb d_law_1030 rfl (lv_at hl 4 rfl) ?_
  refine kV (As := []) (rest := []) (wr := [(a0, .inr (11, [.ref a4, .ref a5, .ref a6, .ref a7, .ref a8, .ref a9, .ref a10, .ref a11, .ref a12, .ref a13, .int 0, .int 0, .ref a14, .int 0]))]) (c33_BModel_thrown l z a1 a15 a16 a17 a18) hx hb hml hown hts w_1688 w_1685 w_1686 w_1687 w_12 md_c48e0f ⟨Nat.le_of_ble_eq_true rfl, Nat.le_of_ble_eq_true rfl⟩ hG hZ hP hD hS hA 1 rfl rfl rfl [1] [0] rfl rfl rfl rfl rfl hl.1 rfl (Nat.le_of_ble_eq_true rfl) d_law_1031 ⟨Nat.le_of_ble_eq_true rfl, Nat.le_of_ble_eq_true rfl⟩ (fun u2 H locs hP hD hS => ?_)
  have hP : va_P z.1 classes [(a0, .inr (11, [.ref a4, .ref a5, .ref a6, .ref a7, .ref a8, .ref a9, .ref a10, .ref a11, .ref a12, .ref a13, .int 0, .int 0, .ref a14, .int 0])), (a1, .inr (18, [.ref a15, .ref a16, .int 0, .ref a17, .int 0, .ref a18, .int 1, .null, .int 0, .null, .long 0, .int 0, .null]))] H := hP
  have hD : va_D A [(a0, .inr (11, [.ref a4, .ref a5, .ref a6, .ref a7, .ref a8, .ref a9, .ref a10, .ref a11, .ref a12, .ref a13, .int 0, .int 0, .ref a14, .int 0])), (a1, .inr (18, [.ref a15, .ref a16, .int 0, .ref a17, .int 0, .ref a18, .int 1, .null, .int 0, .null, .long 0, .int 0, .null]))] := hD
  refine W.eq (g2 := F0 m 1034 ls [.int 1]) rfl ?_
  refine lv_iload hx hb d_law_1034 (lv_at hl 1 rfl) ?_
  refine lv_icmp_eq (tgt := 1041) hx hb d_law_1036 (by decide) (fun _ => ?_) (fun c9 => absurd (by decide +kernel) c9)
  refine lv_iload hx hb d_law_1041 (lv_at hl 1 rfl) ?_
  refine lv_if_ne (tgt := 1058) hx hb d_law_1043 (by decide) (fun _ => ?_) (fun c9 => absurd c9 (by decide +kernel))
  refine lv_goto (tgt := 3072) hx hb d_law_1058 (by decide) ?_
  refine W.widen (k := 600002) (n := 7302232) (Nat.le_of_ble_eq_true rfl) (Nat.le_of_ble_eq_true rfl) ?_
  exact ht H locs ls hS (lv_sub hl [2, 7] rfl)
set_option maxRecDepth 100000 in
set_option maxHeartbeats 4000000 in
theorem L11_2 (l : Launch) (hl0 : l.stackTraces = false) (z : Zz) {p : Program} {e : Env} {s : State} {m : MethodId} {below : List Frame} {meth : Method} {c : Code} {A : Nat → Prop} {b : Nat} {xs : Nat → Int32} {Q : State → Prop} (hx : p.tables.exec = Jvm.exec) (hb : c.code = code) (hml : c.maxLocals = 9) (hts : ∀ w ∈ WG, w.before #[Value.ref b] s = true) (hown : s.vm.findClass "BallothallLaw" = some m.cls) (hA : ∀ q, s.heap.size ≤ q → A q) (hG : KG z s) (hZ : XZ A s) (hX : va_X b 4 xs s s.heap) (hbl : b < s.heap.size) (hbA : ¬ A b) (ht : ∀ (H : Heap) (locs : List Loc) (ls : Array Slot), va_S A s.heap H locs → lv_has ls 9 [(0, .ref b), (5, .int 0)] → W p l e room_1 s m #[Value.ref b] below meth c H locs 600002 7302232 Q (F0 m 3072 ls [])) (a0 : Nat) (a1 : Nat) (a2 : Nat) (a3 : Nat) (a4 : Nat) (a5 : Nat) (a6 : Nat) (a7 : Nat) (a8 : Nat) (a9 : Nat) (a10 : Nat) (a11 : Nat) (a12 : Nat) (a13 : Nat) (a14 : Nat) (a15 : Nat) (a16 : Nat) (a17 : Nat) (a18 : Nat) (h0 : ¬ (xs 1) < 0) (h1 : ¬ 5 < (xs 1)) (h2 : (xs 2) < 1) (H : Heap) (locs : List Loc) (ls : Array Slot) (hP : va_P z.1 classes [(a0, .inr (11, [.ref a4, .ref a5, .ref a6, .ref a7, .ref a8, .ref a9, .ref a10, .ref a11, .ref a12, .ref a13, .int 0, .int 0, .ref a14, .int 0])), (a1, .inr (18, [.ref a15, .ref a16, .int 0, .ref a17, .int 0, .ref a18, .int 0, .null, .int 0, .null, .long 0, .int 0, .null]))] H) (hD : va_D A [(a0, .inr (11, [.ref a4, .ref a5, .ref a6, .ref a7, .ref a8, .ref a9, .ref a10, .ref a11, .ref a12, .ref a13, .int 0, .int 0, .ref a14, .int 0])), (a1, .inr (18, [.ref a15, .ref a16, .int 0, .ref a17, .int 0, .ref a18, .int 0, .null, .int 0, .null, .long 0, .int 0, .null]))]) (hS : va_S A s.heap H locs) (hl : lv_has ls 9 [(0, .ref b), (1, .ref a0), (2, .ref a1), (3, .ref a2), (4, .ref a3), (5, .int 0)]) : W p l e room_1 s m #[Value.ref b] below meth c H locs 265 8866 Q (F0 m 44 ls [.int 11]) := by
  refine lv_tableIn (tgt := 981) hx hb d_law_44 (by decide +kernel) (by decide +kernel) rfl (by decide) ?_
  refine lv_aload_n hx hb d_law_981 rfl (lv_at hl 1 rfl) ?_
  refine lv_aload_n hx hb d_law_982 rfl (lv_at hl 0 rfl) ?_
  refine lv_iload hx hb d_law_983 (lv_at hl 5 rfl) ?_
  refine lv_iconst (v := 1) hx hb d_law_985 (by decide +kernel) ?_
  refine lv_iadd hx hb d_law_986 ?_
  refine nrm (x1 := 1) (by decide +kernel) ?_
  refine va_sld hx hb hX hbl hbA hS (hin4 (i := 1) rfl) d_law_987 ?_
  refine nrm (x1 := xs 1) rfl ?_
  refine lv_aload_n hx hb d_law_988 rfl (lv_at hl 0 rfl) ?_
  refine lv_iload hx hb d_law_989 (lv_at hl 5 rfl) ?_
  refine lv_iconst (v := 2) hx hb d_law_991 (by decide +kernel) ?_
  refine lv_iadd hx hb d_law_992 ?_
  refine nrm (x1 := 2) (by decide +kernel) ?_
  refine va_sld hx hb hX hbl hbA hS (hin4 (i := 2) rfl) d_law_993 ?_
  refine nrm (x1 := xs 2) rfl ?_
  refine lv_aload_n hx hb d_law_994 rfl (lv_at hl 0 rfl) ?_
  refine lv_iload hx hb d_law_995 (lv_at hl 5 rfl) ?_
  refine lv_iconst (v := 3) hx hb d_law_997 (by decide +kernel) ?_
  refine lv_iadd hx hb d_law_998 ?_
  refine nrm (x1 := 3) (by decide +kernel) ?_
  refine va_sld hx hb hX hbl hbA hS (hin4 (i := 3) rfl) d_law_999 ?_
  refine nrm (x1 := xs 3) rfl ?_
  refine lv_aload_n hx hb d_law_1000 rfl (lv_at hl 3 rfl) ?_
  refine kH (As := [.ref a0, .int (xs 1), .int (xs 2), .int (xs 3), .ref a2]) (rest := []) (wr := [(a1, .inr (18, [.ref a15, .ref a16, .int 0, .ref a17, .int 0, .ref a18, .int 0, .null, .int 0, .null, .long 0, .int 0, .null]))]) (c153_BLaw_seats l z hl0 a0 a2 a4 a5 a6 a7 a8 a9 a10 a11 a12 a13 a14 (xs 1) (xs 2) (xs 3) h0 h1 h2) hx hb hml hown hts w_994 w_992 w_993 w_0 md_e152f2 ⟨Nat.le_of_ble_eq_true rfl, Nat.le_of_ble_eq_true rfl⟩ hG hZ hP hD hS hA [0] [1] rfl rfl rfl rfl rfl hl.1 rfl (Nat.le_of_ble_eq_true rfl) d_law_1001 ⟨Nat.le_of_ble_eq_true rfl, Nat.le_of_ble_eq_true rfl⟩ (fun u0 H locs hP hD hS => ?_)
  have hP : va_P z.1 classes [(a1, .inr (18, [.ref a15, .ref a16, .int 0, .ref a17, .int 0, .ref a18, .int 0, .null, .int 0, .null, .long 0, .int 0, .null])), (a0, .inr (11, [.ref a4, .ref a5, .ref a6, .ref a7, .ref a8, .ref a9, .ref a10, .ref a11, .ref a12, .ref a13, .int 0, .int 0, .ref a14, .int 0]))] H := hP
  have hD : va_D A [(a1, .inr (18, [.ref a15, .ref a16, .int 0, .ref a17, .int 0, .ref a18, .int 0, .null, .int 0, .null, .long 0, .int 0, .null])), (a0, .inr (11, [.ref a4, .ref a5, .ref a6, .ref a7, .ref a8, .ref a9, .ref a10, .ref a11, .ref a12, .ref a13, .int 0, .int 0, .ref a14, .int 0]))] := hD
  refine W.eq (g2 := F0 m 1004 ls [.int 1]) rfl ?_
  refine lv_istore (lv' := [(6, .int 1), (0, .ref b), (1, .ref a0), (2, .ref a1), (3, .ref a2), (4, .ref a3), (5, .int 0)]) hx hb d_law_1004 hl (by decide) rfl (fun ls hl => ?_)
  refine lv_aload_n hx hb d_law_1006 rfl (lv_at hl 3 rfl) ?_
  refine lv_aload_n hx hb d_law_1007 rfl (lv_at hl 1 rfl) ?_
  refine lv_iload hx hb d_law_1008 (lv_at hl 6 rfl) ?_
  refine lv_iconst (v := 1) hx hb d_law_1010 (by decide +kernel) ?_
  refine lv_iadd hx hb d_law_1011 ?_
  refine nrm (x1 := 1) (by decide +kernel) ?_
  refine va_sld hx hb hX hbl hbA hS (hin4 (i := 1) rfl) d_law_1012 ?_
  refine nrm (x1 := xs 1) rfl ?_
  refine lv_aload_n hx hb d_law_1013 rfl (lv_at hl 1 rfl) ?_
  refine lv_iload hx hb d_law_1014 (lv_at hl 6 rfl) ?_
  refine lv_iconst (v := 2) hx hb d_law_1016 (by decide +kernel) ?_
  refine lv_iadd hx hb d_law_1017 ?_
  refine nrm (x1 := 2) (by decide +kernel) ?_
  refine va_sld hx hb hX hbl hbA hS (hin4 (i := 2) rfl) d_law_1018 ?_
  refine nrm (x1 := xs 2) rfl ?_
  refine lv_aload_n hx hb d_law_1019 rfl (lv_at hl 1 rfl) ?_
  refine lv_iload hx hb d_law_1020 (lv_at hl 6 rfl) ?_
  refine lv_iconst (v := 3) hx hb d_law_1022 (by decide +kernel) ?_
  refine lv_iadd hx hb d_law_1023 ?_
  refine nrm (x1 := 3) (by decide +kernel) ?_
  refine va_sld hx hb hX hbl hbA hS (hin4 (i := 3) rfl) d_law_1024 ?_
  refine nrm (x1 := xs 3) rfl ?_
  refine kV (As := [.int (xs 1), .int (xs 2), .int (xs 3)]) (rest := []) (wr := [(a0, .inr (11, [.ref a4, .ref a5, .ref a6, .ref a7, .ref a8, .ref a9, .ref a10, .ref a11, .ref a12, .ref a13, .int 0, .int 0, .ref a14, .int 0]))]) (c156_BModel_seats l z a1 a15 a16 a17 a18 (xs 1) (xs 2) (xs 3) h0 h1 h2) hx hb hml hown hts w_1824 w_1821 w_1822 w_1823 w_12 md_d0d460 ⟨Nat.le_of_ble_eq_true rfl, Nat.le_of_ble_eq_true rfl⟩ hG hZ hP hD hS hA 0 rfl rfl rfl [0] [1] rfl rfl rfl rfl rfl hl.1 rfl (Nat.le_of_ble_eq_true rfl) d_law_1025 ⟨Nat.le_of_ble_eq_true rfl, Nat.le_of_ble_eq_true rfl⟩ (fun u1 H locs hP hD hS => ?_)
  have hP : va_P z.1 classes [(a0, .inr (11, [.ref a4, .ref a5, .ref a6, .ref a7, .ref a8, .ref a9, .ref a10, .ref a11, .ref a12, .ref a13, .int 0, .int 0, .ref a14, .int 0])), (a1, .inr (18, [.ref a15, .ref a16, .int 0, .ref a17, .int 0, .ref a18, .int 1, .null, .int 0, .null, .long 0, .int 0, .null]))] H := hP
  have hD : va_D A [(a0, .inr (11, [.ref a4, .ref a5, .ref a6, .ref a7, .ref a8, .ref a9, .ref a10, .ref a11, .ref a12, .ref a13, .int 0, .int 0, .ref a14, .int 0])), (a1, .inr (18, [.ref a15, .ref a16, .int 0, .ref a17, .int 0, .ref a18, .int 1, .null, .int 0, .null, .long 0, .int 0, .null]))] := hD
  refine W.eq (g2 := F0 m 1028 ls [.int 0]) rfl ?_
  refine lv_istore (lv' := [(7, .int 0), (6, .int 1), (0, .ref b), (1, .ref a0), (2, .ref a1), (3, .ref a2), (4, .ref a3), (5, .int 0)]) hx hb d_law_1028 hl (by decide) rfl (fun ls hl => ?_)
  refine lv_aload_n hx hb d_law_1030 rfl (lv_at hl 4 rfl) ?_
  refine kV (As := []) (rest := []) (wr := [(a0, .inr (11, [.ref a4, .ref a5, .ref a6, .ref a7, .ref a8, .ref a9, .ref a10, .ref a11, .ref a12, .ref a13, .int 0, .int 0, .ref a14, .int 0]))]) (c33_BModel_thrown l z a1 a15 a16 a17 a18) hx hb hml hown hts w_1688 w_1685 w_1686 w_1687 w_12 md_c48e0f ⟨Nat.le_of_ble_eq_true rfl, Nat.le_of_ble_eq_true rfl⟩ hG hZ hP hD hS hA 1 rfl rfl rfl [1] [0] rfl rfl rfl rfl rfl hl.1 rfl (Nat.le_of_ble_eq_true rfl) d_law_1031 ⟨Nat.le_of_ble_eq_true rfl, Nat.le_of_ble_eq_true rfl⟩ (fun u2 H locs hP hD hS => ?_)
  have hP : va_P z.1 classes [(a0, .inr (11, [.ref a4, .ref a5, .ref a6, .ref a7, .ref a8, .ref a9, .ref a10, .ref a11, .ref a12, .ref a13, .int 0, .int 0, .ref a14, .int 0])), (a1, .inr (18, [.ref a15, .ref a16, .int 0, .ref a17, .int 0, .ref a18, .int 1, .null, .int 0, .null, .long 0, .int 0, .null]))] H := hP
  have hD : va_D A [(a0, .inr (11, [.ref a4, .ref a5, .ref a6, .ref a7, .ref a8, .ref a9, .ref a10, .ref a11, .ref a12, .ref a13, .int 0, .int 0, .ref a14, .int 0])), (a1, .inr (18, [.ref a15, .ref a16, .int 0, .ref a17, .int 0, .ref a18, .int 1, .null, .int 0, .null, .long 0, .int 0, .null]))] := hD
  refine W.eq (g2 := F0 m 1034 ls [.int 1]) rfl ?_
  refine lv_iload hx hb d_law_1034 (lv_at hl 1 rfl) ?_
  refine lv_icmp_eq (tgt := 1041) hx hb d_law_1036 (by decide) (fun _ => ?_) (fun c9 => absurd (by decide +kernel) c9)
  refine lv_iload hx hb d_law_1041 (lv_at hl 1 rfl) ?_
  refine lv_if_ne (tgt := 1058) hx hb d_law_1043 (by decide) (fun _ => ?_) (fun c9 => absurd c9 (by decide +kernel))
  refine lv_goto (tgt := 3072) hx hb d_law_1058 (by decide) ?_
  refine W.widen (k := 600002) (n := 7302232) (Nat.le_of_ble_eq_true rfl) (Nat.le_of_ble_eq_true rfl) ?_
  exact ht H locs ls hS (lv_sub hl [2, 7] rfl)
set_option maxRecDepth 100000 in
set_option maxHeartbeats 4000000 in
theorem L11_3 (l : Launch) (hl0 : l.stackTraces = false) (z : Zz) {p : Program} {e : Env} {s : State} {m : MethodId} {below : List Frame} {meth : Method} {c : Code} {A : Nat → Prop} {b : Nat} {xs : Nat → Int32} {Q : State → Prop} (hx : p.tables.exec = Jvm.exec) (hb : c.code = code) (hml : c.maxLocals = 9) (hts : ∀ w ∈ WG, w.before #[Value.ref b] s = true) (hown : s.vm.findClass "BallothallLaw" = some m.cls) (hA : ∀ q, s.heap.size ≤ q → A q) (hG : KG z s) (hZ : XZ A s) (hX : va_X b 4 xs s s.heap) (hbl : b < s.heap.size) (hbA : ¬ A b) (ht : ∀ (H : Heap) (locs : List Loc) (ls : Array Slot), va_S A s.heap H locs → lv_has ls 9 [(0, .ref b), (5, .int 0)] → W p l e room_1 s m #[Value.ref b] below meth c H locs 600002 7302232 Q (F0 m 3072 ls [])) (a0 : Nat) (a1 : Nat) (a2 : Nat) (a3 : Nat) (a4 : Nat) (a5 : Nat) (a6 : Nat) (a7 : Nat) (a8 : Nat) (a9 : Nat) (a10 : Nat) (a11 : Nat) (a12 : Nat) (a13 : Nat) (a14 : Nat) (a15 : Nat) (a16 : Nat) (a17 : Nat) (a18 : Nat) (h0 : ¬ (xs 1) < 0) (h1 : ¬ 5 < (xs 1)) (h2 : ¬ (xs 2) < 1) (h3 : 60 < (xs 2)) (H : Heap) (locs : List Loc) (ls : Array Slot) (hP : va_P z.1 classes [(a0, .inr (11, [.ref a4, .ref a5, .ref a6, .ref a7, .ref a8, .ref a9, .ref a10, .ref a11, .ref a12, .ref a13, .int 0, .int 0, .ref a14, .int 0])), (a1, .inr (18, [.ref a15, .ref a16, .int 0, .ref a17, .int 0, .ref a18, .int 0, .null, .int 0, .null, .long 0, .int 0, .null]))] H) (hD : va_D A [(a0, .inr (11, [.ref a4, .ref a5, .ref a6, .ref a7, .ref a8, .ref a9, .ref a10, .ref a11, .ref a12, .ref a13, .int 0, .int 0, .ref a14, .int 0])), (a1, .inr (18, [.ref a15, .ref a16, .int 0, .ref a17, .int 0, .ref a18, .int 0, .null, .int 0, .null, .long 0, .int 0, .null]))]) (hS : va_S A s.heap H locs) (hl : lv_has ls 9 [(0, .ref b), (1, .ref a0), (2, .ref a1), (3, .ref a2), (4, .ref a3), (5, .int 0)]) : W p l e room_1 s m #[Value.ref b] below meth c H locs 265 8866 Q (F0 m 44 ls [.int 11]) := by
  refine lv_tableIn (tgt := 981) hx hb d_law_44 (by decide +kernel) (by decide +kernel) rfl (by decide) ?_
  refine lv_aload_n hx hb d_law_981 rfl (lv_at hl 1 rfl) ?_
  refine lv_aload_n hx hb d_law_982 rfl (lv_at hl 0 rfl) ?_
  refine lv_iload hx hb d_law_983 (lv_at hl 5 rfl) ?_
  refine lv_iconst (v := 1) hx hb d_law_985 (by decide +kernel) ?_
  refine lv_iadd hx hb d_law_986 ?_
  refine nrm (x1 := 1) (by decide +kernel) ?_
  refine va_sld hx hb hX hbl hbA hS (hin4 (i := 1) rfl) d_law_987 ?_
  refine nrm (x1 := xs 1) rfl ?_
  refine lv_aload_n hx hb d_law_988 rfl (lv_at hl 0 rfl) ?_
  refine lv_iload hx hb d_law_989 (lv_at hl 5 rfl) ?_
  refine lv_iconst (v := 2) hx hb d_law_991 (by decide +kernel) ?_
  refine lv_iadd hx hb d_law_992 ?_
  refine nrm (x1 := 2) (by decide +kernel) ?_
  refine va_sld hx hb hX hbl hbA hS (hin4 (i := 2) rfl) d_law_993 ?_
  refine nrm (x1 := xs 2) rfl ?_
  refine lv_aload_n hx hb d_law_994 rfl (lv_at hl 0 rfl) ?_
  refine lv_iload hx hb d_law_995 (lv_at hl 5 rfl) ?_
  refine lv_iconst (v := 3) hx hb d_law_997 (by decide +kernel) ?_
  refine lv_iadd hx hb d_law_998 ?_
  refine nrm (x1 := 3) (by decide +kernel) ?_
  refine va_sld hx hb hX hbl hbA hS (hin4 (i := 3) rfl) d_law_999 ?_
  refine nrm (x1 := xs 3) rfl ?_
  refine lv_aload_n hx hb d_law_1000 rfl (lv_at hl 3 rfl) ?_
  refine kH (As := [.ref a0, .int (xs 1), .int (xs 2), .int (xs 3), .ref a2]) (rest := []) (wr := [(a1, .inr (18, [.ref a15, .ref a16, .int 0, .ref a17, .int 0, .ref a18, .int 0, .null, .int 0, .null, .long 0, .int 0, .null]))]) (c159_BLaw_seats l z hl0 a0 a2 a4 a5 a6 a7 a8 a9 a10 a11 a12 a13 a14 (xs 1) (xs 2) (xs 3) h0 h1 h2 h3) hx hb hml hown hts w_994 w_992 w_993 w_0 md_e152f2 ⟨Nat.le_of_ble_eq_true rfl, Nat.le_of_ble_eq_true rfl⟩ hG hZ hP hD hS hA [0] [1] rfl rfl rfl rfl rfl hl.1 rfl (Nat.le_of_ble_eq_true rfl) d_law_1001 ⟨Nat.le_of_ble_eq_true rfl, Nat.le_of_ble_eq_true rfl⟩ (fun u0 H locs hP hD hS => ?_)
  have hP : va_P z.1 classes [(a1, .inr (18, [.ref a15, .ref a16, .int 0, .ref a17, .int 0, .ref a18, .int 0, .null, .int 0, .null, .long 0, .int 0, .null])), (a0, .inr (11, [.ref a4, .ref a5, .ref a6, .ref a7, .ref a8, .ref a9, .ref a10, .ref a11, .ref a12, .ref a13, .int 0, .int 0, .ref a14, .int 0]))] H := hP
  have hD : va_D A [(a1, .inr (18, [.ref a15, .ref a16, .int 0, .ref a17, .int 0, .ref a18, .int 0, .null, .int 0, .null, .long 0, .int 0, .null])), (a0, .inr (11, [.ref a4, .ref a5, .ref a6, .ref a7, .ref a8, .ref a9, .ref a10, .ref a11, .ref a12, .ref a13, .int 0, .int 0, .ref a14, .int 0]))] := hD
  refine W.eq (g2 := F0 m 1004 ls [.int 1]) rfl ?_
  refine lv_istore (lv' := [(6, .int 1), (0, .ref b), (1, .ref a0), (2, .ref a1), (3, .ref a2), (4, .ref a3), (5, .int 0)]) hx hb d_law_1004 hl (by decide) rfl (fun ls hl => ?_)
  refine lv_aload_n hx hb d_law_1006 rfl (lv_at hl 3 rfl) ?_
  refine lv_aload_n hx hb d_law_1007 rfl (lv_at hl 1 rfl) ?_
  refine lv_iload hx hb d_law_1008 (lv_at hl 6 rfl) ?_
  refine lv_iconst (v := 1) hx hb d_law_1010 (by decide +kernel) ?_
  refine lv_iadd hx hb d_law_1011 ?_
  refine nrm (x1 := 1) (by decide +kernel) ?_
  refine va_sld hx hb hX hbl hbA hS (hin4 (i := 1) rfl) d_law_1012 ?_
  refine nrm (x1 := xs 1) rfl ?_
  refine lv_aload_n hx hb d_law_1013 rfl (lv_at hl 1 rfl) ?_
  refine lv_iload hx hb d_law_1014 (lv_at hl 6 rfl) ?_
  refine lv_iconst (v := 2) hx hb d_law_1016 (by decide +kernel) ?_
  refine lv_iadd hx hb d_law_1017 ?_
  refine nrm (x1 := 2) (by decide +kernel) ?_
  refine va_sld hx hb hX hbl hbA hS (hin4 (i := 2) rfl) d_law_1018 ?_
  refine nrm (x1 := xs 2) rfl ?_
  refine lv_aload_n hx hb d_law_1019 rfl (lv_at hl 1 rfl) ?_
  refine lv_iload hx hb d_law_1020 (lv_at hl 6 rfl) ?_
  refine lv_iconst (v := 3) hx hb d_law_1022 (by decide +kernel) ?_
  refine lv_iadd hx hb d_law_1023 ?_
  refine nrm (x1 := 3) (by decide +kernel) ?_
  refine va_sld hx hb hX hbl hbA hS (hin4 (i := 3) rfl) d_law_1024 ?_
  refine nrm (x1 := xs 3) rfl ?_
  refine kV (As := [.int (xs 1), .int (xs 2), .int (xs 3)]) (rest := []) (wr := [(a0, .inr (11, [.ref a4, .ref a5, .ref a6, .ref a7, .ref a8, .ref a9, .ref a10, .ref a11, .ref a12, .ref a13, .int 0, .int 0, .ref a14, .int 0]))]) (c161_BModel_seats l z a1 a15 a16 a17 a18 (xs 1) (xs 2) (xs 3) h0 h1 h2 h3) hx hb hml hown hts w_1824 w_1821 w_1822 w_1823 w_12 md_d0d460 ⟨Nat.le_of_ble_eq_true rfl, Nat.le_of_ble_eq_true rfl⟩ hG hZ hP hD hS hA 0 rfl rfl rfl [0] [1] rfl rfl rfl rfl rfl hl.1 rfl (Nat.le_of_ble_eq_true rfl) d_law_1025 ⟨Nat.le_of_ble_eq_true rfl, Nat.le_of_ble_eq_true rfl⟩ (fun u1 H locs hP hD hS => ?_)
  have hP : va_P z.1 classes [(a0, .inr (11, [.ref a4, .ref a5, .ref a6, .ref a7, .ref a8, .ref a9, .ref a10, .ref a11, .ref a12, .ref a13, .int 0, .int 0, .ref a14, .int 0])), (a1, .inr (18, [.ref a15, .ref a16, .int 0, .ref a17, .int 0, .ref a18, .int 1, .null, .int 0, .null, .long 0, .int 0, .null]))] H := hP
  have hD : va_D A [(a0, .inr (11, [.ref a4, .ref a5, .ref a6, .ref a7, .ref a8, .ref a9, .ref a10, .ref a11, .ref a12, .ref a13, .int 0, .int 0, .ref a14, .int 0])), (a1, .inr (18, [.ref a15, .ref a16, .int 0, .ref a17, .int 0, .ref a18, .int 1, .null, .int 0, .null, .long 0, .int 0, .null]))] := hD
  refine W.eq (g2 := F0 m 1028 ls [.int 0]) rfl ?_
  refine lv_istore (lv' := [(7, .int 0), (6, .int 1), (0, .ref b), (1, .ref a0), (2, .ref a1), (3, .ref a2), (4, .ref a3), (5, .int 0)]) hx hb d_law_1028 hl (by decide) rfl (fun ls hl => ?_)
  refine lv_aload_n hx hb d_law_1030 rfl (lv_at hl 4 rfl) ?_
  refine kV (As := []) (rest := []) (wr := [(a0, .inr (11, [.ref a4, .ref a5, .ref a6, .ref a7, .ref a8, .ref a9, .ref a10, .ref a11, .ref a12, .ref a13, .int 0, .int 0, .ref a14, .int 0]))]) (c33_BModel_thrown l z a1 a15 a16 a17 a18) hx hb hml hown hts w_1688 w_1685 w_1686 w_1687 w_12 md_c48e0f ⟨Nat.le_of_ble_eq_true rfl, Nat.le_of_ble_eq_true rfl⟩ hG hZ hP hD hS hA 1 rfl rfl rfl [1] [0] rfl rfl rfl rfl rfl hl.1 rfl (Nat.le_of_ble_eq_true rfl) d_law_1031 ⟨Nat.le_of_ble_eq_true rfl, Nat.le_of_ble_eq_true rfl⟩ (fun u2 H locs hP hD hS => ?_)
  have hP : va_P z.1 classes [(a0, .inr (11, [.ref a4, .ref a5, .ref a6, .ref a7, .ref a8, .ref a9, .ref a10, .ref a11, .ref a12, .ref a13, .int 0, .int 0, .ref a14, .int 0])), (a1, .inr (18, [.ref a15, .ref a16, .int 0, .ref a17, .int 0, .ref a18, .int 1, .null, .int 0, .null, .long 0, .int 0, .null]))] H := hP
  have hD : va_D A [(a0, .inr (11, [.ref a4, .ref a5, .ref a6, .ref a7, .ref a8, .ref a9, .ref a10, .ref a11, .ref a12, .ref a13, .int 0, .int 0, .ref a14, .int 0])), (a1, .inr (18, [.ref a15, .ref a16, .int 0, .ref a17, .int 0, .ref a18, .int 1, .null, .int 0, .null, .long 0, .int 0, .null]))] := hD
  refine W.eq (g2 := F0 m 1034 ls [.int 1]) rfl ?_
  refine lv_iload hx hb d_law_1034 (lv_at hl 1 rfl) ?_
  refine lv_icmp_eq (tgt := 1041) hx hb d_law_1036 (by decide) (fun _ => ?_) (fun c9 => absurd (by decide +kernel) c9)
  refine lv_iload hx hb d_law_1041 (lv_at hl 1 rfl) ?_
  refine lv_if_ne (tgt := 1058) hx hb d_law_1043 (by decide) (fun _ => ?_) (fun c9 => absurd c9 (by decide +kernel))
  refine lv_goto (tgt := 3072) hx hb d_law_1058 (by decide) ?_
  refine W.widen (k := 600002) (n := 7302232) (Nat.le_of_ble_eq_true rfl) (Nat.le_of_ble_eq_true rfl) ?_
  exact ht H locs ls hS (lv_sub hl [2, 7] rfl)
set_option maxRecDepth 100000 in
set_option maxHeartbeats 4000000 in
theorem L11_4 (l : Launch) (hl0 : l.stackTraces = false) (z : Zz) {p : Program} {e : Env} {s : State} {m : MethodId} {below : List Frame} {meth : Method} {c : Code} {A : Nat → Prop} {b : Nat} {xs : Nat → Int32} {Q : State → Prop} (hx : p.tables.exec = Jvm.exec) (hb : c.code = code) (hml : c.maxLocals = 9) (hts : ∀ w ∈ WG, w.before #[Value.ref b] s = true) (hown : s.vm.findClass "BallothallLaw" = some m.cls) (hA : ∀ q, s.heap.size ≤ q → A q) (hG : KG z s) (hZ : XZ A s) (hX : va_X b 4 xs s s.heap) (hbl : b < s.heap.size) (hbA : ¬ A b) (ht : ∀ (H : Heap) (locs : List Loc) (ls : Array Slot), va_S A s.heap H locs → lv_has ls 9 [(0, .ref b), (5, .int 0)] → W p l e room_1 s m #[Value.ref b] below meth c H locs 600002 7302232 Q (F0 m 3072 ls [])) (a0 : Nat) (a1 : Nat) (a2 : Nat) (a3 : Nat) (a4 : Nat) (a5 : Nat) (a6 : Nat) (a7 : Nat) (a8 : Nat) (a9 : Nat) (a10 : Nat) (a11 : Nat) (a12 : Nat) (a13 : Nat) (a14 : Nat) (a15 : Nat) (a16 : Nat) (a17 : Nat) (a18 : Nat) (h0 : ¬ (xs 1) < 0) (h1 : ¬ 5 < (xs 1)) (h2 : ¬ (xs 2) < 1) (h3 : ¬ 60 < (xs 2)) (h4 : (xs 3) < 0) (H : Heap) (locs : List Loc) (ls : Array Slot) (hP : va_P z.1 classes [(a0, .inr (11, [.ref a4, .ref a5, .ref a6, .ref a7, .ref a8, .ref a9, .ref a10, .ref a11, .ref a12, .ref a13, .int 0, .int 0, .ref a14, .int 0])), (a1, .inr (18, [.ref a15, .ref a16, .int 0, .ref a17, .int 0, .ref a18, .int 0, .null, .int 0, .null, .long 0, .int 0, .null]))] H) (hD : va_D A [(a0, .inr (11, [.ref a4, .ref a5, .ref a6, .ref a7, .ref a8, .ref a9, .ref a10, .ref a11, .ref a12, .ref a13, .int 0, .int 0, .ref a14, .int 0])), (a1, .inr (18, [.ref a15, .ref a16, .int 0, .ref a17, .int 0, .ref a18, .int 0, .null, .int 0, .null, .long 0, .int 0, .null]))]) (hS : va_S A s.heap H locs) (hl : lv_has ls 9 [(0, .ref b), (1, .ref a0), (2, .ref a1), (3, .ref a2), (4, .ref a3), (5, .int 0)]) : W p l e room_1 s m #[Value.ref b] below meth c H locs 265 8866 Q (F0 m 44 ls [.int 11]) := by
  refine lv_tableIn (tgt := 981) hx hb d_law_44 (by decide +kernel) (by decide +kernel) rfl (by decide) ?_
  refine lv_aload_n hx hb d_law_981 rfl (lv_at hl 1 rfl) ?_
  refine lv_aload_n hx hb d_law_982 rfl (lv_at hl 0 rfl) ?_
  refine lv_iload hx hb d_law_983 (lv_at hl 5 rfl) ?_
  refine lv_iconst (v := 1) hx hb d_law_985 (by decide +kernel) ?_
  refine lv_iadd hx hb d_law_986 ?_
  refine nrm (x1 := 1) (by decide +kernel) ?_
  refine va_sld hx hb hX hbl hbA hS (hin4 (i := 1) rfl) d_law_987 ?_
  refine nrm (x1 := xs 1) rfl ?_
  refine lv_aload_n hx hb d_law_988 rfl (lv_at hl 0 rfl) ?_
  refine lv_iload hx hb d_law_989 (lv_at hl 5 rfl) ?_
  refine lv_iconst (v := 2) hx hb d_law_991 (by decide +kernel) ?_
  refine lv_iadd hx hb d_law_992 ?_
  refine nrm (x1 := 2) (by decide +kernel) ?_
  refine va_sld hx hb hX hbl hbA hS (hin4 (i := 2) rfl) d_law_993 ?_
  refine nrm (x1 := xs 2) rfl ?_
  refine lv_aload_n hx hb d_law_994 rfl (lv_at hl 0 rfl) ?_
  refine lv_iload hx hb d_law_995 (lv_at hl 5 rfl) ?_
  refine lv_iconst (v := 3) hx hb d_law_997 (by decide +kernel) ?_
  refine lv_iadd hx hb d_law_998 ?_
  refine nrm (x1 := 3) (by decide +kernel) ?_
  refine va_sld hx hb hX hbl hbA hS (hin4 (i := 3) rfl) d_law_999 ?_
  refine nrm (x1 := xs 3) rfl ?_
  refine lv_aload_n hx hb d_law_1000 rfl (lv_at hl 3 rfl) ?_
  refine kH (As := [.ref a0, .int (xs 1), .int (xs 2), .int (xs 3), .ref a2]) (rest := []) (wr := [(a1, .inr (18, [.ref a15, .ref a16, .int 0, .ref a17, .int 0, .ref a18, .int 0, .null, .int 0, .null, .long 0, .int 0, .null]))]) (c165_BLaw_seats l z hl0 a0 a2 a4 a5 a6 a7 a8 a9 a10 a11 a12 a13 a14 (xs 1) (xs 2) (xs 3) h0 h1 h2 h3 h4) hx hb hml hown hts w_994 w_992 w_993 w_0 md_e152f2 ⟨Nat.le_of_ble_eq_true rfl, Nat.le_of_ble_eq_true rfl⟩ hG hZ hP hD hS hA [0] [1] rfl rfl rfl rfl rfl hl.1 rfl (Nat.le_of_ble_eq_true rfl) d_law_1001 ⟨Nat.le_of_ble_eq_true rfl, Nat.le_of_ble_eq_true rfl⟩ (fun u0 H locs hP hD hS => ?_)
  have hP : va_P z.1 classes [(a1, .inr (18, [.ref a15, .ref a16, .int 0, .ref a17, .int 0, .ref a18, .int 0, .null, .int 0, .null, .long 0, .int 0, .null])), (a0, .inr (11, [.ref a4, .ref a5, .ref a6, .ref a7, .ref a8, .ref a9, .ref a10, .ref a11, .ref a12, .ref a13, .int 0, .int 0, .ref a14, .int 0]))] H := hP
  have hD : va_D A [(a1, .inr (18, [.ref a15, .ref a16, .int 0, .ref a17, .int 0, .ref a18, .int 0, .null, .int 0, .null, .long 0, .int 0, .null])), (a0, .inr (11, [.ref a4, .ref a5, .ref a6, .ref a7, .ref a8, .ref a9, .ref a10, .ref a11, .ref a12, .ref a13, .int 0, .int 0, .ref a14, .int 0]))] := hD
  refine W.eq (g2 := F0 m 1004 ls [.int 1]) rfl ?_
  refine lv_istore (lv' := [(6, .int 1), (0, .ref b), (1, .ref a0), (2, .ref a1), (3, .ref a2), (4, .ref a3), (5, .int 0)]) hx hb d_law_1004 hl (by decide) rfl (fun ls hl => ?_)
  refine lv_aload_n hx hb d_law_1006 rfl (lv_at hl 3 rfl) ?_
  refine lv_aload_n hx hb d_law_1007 rfl (lv_at hl 1 rfl) ?_
  refine lv_iload hx hb d_law_1008 (lv_at hl 6 rfl) ?_
  refine lv_iconst (v := 1) hx hb d_law_1010 (by decide +kernel) ?_
  refine lv_iadd hx hb d_law_1011 ?_
  refine nrm (x1 := 1) (by decide +kernel) ?_
  refine va_sld hx hb hX hbl hbA hS (hin4 (i := 1) rfl) d_law_1012 ?_
  refine nrm (x1 := xs 1) rfl ?_
  refine lv_aload_n hx hb d_law_1013 rfl (lv_at hl 1 rfl) ?_
  refine lv_iload hx hb d_law_1014 (lv_at hl 6 rfl) ?_
  refine lv_iconst (v := 2) hx hb d_law_1016 (by decide +kernel) ?_
  refine lv_iadd hx hb d_law_1017 ?_
  refine nrm (x1 := 2) (by decide +kernel) ?_
  refine va_sld hx hb hX hbl hbA hS (hin4 (i := 2) rfl) d_law_1018 ?_
  refine nrm (x1 := xs 2) rfl ?_
  refine lv_aload_n hx hb d_law_1019 rfl (lv_at hl 1 rfl) ?_
  refine lv_iload hx hb d_law_1020 (lv_at hl 6 rfl) ?_
  refine lv_iconst (v := 3) hx hb d_law_1022 (by decide +kernel) ?_
  refine lv_iadd hx hb d_law_1023 ?_
  refine nrm (x1 := 3) (by decide +kernel) ?_
  refine va_sld hx hb hX hbl hbA hS (hin4 (i := 3) rfl) d_law_1024 ?_
  refine nrm (x1 := xs 3) rfl ?_
  refine kV (As := [.int (xs 1), .int (xs 2), .int (xs 3)]) (rest := []) (wr := [(a0, .inr (11, [.ref a4, .ref a5, .ref a6, .ref a7, .ref a8, .ref a9, .ref a10, .ref a11, .ref a12, .ref a13, .int 0, .int 0, .ref a14, .int 0]))]) (c168_BModel_seats l z a1 a15 a16 a17 a18 (xs 1) (xs 2) (xs 3) h0 h1 h2 h3 h4) hx hb hml hown hts w_1824 w_1821 w_1822 w_1823 w_12 md_d0d460 ⟨Nat.le_of_ble_eq_true rfl, Nat.le_of_ble_eq_true rfl⟩ hG hZ hP hD hS hA 0 rfl rfl rfl [0] [1] rfl rfl rfl rfl rfl hl.1 rfl (Nat.le_of_ble_eq_true rfl) d_law_1025 ⟨Nat.le_of_ble_eq_true rfl, Nat.le_of_ble_eq_true rfl⟩ (fun u1 H locs hP hD hS => ?_)
  have hP : va_P z.1 classes [(a0, .inr (11, [.ref a4, .ref a5, .ref a6, .ref a7, .ref a8, .ref a9, .ref a10, .ref a11, .ref a12, .ref a13, .int 0, .int 0, .ref a14, .int 0])), (a1, .inr (18, [.ref a15, .ref a16, .int 0, .ref a17, .int 0, .ref a18, .int 1, .null, .int 0, .null, .long 0, .int 0, .null]))] H := hP
  have hD : va_D A [(a0, .inr (11, [.ref a4, .ref a5, .ref a6, .ref a7, .ref a8, .ref a9, .ref a10, .ref a11, .ref a12, .ref a13, .int 0, .int 0, .ref a14, .int 0])), (a1, .inr (18, [.ref a15, .ref a16, .int 0, .ref a17, .int 0, .ref a18, .int 1, .null, .int 0, .null, .long 0, .int 0, .null]))] := hD
  refine W.eq (g2 := F0 m 1028 ls [.int 0]) rfl ?_
  refine lv_istore (lv' := [(7, .int 0), (6, .int 1), (0, .ref b), (1, .ref a0), (2, .ref a1), (3, .ref a2), (4, .ref a3), (5, .int 0)]) hx hb d_law_1028 hl (by decide) rfl (fun ls hl => ?_)
  refine lv_aload_n hx hb d_law_1030 rfl (lv_at hl 4 rfl) ?_
  refine kV (As := []) (rest := []) (wr := [(a0, .inr (11, [.ref a4, .ref a5, .ref a6, .ref a7, .ref a8, .ref a9, .ref a10, .ref a11, .ref a12, .ref a13, .int 0, .int 0, .ref a14, .int 0]))]) (c33_BModel_thrown l z a1 a15 a16 a17 a18) hx hb hml hown hts w_1688 w_1685 w_1686 w_1687 w_12 md_c48e0f ⟨Nat.le_of_ble_eq_true rfl, Nat.le_of_ble_eq_true rfl⟩ hG hZ hP hD hS hA 1 rfl rfl rfl [1] [0] rfl rfl rfl rfl rfl hl.1 rfl (Nat.le_of_ble_eq_true rfl) d_law_1031 ⟨Nat.le_of_ble_eq_true rfl, Nat.le_of_ble_eq_true rfl⟩ (fun u2 H locs hP hD hS => ?_)
  have hP : va_P z.1 classes [(a0, .inr (11, [.ref a4, .ref a5, .ref a6, .ref a7, .ref a8, .ref a9, .ref a10, .ref a11, .ref a12, .ref a13, .int 0, .int 0, .ref a14, .int 0])), (a1, .inr (18, [.ref a15, .ref a16, .int 0, .ref a17, .int 0, .ref a18, .int 1, .null, .int 0, .null, .long 0, .int 0, .null]))] H := hP
  have hD : va_D A [(a0, .inr (11, [.ref a4, .ref a5, .ref a6, .ref a7, .ref a8, .ref a9, .ref a10, .ref a11, .ref a12, .ref a13, .int 0, .int 0, .ref a14, .int 0])), (a1, .inr (18, [.ref a15, .ref a16, .int 0, .ref a17, .int 0, .ref a18, .int 1, .null, .int 0, .null, .long 0, .int 0, .null]))] := hD
  refine W.eq (g2 := F0 m 1034 ls [.int 1]) rfl ?_
  refine lv_iload hx hb d_law_1034 (lv_at hl 1 rfl) ?_
  refine lv_icmp_eq (tgt := 1041) hx hb d_law_1036 (by decide) (fun _ => ?_) (fun c9 => absurd (by decide +kernel) c9)
  refine lv_iload hx hb d_law_1041 (lv_at hl 1 rfl) ?_
  refine lv_if_ne (tgt := 1058) hx hb d_law_1043 (by decide) (fun _ => ?_) (fun c9 => absurd c9 (by decide +kernel))
  refine lv_goto (tgt := 3072) hx hb d_law_1058 (by decide) ?_
  refine W.widen (k := 600002) (n := 7302232) (Nat.le_of_ble_eq_true rfl) (Nat.le_of_ble_eq_true rfl) ?_
  exact ht H locs ls hS (lv_sub hl [2, 7] rfl)
set_option maxRecDepth 100000 in
set_option maxHeartbeats 4000000 in
theorem L11_5 (l : Launch) (hl0 : l.stackTraces = false) (z : Zz) {p : Program} {e : Env} {s : State} {m : MethodId} {below : List Frame} {meth : Method} {c : Code} {A : Nat → Prop} {b : Nat} {xs : Nat → Int32} {Q : State → Prop} (hx : p.tables.exec = Jvm.exec) (hb : c.code = code) (hml : c.maxLocals = 9) (hts : ∀ w ∈ WG, w.before #[Value.ref b] s = true) (hown : s.vm.findClass "BallothallLaw" = some m.cls) (hA : ∀ q, s.heap.size ≤ q → A q) (hG : KG z s) (hZ : XZ A s) (hX : va_X b 4 xs s s.heap) (hbl : b < s.heap.size) (hbA : ¬ A b) (ht : ∀ (H : Heap) (locs : List Loc) (ls : Array Slot), va_S A s.heap H locs → lv_has ls 9 [(0, .ref b), (5, .int 0)] → W p l e room_1 s m #[Value.ref b] below meth c H locs 600002 7302232 Q (F0 m 3072 ls [])) (a0 : Nat) (a1 : Nat) (a2 : Nat) (a3 : Nat) (a4 : Nat) (a5 : Nat) (a6 : Nat) (a7 : Nat) (a8 : Nat) (a9 : Nat) (a10 : Nat) (a11 : Nat) (a12 : Nat) (a13 : Nat) (a14 : Nat) (a15 : Nat) (a16 : Nat) (a17 : Nat) (a18 : Nat) (h0 : ¬ (xs 1) < 0) (h1 : ¬ 5 < (xs 1)) (h2 : ¬ (xs 2) < 1) (h3 : ¬ 60 < (xs 2)) (h4 : ¬ (xs 3) < 0) (h5 : 20 < (xs 3)) (H : Heap) (locs : List Loc) (ls : Array Slot) (hP : va_P z.1 classes [(a0, .inr (11, [.ref a4, .ref a5, .ref a6, .ref a7, .ref a8, .ref a9, .ref a10, .ref a11, .ref a12, .ref a13, .int 0, .int 0, .ref a14, .int 0])), (a1, .inr (18, [.ref a15, .ref a16, .int 0, .ref a17, .int 0, .ref a18, .int 0, .null, .int 0, .null, .long 0, .int 0, .null]))] H) (hD : va_D A [(a0, .inr (11, [.ref a4, .ref a5, .ref a6, .ref a7, .ref a8, .ref a9, .ref a10, .ref a11, .ref a12, .ref a13, .int 0, .int 0, .ref a14, .int 0])), (a1, .inr (18, [.ref a15, .ref a16, .int 0, .ref a17, .int 0, .ref a18, .int 0, .null, .int 0, .null, .long 0, .int 0, .null]))]) (hS : va_S A s.heap H locs) (hl : lv_has ls 9 [(0, .ref b), (1, .ref a0), (2, .ref a1), (3, .ref a2), (4, .ref a3), (5, .int 0)]) : W p l e room_1 s m #[Value.ref b] below meth c H locs 265 8866 Q (F0 m 44 ls [.int 11]) := by
  refine lv_tableIn (tgt := 981) hx hb d_law_44 (by decide +kernel) (by decide +kernel) rfl (by decide) ?_
  refine lv_aload_n hx hb d_law_981 rfl (lv_at hl 1 rfl) ?_
  refine lv_aload_n hx hb d_law_982 rfl (lv_at hl 0 rfl) ?_
  refine lv_iload hx hb d_law_983 (lv_at hl 5 rfl) ?_
  refine lv_iconst (v := 1) hx hb d_law_985 (by decide +kernel) ?_
  refine lv_iadd hx hb d_law_986 ?_
  refine nrm (x1 := 1) (by decide +kernel) ?_
  refine va_sld hx hb hX hbl hbA hS (hin4 (i := 1) rfl) d_law_987 ?_
  refine nrm (x1 := xs 1) rfl ?_
  refine lv_aload_n hx hb d_law_988 rfl (lv_at hl 0 rfl) ?_
  refine lv_iload hx hb d_law_989 (lv_at hl 5 rfl) ?_
  refine lv_iconst (v := 2) hx hb d_law_991 (by decide +kernel) ?_
  refine lv_iadd hx hb d_law_992 ?_
  refine nrm (x1 := 2) (by decide +kernel) ?_
  refine va_sld hx hb hX hbl hbA hS (hin4 (i := 2) rfl) d_law_993 ?_
  refine nrm (x1 := xs 2) rfl ?_
  refine lv_aload_n hx hb d_law_994 rfl (lv_at hl 0 rfl) ?_
  refine lv_iload hx hb d_law_995 (lv_at hl 5 rfl) ?_
  refine lv_iconst (v := 3) hx hb d_law_997 (by decide +kernel) ?_
  refine lv_iadd hx hb d_law_998 ?_
  refine nrm (x1 := 3) (by decide +kernel) ?_
  refine va_sld hx hb hX hbl hbA hS (hin4 (i := 3) rfl) d_law_999 ?_
  refine nrm (x1 := xs 3) rfl ?_
  refine lv_aload_n hx hb d_law_1000 rfl (lv_at hl 3 rfl) ?_
  refine kH (As := [.ref a0, .int (xs 1), .int (xs 2), .int (xs 3), .ref a2]) (rest := []) (wr := [(a1, .inr (18, [.ref a15, .ref a16, .int 0, .ref a17, .int 0, .ref a18, .int 0, .null, .int 0, .null, .long 0, .int 0, .null]))]) (c171_BLaw_seats l z hl0 a0 a2 a4 a5 a6 a7 a8 a9 a10 a11 a12 a13 a14 (xs 1) (xs 2) (xs 3) h0 h1 h2 h3 h4 h5) hx hb hml hown hts w_994 w_992 w_993 w_0 md_e152f2 ⟨Nat.le_of_ble_eq_true rfl, Nat.le_of_ble_eq_true rfl⟩ hG hZ hP hD hS hA [0] [1] rfl rfl rfl rfl rfl hl.1 rfl (Nat.le_of_ble_eq_true rfl) d_law_1001 ⟨Nat.le_of_ble_eq_true rfl, Nat.le_of_ble_eq_true rfl⟩ (fun u0 H locs hP hD hS => ?_)
  have hP : va_P z.1 classes [(a1, .inr (18, [.ref a15, .ref a16, .int 0, .ref a17, .int 0, .ref a18, .int 0, .null, .int 0, .null, .long 0, .int 0, .null])), (a0, .inr (11, [.ref a4, .ref a5, .ref a6, .ref a7, .ref a8, .ref a9, .ref a10, .ref a11, .ref a12, .ref a13, .int 0, .int 0, .ref a14, .int 0]))] H := hP
  have hD : va_D A [(a1, .inr (18, [.ref a15, .ref a16, .int 0, .ref a17, .int 0, .ref a18, .int 0, .null, .int 0, .null, .long 0, .int 0, .null])), (a0, .inr (11, [.ref a4, .ref a5, .ref a6, .ref a7, .ref a8, .ref a9, .ref a10, .ref a11, .ref a12, .ref a13, .int 0, .int 0, .ref a14, .int 0]))] := hD
  refine W.eq (g2 := F0 m 1004 ls [.int 1]) rfl ?_
  refine lv_istore (lv' := [(6, .int 1), (0, .ref b), (1, .ref a0), (2, .ref a1), (3, .ref a2), (4, .ref a3), (5, .int 0)]) hx hb d_law_1004 hl (by decide) rfl (fun ls hl => ?_)
  refine lv_aload_n hx hb d_law_1006 rfl (lv_at hl 3 rfl) ?_
  refine lv_aload_n hx hb d_law_1007 rfl (lv_at hl 1 rfl) ?_
  refine lv_iload hx hb d_law_1008 (lv_at hl 6 rfl) ?_
  refine lv_iconst (v := 1) hx hb d_law_1010 (by decide +kernel) ?_
  refine lv_iadd hx hb d_law_1011 ?_
  refine nrm (x1 := 1) (by decide +kernel) ?_
  refine va_sld hx hb hX hbl hbA hS (hin4 (i := 1) rfl) d_law_1012 ?_
  refine nrm (x1 := xs 1) rfl ?_
  refine lv_aload_n hx hb d_law_1013 rfl (lv_at hl 1 rfl) ?_
  refine lv_iload hx hb d_law_1014 (lv_at hl 6 rfl) ?_
  refine lv_iconst (v := 2) hx hb d_law_1016 (by decide +kernel) ?_
  refine lv_iadd hx hb d_law_1017 ?_
  refine nrm (x1 := 2) (by decide +kernel) ?_
  refine va_sld hx hb hX hbl hbA hS (hin4 (i := 2) rfl) d_law_1018 ?_
  refine nrm (x1 := xs 2) rfl ?_
  refine lv_aload_n hx hb d_law_1019 rfl (lv_at hl 1 rfl) ?_
  refine lv_iload hx hb d_law_1020 (lv_at hl 6 rfl) ?_
  refine lv_iconst (v := 3) hx hb d_law_1022 (by decide +kernel) ?_
  refine lv_iadd hx hb d_law_1023 ?_
  refine nrm (x1 := 3) (by decide +kernel) ?_
  refine va_sld hx hb hX hbl hbA hS (hin4 (i := 3) rfl) d_law_1024 ?_
  refine nrm (x1 := xs 3) rfl ?_
  refine kV (As := [.int (xs 1), .int (xs 2), .int (xs 3)]) (rest := []) (wr := [(a0, .inr (11, [.ref a4, .ref a5, .ref a6, .ref a7, .ref a8, .ref a9, .ref a10, .ref a11, .ref a12, .ref a13, .int 0, .int 0, .ref a14, .int 0]))]) (c173_BModel_seats l z a1 a15 a16 a17 a18 (xs 1) (xs 2) (xs 3) h0 h1 h2 h3 h4 h5) hx hb hml hown hts w_1824 w_1821 w_1822 w_1823 w_12 md_d0d460 ⟨Nat.le_of_ble_eq_true rfl, Nat.le_of_ble_eq_true rfl⟩ hG hZ hP hD hS hA 0 rfl rfl rfl [0] [1] rfl rfl rfl rfl rfl hl.1 rfl (Nat.le_of_ble_eq_true rfl) d_law_1025 ⟨Nat.le_of_ble_eq_true rfl, Nat.le_of_ble_eq_true rfl⟩ (fun u1 H locs hP hD hS => ?_)
  have hP : va_P z.1 classes [(a0, .inr (11, [.ref a4, .ref a5, .ref a6, .ref a7, .ref a8, .ref a9, .ref a10, .ref a11, .ref a12, .ref a13, .int 0, .int 0, .ref a14, .int 0])), (a1, .inr (18, [.ref a15, .ref a16, .int 0, .ref a17, .int 0, .ref a18, .int 1, .null, .int 0, .null, .long 0, .int 0, .null]))] H := hP
  have hD : va_D A [(a0, .inr (11, [.ref a4, .ref a5, .ref a6, .ref a7, .ref a8, .ref a9, .ref a10, .ref a11, .ref a12, .ref a13, .int 0, .int 0, .ref a14, .int 0])), (a1, .inr (18, [.ref a15, .ref a16, .int 0, .ref a17, .int 0, .ref a18, .int 1, .null, .int 0, .null, .long 0, .int 0, .null]))] := hD
  refine W.eq (g2 := F0 m 1028 ls [.int 0]) rfl ?_
  refine lv_istore (lv' := [(7, .int 0), (6, .int 1), (0, .ref b), (1, .ref a0), (2, .ref a1), (3, .ref a2), (4, .ref a3), (5, .int 0)]) hx hb d_law_1028 hl (by decide) rfl (fun ls hl => ?_)
  refine lv_aload_n hx hb d_law_1030 rfl (lv_at hl 4 rfl) ?_
  refine kV (As := []) (rest := []) (wr := [(a0, .inr (11, [.ref a4, .ref a5, .ref a6, .ref a7, .ref a8, .ref a9, .ref a10, .ref a11, .ref a12, .ref a13, .int 0, .int 0, .ref a14, .int 0]))]) (c33_BModel_thrown l z a1 a15 a16 a17 a18) hx hb hml hown hts w_1688 w_1685 w_1686 w_1687 w_12 md_c48e0f ⟨Nat.le_of_ble_eq_true rfl, Nat.le_of_ble_eq_true rfl⟩ hG hZ hP hD hS hA 1 rfl rfl rfl [1] [0] rfl rfl rfl rfl rfl hl.1 rfl (Nat.le_of_ble_eq_true rfl) d_law_1031 ⟨Nat.le_of_ble_eq_true rfl, Nat.le_of_ble_eq_true rfl⟩ (fun u2 H locs hP hD hS => ?_)
  have hP : va_P z.1 classes [(a0, .inr (11, [.ref a4, .ref a5, .ref a6, .ref a7, .ref a8, .ref a9, .ref a10, .ref a11, .ref a12, .ref a13, .int 0, .int 0, .ref a14, .int 0])), (a1, .inr (18, [.ref a15, .ref a16, .int 0, .ref a17, .int 0, .ref a18, .int 1, .null, .int 0, .null, .long 0, .int 0, .null]))] H := hP
  have hD : va_D A [(a0, .inr (11, [.ref a4, .ref a5, .ref a6, .ref a7, .ref a8, .ref a9, .ref a10, .ref a11, .ref a12, .ref a13, .int 0, .int 0, .ref a14, .int 0])), (a1, .inr (18, [.ref a15, .ref a16, .int 0, .ref a17, .int 0, .ref a18, .int 1, .null, .int 0, .null, .long 0, .int 0, .null]))] := hD
  refine W.eq (g2 := F0 m 1034 ls [.int 1]) rfl ?_
  refine lv_iload hx hb d_law_1034 (lv_at hl 1 rfl) ?_
  refine lv_icmp_eq (tgt := 1041) hx hb d_law_1036 (by decide) (fun _ => ?_) (fun c9 => absurd (by decide +kernel) c9)
  refine lv_iload hx hb d_law_1041 (lv_at hl 1 rfl) ?_
  refine lv_if_ne (tgt := 1058) hx hb d_law_1043 (by decide) (fun _ => ?_) (fun c9 => absurd c9 (by decide +kernel))
  refine lv_goto (tgt := 3072) hx hb d_law_1058 (by decide) ?_
  refine W.widen (k := 600002) (n := 7302232) (Nat.le_of_ble_eq_true rfl) (Nat.le_of_ble_eq_true rfl) ?_
  exact ht H locs ls hS (lv_sub hl [2, 7] rfl)
set_option maxRecDepth 100000 in
set_option maxHeartbeats 4000000 in
theorem L11_6 (l : Launch) (hl0 : l.stackTraces = false) (z : Zz) {p : Program} {e : Env} {s : State} {m : MethodId} {below : List Frame} {meth : Method} {c : Code} {A : Nat → Prop} {b : Nat} {xs : Nat → Int32} {Q : State → Prop} (hx : p.tables.exec = Jvm.exec) (hb : c.code = code) (hml : c.maxLocals = 9) (hts : ∀ w ∈ WG, w.before #[Value.ref b] s = true) (hown : s.vm.findClass "BallothallLaw" = some m.cls) (hA : ∀ q, s.heap.size ≤ q → A q) (hG : KG z s) (hZ : XZ A s) (hX : va_X b 4 xs s s.heap) (hbl : b < s.heap.size) (hbA : ¬ A b) (ht : ∀ (H : Heap) (locs : List Loc) (ls : Array Slot), va_S A s.heap H locs → lv_has ls 9 [(0, .ref b), (5, .int 0)] → W p l e room_1 s m #[Value.ref b] below meth c H locs 600002 7302232 Q (F0 m 3072 ls [])) (a0 : Nat) (a1 : Nat) (a2 : Nat) (a3 : Nat) (a4 : Nat) (a5 : Nat) (a6 : Nat) (a7 : Nat) (a8 : Nat) (a9 : Nat) (a10 : Nat) (a11 : Nat) (a12 : Nat) (a13 : Nat) (a14 : Nat) (a15 : Nat) (a16 : Nat) (a17 : Nat) (a18 : Nat) (a19 : Nat) (a20 : Nat) (a21 : Nat) (a22 : Nat) (a23 : Nat) (a24 : Nat) (a25 : Nat) (a26 : Nat) (a27 : Nat) (a28 : Nat) (a29 : Nat) (a30 : Nat) (a31 : Nat) (a32 : Nat) (a33 : Nat) (a34 : Nat) (a35 : Nat) (a36 : Nat) (a37 : Nat) (a38 : Nat) (a39 : Nat) (a40 : Nat) (a41 : Nat) (a42 : Nat) (a43 : Nat) (a44 : Nat) (a45 : Nat) (a46 : Nat) (a47 : Nat) (a48 : Nat) (a49 : Nat) (a50 : Nat) (a51 : Nat) (a52 : Nat) (a53 : Nat) (a54 : Nat) (a55 : Nat) (a56 : Nat) (a57 : Nat) (a58 : Nat) (a59 : Nat) (a60 : Nat) (a61 : Nat) (a62 : Nat) (a63 : Nat) (a64 : Nat) (a65 : Nat) (a66 : Nat) (h0 : ¬ (xs 1) < 0) (h1 : ¬ 5 < (xs 1)) (h2 : ¬ (xs 2) < 1) (h3 : ¬ 60 < (xs 2)) (h4 : ¬ (xs 3) < 0) (h5 : ¬ 20 < (xs 3)) (H : Heap) (locs : List Loc) (ls : Array Slot) (hP : va_P z.1 classes [(a0, .inr (11, [.ref a4, .ref a5, .ref a6, .ref a7, .ref a8, .ref a9, .ref a10, .ref a11, .ref a12, .ref a13, .int 0, .int 0, .ref a14, .int 0])), (a7, .inr (7, [.int 0, .ref a15, .ref a16, .ref a17, .ref a18, .ref a19, .int 0, .ref a20, .ref a21, .ref a22, .int 0])), (a18, .inr (4, [.int 0, .int 0, .ref a23, .ref a24, .ref a25, .ref a26, .ref a27, .ref a28])), (a20, .inl (z.2 0, 8, .inl (fun _ => 0))), (a22, .inl (z.2 3, 21, .inr (.inr (.inr (.inr (va_up (va_up (va_up (va_up (va_up (va_up (va_up (va_up (va_up (va_up (va_up (va_up (va_up (va_up (va_up (va_up (va_up (va_up (va_up (va_up (va_up (fun _ => none) 0 (some a29)) 1 (some a30)) 2 (some a31)) 3 (some a32)) 4 (some a33)) 5 (some a34)) 6 (some a35)) 7 (some a36)) 8 (some a37)) 9 (some a38)) 10 (some a39)) 11 (some a40)) 12 (some a41)) 13 (some a42)) 14 (some a43)) 15 (some a44)) 16 (some a45)) 17 (some a46)) 18 (some a47)) 19 (some a48)) 20 (some a49))))))), (a30, .inr (6, [.int 0, .int 0, .int 0, .ref a50, .ref a51, .ref a52, .ref a53])), (a28, .inl (z.2 0, 61, .inl (fun _ => 0))), (a50, .inl (z.2 0, 60, .inl (fun _ => 0))), (a51, .inl (z.2 0, 8, .inl (fun _ => 0))), (a15, .inl (z.2 0, 8, .inl (fun _ => 0))), (a52, .inl (z.2 0, 8, .inl (fun _ => 0))), (a16, .inl (z.2 0, 8, .inl (fun _ => 0))), (a53, .inl (z.2 0, 8, .inl (fun _ => 0))), (a11, .inl (z.2 0, 20, .inl (fun _ => 0))), (a12, .inl (z.2 0, 20, .inl (fun _ => 0))), (a13, .inl (z.2 0, 20, .inl (fun _ => 0))), (a2, .inl (z.2 1, 1, .inr (.inl (fun _ => 0)))), (a1, .inr (18, [.ref a54, .ref a55, .int 0, .ref a56, .int 0, .ref a57, .int 0, .null, .int 0, .null, .long 0, .int 0, .null])), (a54, .inr (17, [.int 0, .ref a58, .ref a59, .int 0, .ref a60, .ref a61, .ref a62, .null, .null, .int 0, .ref a63, .ref a64, .ref a65, .int 0, .ref a66, .int 1])), (a58, .inl (z.2 0, 8, .inl (fun _ => 0))), (a60, .inl (z.2 0, 8, .inl (fun _ => 0))), (a61, .inl (z.2 0, 8, .inl (fun _ => 0))), (a62, .inl (z.2 0, 8, .inl (fun _ => 0))), (a63, .inl (z.2 0, 16, .inl (fun _ => 0))), (a64, .inl (z.2 0, 16, .inl (fun _ => 0))), (a65, .inl (z.2 0, 16, .inl (fun _ => 0))), (a66, .inl (z.2 0, 12, .inl (fun _ => 0))), (a55, .inl (z.2 6, 20, .inr (.inr (.inr (.inr (fun _ => none))))))] H) (hD : va_D A [(a0, .inr (11, [.ref a4, .ref a5, .ref a6, .ref a7, .ref a8, .ref a9, .ref a10, .ref a11, .ref a12, .ref a13, .int 0, .int 0, .ref a14, .int 0])), (a7, .inr (7, [.int 0, .ref a15, .ref a16, .ref a17, .ref a18, .ref a19, .int 0, .ref a20, .ref a21, .ref a22, .int 0])), (a18, .inr (4, [.int 0, .int 0, .ref a23, .ref a24, .ref a25, .ref a26, .ref a27, .ref a28])), (a20, .inl (z.2 0, 8, .inl (fun _ => 0))), (a22, .inl (z.2 3, 21, .inr (.inr (.inr (.inr (va_up (va_up (va_up (va_up (va_up (va_up (va_up (va_up (va_up (va_up (va_up (va_up (va_up (va_up (va_up (va_up (va_up (va_up (va_up (va_up (va_up (fun _ => none) 0 (some a29)) 1 (some a30)) 2 (some a31)) 3 (some a32)) 4 (some a33)) 5 (some a34)) 6 (some a35)) 7 (some a36)) 8 (some a37)) 9 (some a38)) 10 (some a39)) 11 (some a40)) 12 (some a41)) 13 (some a42)) 14 (some a43)) 15 (some a44)) 16 (some a45)) 17 (some a46)) 18 (some a47)) 19 (some a48)) 20 (some a49))))))), (a30, .inr (6, [.int 0, .int 0, .int 0, .ref a50, .ref a51, .ref a52, .ref a53])), (a28, .inl (z.2 0, 61, .inl (fun _ => 0))), (a50, .inl (z.2 0, 60, .inl (fun _ => 0))), (a51, .inl (z.2 0, 8, .inl (fun _ => 0))), (a15, .inl (z.2 0, 8, .inl (fun _ => 0))), (a52, .inl (z.2 0, 8, .inl (fun _ => 0))), (a16, .inl (z.2 0, 8, .inl (fun _ => 0))), (a53, .inl (z.2 0, 8, .inl (fun _ => 0))), (a11, .inl (z.2 0, 20, .inl (fun _ => 0))), (a12, .inl (z.2 0, 20, .inl (fun _ => 0))), (a13, .inl (z.2 0, 20, .inl (fun _ => 0))), (a2, .inl (z.2 1, 1, .inr (.inl (fun _ => 0)))), (a1, .inr (18, [.ref a54, .ref a55, .int 0, .ref a56, .int 0, .ref a57, .int 0, .null, .int 0, .null, .long 0, .int 0, .null])), (a54, .inr (17, [.int 0, .ref a58, .ref a59, .int 0, .ref a60, .ref a61, .ref a62, .null, .null, .int 0, .ref a63, .ref a64, .ref a65, .int 0, .ref a66, .int 1])), (a58, .inl (z.2 0, 8, .inl (fun _ => 0))), (a60, .inl (z.2 0, 8, .inl (fun _ => 0))), (a61, .inl (z.2 0, 8, .inl (fun _ => 0))), (a62, .inl (z.2 0, 8, .inl (fun _ => 0))), (a63, .inl (z.2 0, 16, .inl (fun _ => 0))), (a64, .inl (z.2 0, 16, .inl (fun _ => 0))), (a65, .inl (z.2 0, 16, .inl (fun _ => 0))), (a66, .inl (z.2 0, 12, .inl (fun _ => 0))), (a55, .inl (z.2 6, 20, .inr (.inr (.inr (.inr (fun _ => none))))))]) (hS : va_S A s.heap H locs) (hl : lv_has ls 9 [(0, .ref b), (1, .ref a0), (2, .ref a1), (3, .ref a2), (4, .ref a3), (5, .int 0)]) : W p l e room_1 s m #[Value.ref b] below meth c H locs 265 8866 Q (F0 m 44 ls [.int 11]) := by
  refine lv_tableIn (tgt := 981) hx hb d_law_44 (by decide +kernel) (by decide +kernel) rfl (by decide) ?_
  refine lv_aload_n hx hb d_law_981 rfl (lv_at hl 1 rfl) ?_
  refine lv_aload_n hx hb d_law_982 rfl (lv_at hl 0 rfl) ?_
  refine lv_iload hx hb d_law_983 (lv_at hl 5 rfl) ?_
  refine lv_iconst (v := 1) hx hb d_law_985 (by decide +kernel) ?_
  refine lv_iadd hx hb d_law_986 ?_
  refine nrm (x1 := 1) (by decide +kernel) ?_
  refine va_sld hx hb hX hbl hbA hS (hin4 (i := 1) rfl) d_law_987 ?_
  refine nrm (x1 := xs 1) rfl ?_
  refine lv_aload_n hx hb d_law_988 rfl (lv_at hl 0 rfl) ?_
  refine lv_iload hx hb d_law_989 (lv_at hl 5 rfl) ?_
  refine lv_iconst (v := 2) hx hb d_law_991 (by decide +kernel) ?_
  refine lv_iadd hx hb d_law_992 ?_
  refine nrm (x1 := 2) (by decide +kernel) ?_
  refine va_sld hx hb hX hbl hbA hS (hin4 (i := 2) rfl) d_law_993 ?_
  refine nrm (x1 := xs 2) rfl ?_
  refine lv_aload_n hx hb d_law_994 rfl (lv_at hl 0 rfl) ?_
  refine lv_iload hx hb d_law_995 (lv_at hl 5 rfl) ?_
  refine lv_iconst (v := 3) hx hb d_law_997 (by decide +kernel) ?_
  refine lv_iadd hx hb d_law_998 ?_
  refine nrm (x1 := 3) (by decide +kernel) ?_
  refine va_sld hx hb hX hbl hbA hS (hin4 (i := 3) rfl) d_law_999 ?_
  refine nrm (x1 := xs 3) rfl ?_
  refine lv_aload_n hx hb d_law_1000 rfl (lv_at hl 3 rfl) ?_
  refine kH (As := [.ref a0, .int (xs 1), .int (xs 2), .int (xs 3), .ref a2]) (rest := []) (wr := [(a1, .inr (18, [.ref a54, .ref a55, .int 0, .ref a56, .int 0, .ref a57, .int 0, .null, .int 0, .null, .long 0, .int 0, .null])), (a54, .inr (17, [.int 0, .ref a58, .ref a59, .int 0, .ref a60, .ref a61, .ref a62, .null, .null, .int 0, .ref a63, .ref a64, .ref a65, .int 0, .ref a66, .int 1])), (a58, .inl (z.2 0, 8, .inl (fun _ => 0))), (a60, .inl (z.2 0, 8, .inl (fun _ => 0))), (a61, .inl (z.2 0, 8, .inl (fun _ => 0))), (a62, .inl (z.2 0, 8, .inl (fun _ => 0))), (a63, .inl (z.2 0, 16, .inl (fun _ => 0))), (a64, .inl (z.2 0, 16, .inl (fun _ => 0))), (a65, .inl (z.2 0, 16, .inl (fun _ => 0))), (a66, .inl (z.2 0, 12, .inl (fun _ => 0))), (a55, .inl (z.2 6, 20, .inr (.inr (.inr (.inr (fun _ => none))))))]) (c181_BLaw_seats l z a0 a2 a4 a5 a6 a7 a8 a9 a10 a11 a12 a13 a14 a15 a16 a17 a18 a19 a20 a21 a22 a23 a24 a25 a26 a27 a28 a29 a30 a31 a32 a33 a34 a35 a36 a37 a38 a39 a40 a41 a42 a43 a44 a45 a46 a47 a48 a49 a50 a51 a52 a53 (xs 1) (xs 2) (xs 3) h0 h1 h2 h3 h4 h5) hx hb hml hown hts w_994 w_992 w_993 w_0 md_e152f2 ⟨Nat.le_of_ble_eq_true rfl, Nat.le_of_ble_eq_true rfl⟩ hG hZ hP hD hS hA [0, 1, 2, 3, 4, 5, 6, 7, 8, 9, 10, 11, 12, 13, 14, 15, 16] [17, 18, 19, 20, 21, 22, 23, 24, 25, 26, 27] rfl rfl rfl rfl rfl hl.1 rfl (Nat.le_of_ble_eq_true rfl) d_law_1001 ⟨Nat.le_of_ble_eq_true rfl, Nat.le_of_ble_eq_true rfl⟩ (fun u0 H locs hP hD hS => ?_)
  have hP : va_P z.1 classes [(a1, .inr (18, [.ref a54, .ref a55, .int 0, .ref a56, .int 0, .ref a57, .int 0, .null, .int 0, .null, .long 0, .int 0, .null])), (a54, .inr (17, [.int 0, .ref a58, .ref a59, .int 0, .ref a60, .ref a61, .ref a62, .null, .null, .int 0, .ref a63, .ref a64, .ref a65, .int 0, .ref a66, .int 1])), (a58, .inl (z.2 0, 8, .inl (fun _ => 0))), (a60, .inl (z.2 0, 8, .inl (fun _ => 0))), (a61, .inl (z.2 0, 8, .inl (fun _ => 0))), (a62, .inl (z.2 0, 8, .inl (fun _ => 0))), (a63, .inl (z.2 0, 16, .inl (fun _ => 0))), (a64, .inl (z.2 0, 16, .inl (fun _ => 0))), (a65, .inl (z.2 0, 16, .inl (fun _ => 0))), (a66, .inl (z.2 0, 12, .inl (fun _ => 0))), (a55, .inl (z.2 6, 20, .inr (.inr (.inr (.inr (fun _ => none)))))), (a0, .inr (11, [.ref a4, .ref a5, .ref a6, .ref a7, .ref a8, .ref a9, .ref a10, .ref a11, .ref a12, .ref a13, .int 1, .int 1, .ref a14, .int 0])), (a7, .inr (7, [.int 0, .ref a15, .ref a16, .ref a17, .ref a18, .ref a19, .int 0, .ref a20, .ref a21, .ref a22, .int 1])), (a18, .inr (4, [.int 0, .int 0, .ref a23, .ref a24, .ref a25, .ref a26, .ref a27, .ref a28])), (a20, .inl (z.2 0, 8, .inl (fun _ => 0))), (a22, .inl (z.2 3, 21, .inr (.inr (.inr (.inr (va_up (va_up (va_up (va_up (va_up (va_up (va_up (va_up (va_up (va_up (va_up (va_up (va_up (va_up (va_up (va_up (va_up (va_up (va_up (va_up (va_up (fun _ => none) 0 (some a29)) 1 (some a30)) 2 (some a31)) 3 (some a32)) 4 (some a33)) 5 (some a34)) 6 (some a35)) 7 (some a36)) 8 (some a37)) 9 (some a38)) 10 (some a39)) 11 (some a40)) 12 (some a41)) 13 (some a42)) 14 (some a43)) 15 (some a44)) 16 (some a45)) 17 (some a46)) 18 (some a47)) 19 (some a48)) 20 (some a49))))))), (a30, .inr (6, [.int 0, .int 0, .int 0, .ref a50, .ref a51, .ref a52, .ref a53])), (a28, .inl (z.2 0, 61, .inl (fun _ => 0))), (a50, .inl (z.2 0, 60, .inl (fun _ => 0))), (a51, .inl (z.2 0, 8, .inl (fun _ => 0))), (a15, .inl (z.2 0, 8, .inl (fun _ => 0))), (a52, .inl (z.2 0, 8, .inl (fun _ => 0))), (a16, .inl (z.2 0, 8, .inl (fun _ => 0))), (a53, .inl (z.2 0, 8, .inl (fun _ => 0))), (a11, .inl (z.2 0, 20, .inl (upd (fun _ => 0) 1 8))), (a12, .inl (z.2 0, 20, .inl (fun _ => 0))), (a13, .inl (z.2 0, 20, .inl (fun _ => 0))), (a2, .inl (z.2 1, 1, .inr (.inl (fun _ => 0))))] H := hP
  have hD : va_D A [(a1, .inr (18, [.ref a54, .ref a55, .int 0, .ref a56, .int 0, .ref a57, .int 0, .null, .int 0, .null, .long 0, .int 0, .null])), (a54, .inr (17, [.int 0, .ref a58, .ref a59, .int 0, .ref a60, .ref a61, .ref a62, .null, .null, .int 0, .ref a63, .ref a64, .ref a65, .int 0, .ref a66, .int 1])), (a58, .inl (z.2 0, 8, .inl (fun _ => 0))), (a60, .inl (z.2 0, 8, .inl (fun _ => 0))), (a61, .inl (z.2 0, 8, .inl (fun _ => 0))), (a62, .inl (z.2 0, 8, .inl (fun _ => 0))), (a63, .inl (z.2 0, 16, .inl (fun _ => 0))), (a64, .inl (z.2 0, 16, .inl (fun _ => 0))), (a65, .inl (z.2 0, 16, .inl (fun _ => 0))), (a66, .inl (z.2 0, 12, .inl (fun _ => 0))), (a55, .inl (z.2 6, 20, .inr (.inr (.inr (.inr (fun _ => none)))))), (a0, .inr (11, [.ref a4, .ref a5, .ref a6, .ref a7, .ref a8, .ref a9, .ref a10, .ref a11, .ref a12, .ref a13, .int 1, .int 1, .ref a14, .int 0])), (a7, .inr (7, [.int 0, .ref a15, .ref a16, .ref a17, .ref a18, .ref a19, .int 0, .ref a20, .ref a21, .ref a22, .int 1])), (a18, .inr (4, [.int 0, .int 0, .ref a23, .ref a24, .ref a25, .ref a26, .ref a27, .ref a28])), (a20, .inl (z.2 0, 8, .inl (fun _ => 0))), (a22, .inl (z.2 3, 21, .inr (.inr (.inr (.inr (va_up (va_up (va_up (va_up (va_up (va_up (va_up (va_up (va_up (va_up (va_up (va_up (va_up (va_up (va_up (va_up (va_up (va_up (va_up (va_up (va_up (fun _ => none) 0 (some a29)) 1 (some a30)) 2 (some a31)) 3 (some a32)) 4 (some a33)) 5 (some a34)) 6 (some a35)) 7 (some a36)) 8 (some a37)) 9 (some a38)) 10 (some a39)) 11 (some a40)) 12 (some a41)) 13 (some a42)) 14 (some a43)) 15 (some a44)) 16 (some a45)) 17 (some a46)) 18 (some a47)) 19 (some a48)) 20 (some a49))))))), (a30, .inr (6, [.int 0, .int 0, .int 0, .ref a50, .ref a51, .ref a52, .ref a53])), (a28, .inl (z.2 0, 61, .inl (fun _ => 0))), (a50, .inl (z.2 0, 60, .inl (fun _ => 0))), (a51, .inl (z.2 0, 8, .inl (fun _ => 0))), (a15, .inl (z.2 0, 8, .inl (fun _ => 0))), (a52, .inl (z.2 0, 8, .inl (fun _ => 0))), (a16, .inl (z.2 0, 8, .inl (fun _ => 0))), (a53, .inl (z.2 0, 8, .inl (fun _ => 0))), (a11, .inl (z.2 0, 20, .inl (upd (fun _ => 0) 1 8))), (a12, .inl (z.2 0, 20, .inl (fun _ => 0))), (a13, .inl (z.2 0, 20, .inl (fun _ => 0))), (a2, .inl (z.2 1, 1, .inr (.inl (fun _ => 0))))] := hD
  refine W.eq (g2 := F0 m 1004 ls [.int 0]) rfl ?_
  refine lv_istore (lv' := [(6, .int 0), (0, .ref b), (1, .ref a0), (2, .ref a1), (3, .ref a2), (4, .ref a3), (5, .int 0)]) hx hb d_law_1004 hl (by decide) rfl (fun ls hl => ?_)
  refine lv_aload_n hx hb d_law_1006 rfl (lv_at hl 3 rfl) ?_
  refine lv_aload_n hx hb d_law_1007 rfl (lv_at hl 1 rfl) ?_
  refine lv_iload hx hb d_law_1008 (lv_at hl 6 rfl) ?_
  refine lv_iconst (v := 1) hx hb d_law_1010 (by decide +kernel) ?_
  refine lv_iadd hx hb d_law_1011 ?_
  refine nrm (x1 := 1) (by decide +kernel) ?_
  refine va_sld hx hb hX hbl hbA hS (hin4 (i := 1) rfl) d_law_1012 ?_
  refine nrm (x1 := xs 1) rfl ?_
  refine lv_aload_n hx hb d_law_1013 rfl (lv_at hl 1 rfl) ?_
  refine lv_iload hx hb d_law_1014 (lv_at hl 6 rfl) ?_
  refine lv_iconst (v := 2) hx hb d_law_1016 (by decide +kernel) ?_
  refine lv_iadd hx hb d_law_1017 ?_
  refine nrm (x1 := 2) (by decide +kernel) ?_
  refine va_sld hx hb hX hbl hbA hS (hin4 (i := 2) rfl) d_law_1018 ?_
  refine nrm (x1 := xs 2) rfl ?_
  refine lv_aload_n hx hb d_law_1019 rfl (lv_at hl 1 rfl) ?_
  refine lv_iload hx hb d_law_1020 (lv_at hl 6 rfl) ?_
  refine lv_iconst (v := 3) hx hb d_law_1022 (by decide +kernel) ?_
  refine lv_iadd hx hb d_law_1023 ?_
  refine nrm (x1 := 3) (by decide +kernel) ?_
  refine va_sld hx hb hX hbl hbA hS (hin4 (i := 3) rfl) d_law_1024 ?_
  refine nrm (x1 := xs 3) rfl ?_
  refine kV (As := [.int (xs 1), .int (xs 2), .int (xs 3)]) (rest := []) (wr := [(a0, .inr (11, [.ref a4, .ref a5, .ref a6, .ref a7, .ref a8, .ref a9, .ref a10, .ref a11, .ref a12, .ref a13, .int 1, .int 1, .ref a14, .int 0])), (a7, .inr (7, [.int 0, .ref a15, .ref a16, .ref a17, .ref a18, .ref a19, .int 0, .ref a20, .ref a21, .ref a22, .int 1])), (a18, .inr (4, [.int 0, .int 0, .ref a23, .ref a24, .ref a25, .ref a26, .ref a27, .ref a28])), (a20, .inl (z.2 0, 8, .inl (fun _ => 0))), (a22, .inl (z.2 3, 21, .inr (.inr (.inr (.inr (va_up (va_up (va_up (va_up (va_up (va_up (va_up (va_up (va_up (va_up (va_up (va_up (va_up (va_up (va_up (va_up (va_up (va_up (va_up (va_up (va_up (fun _ => none) 0 (some a29)) 1 (some a30)) 2 (some a31)) 3 (some a32)) 4 (some a33)) 5 (some a34)) 6 (some a35)) 7 (some a36)) 8 (some a37)) 9 (some a38)) 10 (some a39)) 11 (some a40)) 12 (some a41)) 13 (some a42)) 14 (some a43)) 15 (some a44)) 16 (some a45)) 17 (some a46)) 18 (some a47)) 19 (some a48)) 20 (some a49))))))), (a30, .inr (6, [.int 0, .int 0, .int 0, .ref a50, .ref a51, .ref a52, .ref a53])), (a28, .inl (z.2 0, 61, .inl (fun _ => 0))), (a50, .inl (z.2 0, 60, .inl (fun _ => 0))), (a51, .inl (z.2 0, 8, .inl (fun _ => 0))), (a15, .inl (z.2 0, 8, .inl (fun _ => 0))), (a52, .inl (z.2 0, 8, .inl (fun _ => 0))), (a16, .inl (z.2 0, 8, .inl (fun _ => 0))), (a53, .inl (z.2 0, 8, .inl (fun _ => 0))), (a11, .inl (z.2 0, 20, .inl (upd (fun _ => 0) 1 8))), (a12, .inl (z.2 0, 20, .inl (fun _ => 0))), (a13, .inl (z.2 0, 20, .inl (fun _ => 0))), (a2, .inl (z.2 1, 1, .inr (.inl (fun _ => 0))))]) (c188_BModel_seats l z a1 a54 a55 a56 a57 a58 a59 a60 a61 a62 a63 a64 a65 a66 (xs 1) (xs 2) (xs 3) h0 h1 h2 h3 h4 h5) hx hb hml hown hts w_1824 w_1821 w_1822 w_1823 w_12 md_d0d460 ⟨Nat.le_of_ble_eq_true rfl, Nat.le_of_ble_eq_true rfl⟩ hG hZ hP hD hS hA 0 rfl rfl rfl [0, 1, 2, 3, 4, 5, 6, 7, 8, 9, 10] [11, 12, 13, 14, 15, 16, 17, 18, 19, 20, 21, 22, 23, 24, 25, 26, 27] rfl rfl rfl rfl rfl hl.1 rfl (Nat.le_of_ble_eq_true rfl) d_law_1025 ⟨Nat.le_of_ble_eq_true rfl, Nat.le_of_ble_eq_true rfl⟩ (fun u1 H locs hP hD hS => ?_)
  have hP : va_P z.1 classes [(a0, .inr (11, [.ref a4, .ref a5, .ref a6, .ref a7, .ref a8, .ref a9, .ref a10, .ref a11, .ref a12, .ref a13, .int 1, .int 1, .ref a14, .int 0])), (a7, .inr (7, [.int 0, .ref a15, .ref a16, .ref a17, .ref a18, .ref a19, .int 0, .ref a20, .ref a21, .ref a22, .int 1])), (a18, .inr (4, [.int 0, .int 0, .ref a23, .ref a24, .ref a25, .ref a26, .ref a27, .ref a28])), (a20, .inl (z.2 0, 8, .inl (fun _ => 0))), (a22, .inl (z.2 3, 21, .inr (.inr (.inr (.inr (va_up (va_up (va_up (va_up (va_up (va_up (va_up (va_up (va_up (va_up (va_up (va_up (va_up (va_up (va_up (va_up (va_up (va_up (va_up (va_up (va_up (fun _ => none) 0 (some a29)) 1 (some a30)) 2 (some a31)) 3 (some a32)) 4 (some a33)) 5 (some a34)) 6 (some a35)) 7 (some a36)) 8 (some a37)) 9 (some a38)) 10 (some a39)) 11 (some a40)) 12 (some a41)) 13 (some a42)) 14 (some a43)) 15 (some a44)) 16 (some a45)) 17 (some a46)) 18 (some a47)) 19 (some a48)) 20 (some a49))))))), (a30, .inr (6, [.int 0, .int 0, .int 0, .ref a50, .ref a51, .ref a52, .ref a53])), (a28, .inl (z.2 0, 61, .inl (fun _ => 0))), (a50, .inl (z.2 0, 60, .inl (fun _ => 0))), (a51, .inl (z.2 0, 8, .inl (fun _ => 0))), (a15, .inl (z.2 0, 8, .inl (fun _ => 0))), (a52, .inl (z.2 0, 8, .inl (fun _ => 0))), (a16, .inl (z.2 0, 8, .inl (fun _ => 0))), (a53, .inl (z.2 0, 8, .inl (fun _ => 0))), (a11, .inl (z.2 0, 20, .inl (upd (fun _ => 0) 1 8))), (a12, .inl (z.2 0, 20, .inl (fun _ => 0))), (a13, .inl (z.2 0, 20, .inl (fun _ => 0))), (a2, .inl (z.2 1, 1, .inr (.inl (fun _ => 0)))), (a1, .inr (18, [.ref a54, .ref a55, .int 1, .ref a56, .int 0, .ref a57, .int 0, .null, .int 0, .null, .long 0, .int 0, .null])), (a54, .inr (17, [.int 0, .ref a58, .ref a59, .int 0, .ref a60, .ref a61, .ref a62, .ref (u1.1 0), .null, .int 0, .ref a63, .ref a64, .ref a65, .int 0, .ref a66, .int 1])), (a58, .inl (z.2 0, 8, .inl (fun _ => 0))), (a60, .inl (z.2 0, 8, .inl (fun _ => 0))), (a61, .inl (z.2 0, 8, .inl (fun _ => 0))), (a62, .inl (z.2 0, 8, .inl (fun _ => 0))), (a63, .inl (z.2 0, 16, .inl (fun _ => 0))), (a64, .inl (z.2 0, 16, .inl (fun _ => 0))), (a65, .inl (z.2 0, 16, .inl (fun _ => 0))), (a66, .inl (z.2 0, 12, .inl (fun _ => 0))), (a55, .inl (z.2 6, 20, .inr (.inr (.inr (.inr (va_up (fun _ => none) 0 (some (u1.1 1))))))))] H := hP
  have hD : va_D A [(a0, .inr (11, [.ref a4, .ref a5, .ref a6, .ref a7, .ref a8, .ref a9, .ref a10, .ref a11, .ref a12, .ref a13, .int 1, .int 1, .ref a14, .int 0])), (a7, .inr (7, [.int 0, .ref a15, .ref a16, .ref a17, .ref a18, .ref a19, .int 0, .ref a20, .ref a21, .ref a22, .int 1])), (a18, .inr (4, [.int 0, .int 0, .ref a23, .ref a24, .ref a25, .ref a26, .ref a27, .ref a28])), (a20, .inl (z.2 0, 8, .inl (fun _ => 0))), (a22, .inl (z.2 3, 21, .inr (.inr (.inr (.inr (va_up (va_up (va_up (va_up (va_up (va_up (va_up (va_up (va_up (va_up (va_up (va_up (va_up (va_up (va_up (va_up (va_up (va_up (va_up (va_up (va_up (fun _ => none) 0 (some a29)) 1 (some a30)) 2 (some a31)) 3 (some a32)) 4 (some a33)) 5 (some a34)) 6 (some a35)) 7 (some a36)) 8 (some a37)) 9 (some a38)) 10 (some a39)) 11 (some a40)) 12 (some a41)) 13 (some a42)) 14 (some a43)) 15 (some a44)) 16 (some a45)) 17 (some a46)) 18 (some a47)) 19 (some a48)) 20 (some a49))))))), (a30, .inr (6, [.int 0, .int 0, .int 0, .ref a50, .ref a51, .ref a52, .ref a53])), (a28, .inl (z.2 0, 61, .inl (fun _ => 0))), (a50, .inl (z.2 0, 60, .inl (fun _ => 0))), (a51, .inl (z.2 0, 8, .inl (fun _ => 0))), (a15, .inl (z.2 0, 8, .inl (fun _ => 0))), (a52, .inl (z.2 0, 8, .inl (fun _ => 0))), (a16, .inl (z.2 0, 8, .inl (fun _ => 0))), (a53, .inl (z.2 0, 8, .inl (fun _ => 0))), (a11, .inl (z.2 0, 20, .inl (upd (fun _ => 0) 1 8))), (a12, .inl (z.2 0, 20, .inl (fun _ => 0))), (a13, .inl (z.2 0, 20, .inl (fun _ => 0))), (a2, .inl (z.2 1, 1, .inr (.inl (fun _ => 0)))), (a1, .inr (18, [.ref a54, .ref a55, .int 1, .ref a56, .int 0, .ref a57, .int 0, .null, .int 0, .null, .long 0, .int 0, .null])), (a54, .inr (17, [.int 0, .ref a58, .ref a59, .int 0, .ref a60, .ref a61, .ref a62, .ref (u1.1 0), .null, .int 0, .ref a63, .ref a64, .ref a65, .int 0, .ref a66, .int 1])), (a58, .inl (z.2 0, 8, .inl (fun _ => 0))), (a60, .inl (z.2 0, 8, .inl (fun _ => 0))), (a61, .inl (z.2 0, 8, .inl (fun _ => 0))), (a62, .inl (z.2 0, 8, .inl (fun _ => 0))), (a63, .inl (z.2 0, 16, .inl (fun _ => 0))), (a64, .inl (z.2 0, 16, .inl (fun _ => 0))), (a65, .inl (z.2 0, 16, .inl (fun _ => 0))), (a66, .inl (z.2 0, 12, .inl (fun _ => 0))), (a55, .inl (z.2 6, 20, .inr (.inr (.inr (.inr (va_up (fun _ => none) 0 (some (u1.1 1))))))))] := hD
  refine W.eq (g2 := F0 m 1028 ls [.int 0]) rfl ?_
  refine lv_istore (lv' := [(7, .int 0), (6, .int 0), (0, .ref b), (1, .ref a0), (2, .ref a1), (3, .ref a2), (4, .ref a3), (5, .int 0)]) hx hb d_law_1028 hl (by decide) rfl (fun ls hl => ?_)
  refine lv_aload_n hx hb d_law_1030 rfl (lv_at hl 4 rfl) ?_
  refine kV (As := []) (rest := []) (wr := [(a0, .inr (11, [.ref a4, .ref a5, .ref a6, .ref a7, .ref a8, .ref a9, .ref a10, .ref a11, .ref a12, .ref a13, .int 1, .int 1, .ref a14, .int 0])), (a7, .inr (7, [.int 0, .ref a15, .ref a16, .ref a17, .ref a18, .ref a19, .int 0, .ref a20, .ref a21, .ref a22, .int 1])), (a18, .inr (4, [.int 0, .int 0, .ref a23, .ref a24, .ref a25, .ref a26, .ref a27, .ref a28])), (a20, .inl (z.2 0, 8, .inl (fun _ => 0))), (a22, .inl (z.2 3, 21, .inr (.inr (.inr (.inr (va_up (va_up (va_up (va_up (va_up (va_up (va_up (va_up (va_up (va_up (va_up (va_up (va_up (va_up (va_up (va_up (va_up (va_up (va_up (va_up (va_up (fun _ => none) 0 (some a29)) 1 (some a30)) 2 (some a31)) 3 (some a32)) 4 (some a33)) 5 (some a34)) 6 (some a35)) 7 (some a36)) 8 (some a37)) 9 (some a38)) 10 (some a39)) 11 (some a40)) 12 (some a41)) 13 (some a42)) 14 (some a43)) 15 (some a44)) 16 (some a45)) 17 (some a46)) 18 (some a47)) 19 (some a48)) 20 (some a49))))))), (a30, .inr (6, [.int 0, .int 0, .int 0, .ref a50, .ref a51, .ref a52, .ref a53])), (a28, .inl (z.2 0, 61, .inl (fun _ => 0))), (a50, .inl (z.2 0, 60, .inl (fun _ => 0))), (a51, .inl (z.2 0, 8, .inl (fun _ => 0))), (a15, .inl (z.2 0, 8, .inl (fun _ => 0))), (a52, .inl (z.2 0, 8, .inl (fun _ => 0))), (a16, .inl (z.2 0, 8, .inl (fun _ => 0))), (a53, .inl (z.2 0, 8, .inl (fun _ => 0))), (a11, .inl (z.2 0, 20, .inl (upd (fun _ => 0) 1 8))), (a12, .inl (z.2 0, 20, .inl (fun _ => 0))), (a13, .inl (z.2 0, 20, .inl (fun _ => 0))), (a2, .inl (z.2 1, 1, .inr (.inl (fun _ => 0)))), (a54, .inr (17, [.int 0, .ref a58, .ref a59, .int 0, .ref a60, .ref a61, .ref a62, .ref (u1.1 0), .null, .int 0, .ref a63, .ref a64, .ref a65, .int 0, .ref a66, .int 1])), (a58, .inl (z.2 0, 8, .inl (fun _ => 0))), (a60, .inl (z.2 0, 8, .inl (fun _ => 0))), (a61, .inl (z.2 0, 8, .inl (fun _ => 0))), (a62, .inl (z.2 0, 8, .inl (fun _ => 0))), (a63, .inl (z.2 0, 16, .inl (fun _ => 0))), (a64, .inl (z.2 0, 16, .inl (fun _ => 0))), (a65, .inl (z.2 0, 16, .inl (fun _ => 0))), (a66, .inl (z.2 0, 12, .inl (fun _ => 0))), (a55, .inl (z.2 6, 20, .inr (.inr (.inr (.inr (va_up (fun _ => none) 0 (some (u1.1 1))))))))]) (c25_BModel_thrown l z a1 a54 a55 a56 a57) hx hb hml hown hts w_1688 w_1685 w_1686 w_1687 w_12 md_c48e0f ⟨Nat.le_of_ble_eq_true rfl, Nat.le_of_ble_eq_true rfl⟩ hG hZ hP hD hS hA 17 rfl rfl rfl [17] [0, 1, 2, 3, 4, 5, 6, 7, 8, 9, 10, 11, 12, 13, 14, 15, 16, 18, 19, 20, 21, 22, 23, 24, 25, 26, 27] rfl rfl rfl rfl rfl hl.1 rfl (Nat.le_of_ble_eq_true rfl) d_law_1031 ⟨Nat.le_of_ble_eq_true rfl, Nat.le_of_ble_eq_true rfl⟩ (fun u2 H locs hP hD hS => ?_)
  have hP : va_P z.1 classes [(a0, .inr (11, [.ref a4, .ref a5, .ref a6, .ref a7, .ref a8, .ref a9, .ref a10, .ref a11, .ref a12, .ref a13, .int 1, .int 1, .ref a14, .int 0])), (a7, .inr (7, [.int 0, .ref a15, .ref a16, .ref a17, .ref a18, .ref a19, .int 0, .ref a20, .ref a21, .ref a22, .int 1])), (a18, .inr (4, [.int 0, .int 0, .ref a23, .ref a24, .ref a25, .ref a26, .ref a27, .ref a28])), (a20, .inl (z.2 0, 8, .inl (fun _ => 0))), (a22, .inl (z.2 3, 21, .inr (.inr (.inr (.inr (va_up (va_up (va_up (va_up (va_up (va_up (va_up (va_up (va_up (va_up (va_up (va_up (va_up (va_up (va_up (va_up (va_up (va_up (va_up (va_up (va_up (fun _ => none) 0 (some a29)) 1 (some a30)) 2 (some a31)) 3 (some a32)) 4 (some a33)) 5 (some a34)) 6 (some a35)) 7 (some a36)) 8 (some a37)) 9 (some a38)) 10 (some a39)) 11 (some a40)) 12 (some a41)) 13 (some a42)) 14 (some a43)) 15 (some a44)) 16 (some a45)) 17 (some a46)) 18 (some a47)) 19 (some a48)) 20 (some a49))))))), (a30, .inr (6, [.int 0, .int 0, .int 0, .ref a50, .ref a51, .ref a52, .ref a53])), (a28, .inl (z.2 0, 61, .inl (fun _ => 0))), (a50, .inl (z.2 0, 60, .inl (fun _ => 0))), (a51, .inl (z.2 0, 8, .inl (fun _ => 0))), (a15, .inl (z.2 0, 8, .inl (fun _ => 0))), (a52, .inl (z.2 0, 8, .inl (fun _ => 0))), (a16, .inl (z.2 0, 8, .inl (fun _ => 0))), (a53, .inl (z.2 0, 8, .inl (fun _ => 0))), (a11, .inl (z.2 0, 20, .inl (upd (fun _ => 0) 1 8))), (a12, .inl (z.2 0, 20, .inl (fun _ => 0))), (a13, .inl (z.2 0, 20, .inl (fun _ => 0))), (a2, .inl (z.2 1, 1, .inr (.inl (fun _ => 0)))), (a54, .inr (17, [.int 0, .ref a58, .ref a59, .int 0, .ref a60, .ref a61, .ref a62, .ref (u1.1 0), .null, .int 0, .ref a63, .ref a64, .ref a65, .int 0, .ref a66, .int 1])), (a58, .inl (z.2 0, 8, .inl (fun _ => 0))), (a60, .inl (z.2 0, 8, .inl (fun _ => 0))), (a61, .inl (z.2 0, 8, .inl (fun _ => 0))), (a62, .inl (z.2 0, 8, .inl (fun _ => 0))), (a63, .inl (z.2 0, 16, .inl (fun _ => 0))), (a64, .inl (z.2 0, 16, .inl (fun _ => 0))), (a65, .inl (z.2 0, 16, .inl (fun _ => 0))), (a66, .inl (z.2 0, 12, .inl (fun _ => 0))), (a55, .inl (z.2 6, 20, .inr (.inr (.inr (.inr (va_up (fun _ => none) 0 (some (u1.1 1)))))))), (a1, .inr (18, [.ref a54, .ref a55, .int 1, .ref a56, .int 0, .ref a57, .int 0, .null, .int 0, .null, .long 0, .int 0, .null]))] H := hP
  have hD : va_D A [(a0, .inr (11, [.ref a4, .ref a5, .ref a6, .ref a7, .ref a8, .ref a9, .ref a10, .ref a11, .ref a12, .ref a13, .int 1, .int 1, .ref a14, .int 0])), (a7, .inr (7, [.int 0, .ref a15, .ref a16, .ref a17, .ref a18, .ref a19, .int 0, .ref a20, .ref a21, .ref a22, .int 1])), (a18, .inr (4, [.int 0, .int 0, .ref a23, .ref a24, .ref a25, .ref a26, .ref a27, .ref a28])), (a20, .inl (z.2 0, 8, .inl (fun _ => 0))), (a22, .inl (z.2 3, 21, .inr (.inr (.inr (.inr (va_up (va_up (va_up (va_up (va_up (va_up (va_up (va_up (va_up (va_up (va_up (va_up (va_up (va_up (va_up (va_up (va_up (va_up (va_up (va_up (va_up (fun _ => none) 0 (some a29)) 1 (some a30)) 2 (some a31)) 3 (some a32)) 4 (some a33)) 5 (some a34)) 6 (some a35)) 7 (some a36)) 8 (some a37)) 9 (some a38)) 10 (some a39)) 11 (some a40)) 12 (some a41)) 13 (some a42)) 14 (some a43)) 15 (some a44)) 16 (some a45)) 17 (some a46)) 18 (some a47)) 19 (some a48)) 20 (some a49))))))), (a30, .inr (6, [.int 0, .int 0, .int 0, .ref a50, .ref a51, .ref a52, .ref a53])), (a28, .inl (z.2 0, 61, .inl (fun _ => 0))), (a50, .inl (z.2 0, 60, .inl (fun _ => 0))), (a51, .inl (z.2 0, 8, .inl (fun _ => 0))), (a15, .inl (z.2 0, 8, .inl (fun _ => 0))), (a52, .inl (z.2 0, 8, .inl (fun _ => 0))), (a16, .inl (z.2 0, 8, .inl (fun _ => 0))), (a53, .inl (z.2 0, 8, .inl (fun _ => 0))), (a11, .inl (z.2 0, 20, .inl (upd (fun _ => 0) 1 8))), (a12, .inl (z.2 0, 20, .inl (fun _ => 0))), (a13, .inl (z.2 0, 20, .inl (fun _ => 0))), (a2, .inl (z.2 1, 1, .inr (.inl (fun _ => 0)))), (a54, .inr (17, [.int 0, .ref a58, .ref a59, .int 0, .ref a60, .ref a61, .ref a62, .ref (u1.1 0), .null, .int 0, .ref a63, .ref a64, .ref a65, .int 0, .ref a66, .int 1])), (a58, .inl (z.2 0, 8, .inl (fun _ => 0))), (a60, .inl (z.2 0, 8, .inl (fun _ => 0))), (a61, .inl (z.2 0, 8, .inl (fun _ => 0))), (a62, .inl (z.2 0, 8, .inl (fun _ => 0))), (a63, .inl (z.2 0, 16, .inl (fun _ => 0))), (a64, .inl (z.2 0, 16, .inl (fun _ => 0))), (a65, .inl (z.2 0, 16, .inl (fun _ => 0))), (a66, .inl (z.2 0, 12, .inl (fun _ => 0))), (a55, .inl (z.2 6, 20, .inr (.inr (.inr (.inr (va_up (fun _ => none) 0 (some (u1.1 1)))))))), (a1, .inr (18, [.ref a54, .ref a55, .int 1, .ref a56, .int 0, .ref a57, .int 0, .null, .int 0, .null, .long 0, .int 0, .null]))] := hD
  refine W.eq (g2 := F0 m 1034 ls [.int 0]) rfl ?_
  refine lv_iload hx hb d_law_1034 (lv_at hl 1 rfl) ?_
  refine lv_icmp_eq (tgt := 1041) hx hb d_law_1036 (by decide) (fun _ => ?_) (fun c9 => absurd (by decide +kernel) c9)
  refine lv_iload hx hb d_law_1041 (lv_at hl 1 rfl) ?_
  refine lv_if_ne (tgt := 1058) hx hb d_law_1043 (by decide) (fun c9 => absurd (by decide +kernel) c9) (fun _ => ?_)
  refine lv_aload_n hx hb d_law_1046 rfl (lv_at hl 5 rfl) ?_
  refine lv_iconst (v := 0) hx hb d_law_1047 (by decide +kernel) ?_
  refine va_lald hx hb hG.1 hP 16 1 rfl rfl (vin rfl) d_law_1048 ?_
  refine nrmL (x1 := 0) rfl ?_
  refine lv_iload hx hb d_law_1049 (lv_at hl 0 rfl) ?_
  refine lv_i2l (v := 0) hx hb d_law_1051 (by decide +kernel) ?_
  refine W.lcmp hx hb d_law_1052 ?_
  refine nrm (x1 := 0) (by decide +kernel) ?_
  refine lv_if_eq (tgt := 1058) hx hb d_law_1053 (by decide) (fun _ => ?_) (fun c9 => absurd (by decide +kernel) c9)
  refine lv_goto (tgt := 3072) hx hb d_law_1058 (by decide) ?_
  refine W.widen (k := 600002) (n := 7302232) (Nat.le_of_ble_eq_true rfl) (Nat.le_of_ble_eq_true rfl) ?_
  exact ht H locs ls hS (lv_sub hl [2, 7] rfl)
set_option maxRecDepth 100000 in
set_option maxHeartbeats 4000000 in
theorem L12_0 (l : Launch) (hl0 : l.stackTraces = false) (z : Zz) {p : Program} {e : Env} {s : State} {m : MethodId} {below : List Frame} {meth : Method} {c : Code} {A : Nat → Prop} {b : Nat} {xs : Nat → Int32} {Q : State → Prop} (hx : p.tables.exec = Jvm.exec) (hb : c.code = code) (hml : c.maxLocals = 9) (hts : ∀ w ∈ WG, w.before #[Value.ref b] s = true) (hown : s.vm.findClass "BallothallLaw" = some m.cls) (hA : ∀ q, s.heap.size ≤ q → A q) (hG : KG z s) (hZ : XZ A s) (hX : va_X b 4 xs s s.heap) (hbl : b < s.heap.size) (hbA : ¬ A b) (ht : ∀ (H : Heap) (locs : List Loc) (ls : Array Slot), va_S A s.heap H locs → lv_has ls 9 [(0, .ref b), (5, .int 0)] → W p l e room_1 s m #[Value.ref b] below meth c H locs 600002 7302232 Q (F0 m 3072 ls [])) (a0 : Nat) (a1 : Nat) (a2 : Nat) (a3 : Nat) (a4 : Nat) (a5 : Nat) (a6 : Nat) (a7 : Nat) (a8 : Nat) (a9 : Nat) (a10 : Nat) (a11 : Nat) (a12 : Nat) (a13 : Nat) (a14 : Nat) (a15 : Nat) (a16 : Nat) (a17 : Nat) (a18 : Nat) (a19 : Nat) (a20 : Nat) (a21 : Nat) (a22 : Nat) (a23 : Nat) (a24 : Nat) (a25 : Nat) (a26 : Nat) (a27 : Nat) (a28 : Nat) (a29 : Nat) (a30 : Nat) (a31 : Nat) (a32 : Nat) (a33 : Nat) (a34 : Nat) (a35 : Nat) (h0 : (xs 1) < 0) (H : Heap) (locs : List Loc) (ls : Array Slot) (hP : va_P z.1 classes [(a0, .inr (11, [.ref a4, .ref a5, .ref a6, .ref a7, .ref a8, .ref a9, .ref a10, .ref a11, .ref a12, .ref a13, .int 0, .int 0, .ref a14, .int 0])), (a7, .inr (7, [.int 0, .ref a15, .ref a16, .ref a17, .ref a18, .ref a19, .int 0, .ref a20, .ref a21, .ref a22, .int 0])), (a1, .inr (18, [.ref a23, .ref a24, .int 0, .ref a25, .int 0, .ref a26, .int 0, .null, .int 0, .null, .long 0, .int 0, .null])), (a23, .inr (17, [.int 0, .ref a27, .ref a28, .int 0, .ref a29, .ref a30, .ref a31, .null, .null, .int 0, .ref a32, .ref a33, .ref a34, .int 0, .ref a35, .int 1]))] H) (hD : va_D A [(a0, .inr (11, [.ref a4, .ref a5, .ref a6, .ref a7, .ref a8, .ref a9, .ref a10, .ref a11, .ref a12, .ref a13, .int 0, .int 0, .ref a14, .int 0])), (a7, .inr (7, [.int 0, .ref a15, .ref a16, .ref a17, .ref a18, .ref a19, .int 0, .ref a20, .ref a21, .ref a22, .int 0])), (a1, .inr (18, [.ref a23, .ref a24, .int 0, .ref a25, .int 0, .ref a26, .int 0, .null, .int 0, .null, .long 0, .int 0, .null])), (a23, .inr (17, [.int 0, .ref a27, .ref a28, .int 0, .ref a29, .ref a30, .ref a31, .null, .null, .int 0, .ref a32, .ref a33, .ref a34, .int 0, .ref a35, .int 1]))]) (hS : va_S A s.heap H locs) (hl : lv_has ls 9 [(0, .ref b), (1, .ref a0), (2, .ref a1), (3, .ref a2), (4, .ref a3), (5, .int 0)]) : W p l e room_1 s m #[Value.ref b] below meth c H locs 265 8866 Q (F0 m 44 ls [.int 12]) := by
  refine lv_tableIn (tgt := 1061) hx hb d_law_44 (by decide +kernel) (by decide +kernel) rfl (by decide) ?_
  refine lv_aload_n hx hb d_law_1061 rfl (lv_at hl 1 rfl) ?_
  refine lv_aload_n hx hb d_law_1062 rfl (lv_at hl 0 rfl) ?_
  refine lv_iload hx hb d_law_1063 (lv_at hl 5 rfl) ?_
  refine lv_iconst (v := 1) hx hb d_law_1065 (by decide +kernel) ?_
  refine lv_iadd hx hb d_law_1066 ?_
  refine nrm (x1 := 1) (by decide +kernel) ?_
  refine va_sld hx hb hX hbl hbA hS (hin4 (i := 1) rfl) d_law_1067 ?_
  refine nrm (x1 := xs 1) rfl ?_
  refine lv_aload_n hx hb d_law_1068 rfl (lv_at hl 3 rfl) ?_
  refine kH (As := [.ref a0, .int (xs 1), .ref a2]) (rest := []) (wr := [(a1, .inr (18, [.ref a23, .ref a24, .int 0, .ref a25, .int 0, .ref a26, .int 0, .null, .int 0, .null, .long 0, .int 0, .null])), (a23, .inr (17, [.int 0, .ref a27, .ref a28, .int 0, .ref a29, .ref a30, .ref a31, .null, .null, .int 0, .ref a32, .ref a33, .ref a34, .int 0, .ref a35, .int 1]))]) (c190_BLaw_seatsOf l z hl0 a0 a2 a4 a5 a6 a7 a8 a9 a10 a11 a12 a13 a14 a15 a16 a17 a18 a19 a20 a21 a22 (xs 1) h0) hx hb hml hown hts w_1067 w_1065 w_1066 w_0 md_866766 ⟨Nat.le_of_ble_eq_true rfl, Nat.le_of_ble_eq_true rfl⟩ hG hZ hP hD hS hA [0, 1] [2, 3] rfl rfl rfl rfl rfl hl.1 rfl (Nat.le_of_ble_eq_true rfl) d_law_1069 ⟨Nat.le_of_ble_eq_true rfl, Nat.le_of_ble_eq_true rfl⟩ (fun u0 H locs hP hD hS => ?_)
  have hP : va_P z.1 classes [(a1, .inr (18, [.ref a23, .ref a24, .int 0, .ref a25, .int 0, .ref a26, .int 0, .null, .int 0, .null, .long 0, .int 0, .null])), (a23, .inr (17, [.int 0, .ref a27, .ref a28, .int 0, .ref a29, .ref a30, .ref a31, .null, .null, .int 0, .ref a32, .ref a33, .ref a34, .int 0, .ref a35, .int 1]))] H := hP
  have hD : va_D A [(a1, .inr (18, [.ref a23, .ref a24, .int 0, .ref a25, .int 0, .ref a26, .int 0, .null, .int 0, .null, .long 0, .int 0, .null])), (a23, .inr (17, [.int 0, .ref a27, .ref a28, .int 0, .ref a29, .ref a30, .ref a31, .null, .null, .int 0, .ref a32, .ref a33, .ref a34, .int 0, .ref a35, .int 1]))] := hD
  refine W.eq (g2 := F0 m 1072 ls [.int 1]) rfl ?_
  refine lv_istore (lv' := [(6, .int 1), (0, .ref b), (1, .ref a0), (2, .ref a1), (3, .ref a2), (4, .ref a3), (5, .int 0)]) hx hb d_law_1072 hl (by decide) rfl (fun ls hl => ?_)
  refine lv_aload_n hx hb d_law_1074 rfl (lv_at hl 3 rfl) ?_
  refine lv_aload_n hx hb d_law_1075 rfl (lv_at hl 1 rfl) ?_
  refine lv_iload hx hb d_law_1076 (lv_at hl 6 rfl) ?_
  refine lv_iconst (v := 1) hx hb d_law_1078 (by decide +kernel) ?_
  refine lv_iadd hx hb d_law_1079 ?_
  refine nrm (x1 := 1) (by decide +kernel) ?_
  refine va_sld hx hb hX hbl hbA hS (hin4 (i := 1) rfl) d_law_1080 ?_
  refine nrm (x1 := xs 1) rfl ?_
  refine kV (As := [.int (xs 1)]) (rest := []) (wr := []) (c191_BModel_seatsOf l z a1 a23 a24 a25 a26 a27 a28 a29 a30 a31 a32 a33 a34 a35 (xs 1) h0) hx hb hml hown hts w_1919 w_1916 w_1917 w_1918 w_12 md_376b89 ⟨Nat.le_of_ble_eq_true rfl, Nat.le_of_ble_eq_true rfl⟩ hG hZ hP hD hS hA 0 rfl rfl rfl [0, 1] [] rfl rfl rfl rfl rfl hl.1 rfl (Nat.le_of_ble_eq_true rfl) d_law_1081 ⟨Nat.le_of_ble_eq_true rfl, Nat.le_of_ble_eq_true rfl⟩ (fun u1 H locs hP hD hS => ?_)
  have hP : va_P z.1 classes [(a1, .inr (18, [.ref a23, .ref a24, .int 0, .ref a25, .int 0, .ref a26, .int 1, .null, .int 0, .null, .long 0, .int 0, .null])), (a23, .inr (17, [.int 0, .ref a27, .ref a28, .int 0, .ref a29, .ref a30, .ref a31, .null, .null, .int 0, .ref a32, .ref a33, .ref a34, .int 0, .ref a35, .int 1]))] H := hP
  have hD : va_D A [(a1, .inr (18, [.ref a23, .ref a24, .int 0, .ref a25, .int 0, .ref a26, .int 1, .null, .int 0, .null, .long 0, .int 0, .null])), (a23, .inr (17, [.int 0, .ref a27, .ref a28, .int 0, .ref a29, .ref a30, .ref a31, .null, .null, .int 0, .ref a32, .ref a33, .ref a34, .int 0, .ref a35, .int 1]))] := hD
  refine W.eq (g2 := F0 m 1084 ls [.int 0]) rfl ?_
  refine lv_istore (lv' := [(7, .int 0), (6, .int 1), (0, .ref b), (1, .ref a0), (2, .ref a1), (3, .ref a2), (4, .ref a3), (5, .int 0)]) hx hb d_law_1084 hl (by decide) rfl (fun ls hl => ?_)
  refine lv_aload_n hx hb d_law_1086 rfl (lv_at hl 4 rfl) ?_
  refine kV (As := []) (rest := []) (wr := [(a23, .inr (17, [.int 0, .ref a27, .ref a28, .int 0, .ref a29, .ref a30, .ref a31, .null, .null, .int 0, .ref a32, .ref a33, .ref a34, .int 0, .ref a35, .int 1]))]) (c33_BModel_thrown l z a1 a23 a24 a25 a26) hx hb hml hown hts w_1688 w_1685 w_1686 w_1687 w_12 md_c48e0f ⟨Nat.le_of_ble_eq_true rfl, Nat.le_of_ble_eq_true rfl⟩ hG hZ hP hD hS hA 0 rfl rfl rfl [0] [1] rfl rfl rfl rfl rfl hl.1 rfl (Nat.le_of_ble_eq_true rfl) d_law_1087 ⟨Nat.le_of_ble_eq_true rfl, Nat.le_of_ble_eq_true rfl⟩ (fun u2 H locs hP hD hS => ?_)
  have hP : va_P z.1 classes [(a23, .inr (17, [.int 0, .ref a27, .ref a28, .int 0, .ref a29, .ref a30, .ref a31, .null, .null, .int 0, .ref a32, .ref a33, .ref a34, .int 0, .ref a35, .int 1])), (a1, .inr (18, [.ref a23, .ref a24, .int 0, .ref a25, .int 0, .ref a26, .int 1, .null, .int 0, .null, .long 0, .int 0, .null]))] H := hP
  have hD : va_D A [(a23, .inr (17, [.int 0, .ref a27, .ref a28, .int 0, .ref a29, .ref a30, .ref a31, .null, .null, .int 0, .ref a32, .ref a33, .ref a34, .int 0, .ref a35, .int 1])), (a1, .inr (18, [.ref a23, .ref a24, .int 0, .ref a25, .int 0, .ref a26, .int 1, .null, .int 0, .null, .long 0, .int 0, .null]))] := hD
  refine W.eq (g2 := F0 m 1090 ls [.int 1]) rfl ?_
  refine lv_iload hx hb d_law_1090 (lv_at hl 1 rfl) ?_
  refine lv_icmp_eq (tgt := 1097) hx hb d_law_1092 (by decide) (fun _ => ?_) (fun c9 => absurd (by decide +kernel) c9)
  refine lv_iload hx hb d_law_1097 (lv_at hl 1 rfl) ?_
  refine lv_if_ne (tgt := 1114) hx hb d_law_1099 (by decide) (fun _ => ?_) (fun c9 => absurd c9 (by decide +kernel))
  refine lv_goto (tgt := 3072) hx hb d_law_1114 (by decide) ?_
  refine W.widen (k := 600002) (n := 7302232) (Nat.le_of_ble_eq_true rfl) (Nat.le_of_ble_eq_true rfl) ?_
  exact ht H locs ls hS (lv_sub hl [2, 7] rfl)
set_option maxRecDepth 100000 in
set_option maxHeartbeats 4000000 in
theorem L12_1 (l : Launch) (hl0 : l.stackTraces = false) (z : Zz) {p : Program} {e : Env} {s : State} {m : MethodId} {below : List Frame} {meth : Method} {c : Code} {A : Nat → Prop} {b : Nat} {xs : Nat → Int32} {Q : State → Prop} (hx : p.tables.exec = Jvm.exec) (hb : c.code = code) (hml : c.maxLocals = 9) (hts : ∀ w ∈ WG, w.before #[Value.ref b] s = true) (hown : s.vm.findClass "BallothallLaw" = some m.cls) (hA : ∀ q, s.heap.size ≤ q → A q) (hG : KG z s) (hZ : XZ A s) (hX : va_X b 4 xs s s.heap) (hbl : b < s.heap.size) (hbA : ¬ A b) (ht : ∀ (H : Heap) (locs : List Loc) (ls : Array Slot), va_S A s.heap H locs → lv_has ls 9 [(0, .ref b), (5, .int 0)] → W p l e room_1 s m #[Value.ref b] below meth c H locs 600002 7302232 Q (F0 m 3072 ls [])) (a0 : Nat) (a1 : Nat) (a2 : Nat) (a3 : Nat) (a4 : Nat) (a5 : Nat) (a6 : Nat) (a7 : Nat) (a8 : Nat) (a9 : Nat) (a10 : Nat) (a11 : Nat) (a12 : Nat) (a13 : Nat) (a14 : Nat) (a15 : Nat) (a16 : Nat) (a17 : Nat) (a18 : Nat) (a19 : Nat) (a20 : Nat) (a21 : Nat) (a22 : Nat) (a23 : Nat) (a24 : Nat) (a25 : Nat) (a26 : Nat) (a27 : Nat) (a28 : Nat) (a29 : Nat) (a30 : Nat) (a31 : Nat) (a32 : Nat) (a33 : Nat) (a34 : Nat) (a35 : Nat) (h0 : ¬ (xs 1) < 0) (h1 : (-1) < (xs 1)) (H : Heap) (locs : List Loc) (ls : Array Slot) (hP : va_P z.1 classes [(a0, .inr (11, [.ref a4, .ref a5, .ref a6, .ref a7, .ref a8, .ref a9, .ref a10, .ref a11, .ref a12, .ref a13, .int 0, .int 0, .ref a14, .int 0])), (a7, .inr (7, [.int 0, .ref a15, .ref a16, .ref a17, .ref a18, .ref a19, .int 0, .ref a20, .ref a21, .ref a22, .int 0])), (a1, .inr (18, [.ref a23, .ref a24, .int 0, .ref a25, .int 0, .ref a26, .int 0, .null, .int 0, .null, .long 0, .int 0, .null])), (a23, .inr (17, [.int 0, .ref a27, .ref a28, .int 0, .ref a29, .ref a30, .ref a31, .null, .null, .int 0, .ref a32, .ref a33, .ref a34, .int 0, .ref a35, .int 1]))] H) (hD : va_D A [(a0, .inr (11, [.ref a4, .ref a5, .ref a6, .ref a7, .ref a8, .ref a9, .ref a10, .ref a11, .ref a12, .ref a13, .int 0, .int 0, .ref a14, .int 0])), (a7, .inr (7, [.int 0, .ref a15, .ref a16, .ref a17, .ref a18, .ref a19, .int 0, .ref a20, .ref a21, .ref a22, .int 0])), (a1, .inr (18, [.ref a23, .ref a24, .int 0, .ref a25, .int 0, .ref a26, .int 0, .null, .int 0, .null, .long 0, .int 0, .null])), (a23, .inr (17, [.int 0, .ref a27, .ref a28, .int 0, .ref a29, .ref a30, .ref a31, .null, .null, .int 0, .ref a32, .ref a33, .ref a34, .int 0, .ref a35, .int 1]))]) (hS : va_S A s.heap H locs) (hl : lv_has ls 9 [(0, .ref b), (1, .ref a0), (2, .ref a1), (3, .ref a2), (4, .ref a3), (5, .int 0)]) : W p l e room_1 s m #[Value.ref b] below meth c H locs 265 8866 Q (F0 m 44 ls [.int 12]) := by
  refine lv_tableIn (tgt := 1061) hx hb d_law_44 (by decide +kernel) (by decide +kernel) rfl (by decide) ?_
  refine lv_aload_n hx hb d_law_1061 rfl (lv_at hl 1 rfl) ?_
  refine lv_aload_n hx hb d_law_1062 rfl (lv_at hl 0 rfl) ?_
  refine lv_iload hx hb d_law_1063 (lv_at hl 5 rfl) ?_
  refine lv_iconst (v := 1) hx hb d_law_1065 (by decide +kernel) ?_
  refine lv_iadd hx hb d_law_1066 ?_
  refine nrm (x1 := 1) (by decide +kernel) ?_
  refine va_sld hx hb hX hbl hbA hS (hin4 (i := 1) rfl) d_law_1067 ?_
  refine nrm (x1 := xs 1) rfl ?_
  refine lv_aload_n hx hb d_law_1068 rfl (lv_at hl 3 rfl) ?_
  refine kH (As := [.ref a0, .int (xs 1), .ref a2]) (rest := []) (wr := [(a1, .inr (18, [.ref a23, .ref a24, .int 0, .ref a25, .int 0, .ref a26, .int 0, .null, .int 0, .null, .long 0, .int 0, .null])), (a23, .inr (17, [.int 0, .ref a27, .ref a28, .int 0, .ref a29, .ref a30, .ref a31, .null, .null, .int 0, .ref a32, .ref a33, .ref a34, .int 0, .ref a35, .int 1]))]) (c193_BLaw_seatsOf l z hl0 a0 a2 a4 a5 a6 a7 a8 a9 a10 a11 a12 a13 a14 a15 a16 a17 a18 a19 a20 a21 a22 (xs 1) h0) hx hb hml hown hts w_1067 w_1065 w_1066 w_0 md_866766 ⟨Nat.le_of_ble_eq_true rfl, Nat.le_of_ble_eq_true rfl⟩ hG hZ hP hD hS hA [0, 1] [2, 3] rfl rfl rfl rfl rfl hl.1 rfl (Nat.le_of_ble_eq_true rfl) d_law_1069 ⟨Nat.le_of_ble_eq_true rfl, Nat.le_of_ble_eq_true rfl⟩ (fun u0 H locs hP hD hS => ?_)
  have hP : va_P z.1 classes [(a1, .inr (18, [.ref a23, .ref a24, .int 0, .ref a25, .int 0, .ref a26, .int 0, .null, .int 0, .null, .long 0, .int 0, .null])), (a23, .inr (17, [.int 0, .ref a27, .ref a28, .int 0, .ref a29, .ref a30, .ref a31, .null, .null, .int 0, .ref a32, .ref a33, .ref a34, .int 0, .ref a35, .int 1]))] H := hP
  have hD : va_D A [(a1, .inr (18, [.ref a23, .ref a24, .int 0, .ref a25, .int 0, .ref a26, .int 0, .null, .int 0, .null, .long 0, .int 0, .null])), (a23, .inr (17, [.int 0, .ref a27, .ref a28, .int 0, .ref a29, .ref a30, .ref a31, .null, .null, .int 0, .ref a32, .ref a33, .ref a34, .int 0, .ref a35, .int 1]))] := hD
  refine W.eq (g2 := F0 m 1072 ls [.int 1]) rfl ?_
  refine lv_istore (lv' := [(6, .int 1), (0, .ref b), (1, .ref a0), (2, .ref a1), (3, .ref a2), (4, .ref a3), (5, .int 0)]) hx hb d_law_1072 hl (by decide) rfl (fun ls hl => ?_)
  refine lv_aload_n hx hb d_law_1074 rfl (lv_at hl 3 rfl) ?_
  refine lv_aload_n hx hb d_law_1075 rfl (lv_at hl 1 rfl) ?_
  refine lv_iload hx hb d_law_1076 (lv_at hl 6 rfl) ?_
  refine lv_iconst (v := 1) hx hb d_law_1078 (by decide +kernel) ?_
  refine lv_iadd hx hb d_law_1079 ?_
  refine nrm (x1 := 1) (by decide +kernel) ?_
  refine va_sld hx hb hX hbl hbA hS (hin4 (i := 1) rfl) d_law_1080 ?_
  refine nrm (x1 := xs 1) rfl ?_
  refine kV (As := [.int (xs 1)]) (rest := []) (wr := []) (c194_BModel_seatsOf l z a1 a23 a24 a25 a26 a27 a28 a29 a30 a31 a32 a33 a34 a35 (xs 1) h0 h1) hx hb hml hown hts w_1919 w_1916 w_1917 w_1918 w_12 md_376b89 ⟨Nat.le_of_ble_eq_true rfl, Nat.le_of_ble_eq_true rfl⟩ hG hZ hP hD hS hA 0 rfl rfl rfl [0, 1] [] rfl rfl rfl rfl rfl hl.1 rfl (Nat.le_of_ble_eq_true rfl) d_law_1081 ⟨Nat.le_of_ble_eq_true rfl, Nat.le_of_ble_eq_true rfl⟩ (fun u1 H locs hP hD hS => ?_)
  have hP : va_P z.1 classes [(a1, .inr (18, [.ref a23, .ref a24, .int 0, .ref a25, .int 0, .ref a26, .int 1, .null, .int 0, .null, .long 0, .int 0, .null])), (a23, .inr (17, [.int 0, .ref a27, .ref a28, .int 0, .ref a29, .ref a30, .ref a31, .null, .null, .int 0, .ref a32, .ref a33, .ref a34, .int 0, .ref a35, .int 1]))] H := hP
  have hD : va_D A [(a1, .inr (18, [.ref a23, .ref a24, .int 0, .ref a25, .int 0, .ref a26, .int 1, .null, .int 0, .null, .long 0, .int 0, .null])), (a23, .inr (17, [.int 0, .ref a27, .ref a28, .int 0, .ref a29, .ref a30, .ref a31, .null, .null, .int 0, .ref a32, .ref a33, .ref a34, .int 0, .ref a35, .int 1]))] := hD
  refine W.eq (g2 := F0 m 1084 ls [.int 0]) rfl ?_
  refine lv_istore (lv' := [(7, .int 0), (6, .int 1), (0, .ref b), (1, .ref a0), (2, .ref a1), (3, .ref a2), (4, .ref a3), (5, .int 0)]) hx hb d_law_1084 hl (by decide) rfl (fun ls hl => ?_)
  refine lv_aload_n hx hb d_law_1086 rfl (lv_at hl 4 rfl) ?_
  refine kV (As := []) (rest := []) (wr := [(a23, .inr (17, [.int 0, .ref a27, .ref a28, .int 0, .ref a29, .ref a30, .ref a31, .null, .null, .int 0, .ref a32, .ref a33, .ref a34, .int 0, .ref a35, .int 1]))]) (c33_BModel_thrown l z a1 a23 a24 a25 a26) hx hb hml hown hts w_1688 w_1685 w_1686 w_1687 w_12 md_c48e0f ⟨Nat.le_of_ble_eq_true rfl, Nat.le_of_ble_eq_true rfl⟩ hG hZ hP hD hS hA 0 rfl rfl rfl [0] [1] rfl rfl rfl rfl rfl hl.1 rfl (Nat.le_of_ble_eq_true rfl) d_law_1087 ⟨Nat.le_of_ble_eq_true rfl, Nat.le_of_ble_eq_true rfl⟩ (fun u2 H locs hP hD hS => ?_)
  have hP : va_P z.1 classes [(a23, .inr (17, [.int 0, .ref a27, .ref a28, .int 0, .ref a29, .ref a30, .ref a31, .null, .null, .int 0, .ref a32, .ref a33, .ref a34, .int 0, .ref a35, .int 1])), (a1, .inr (18, [.ref a23, .ref a24, .int 0, .ref a25, .int 0, .ref a26, .int 1, .null, .int 0, .null, .long 0, .int 0, .null]))] H := hP
  have hD : va_D A [(a23, .inr (17, [.int 0, .ref a27, .ref a28, .int 0, .ref a29, .ref a30, .ref a31, .null, .null, .int 0, .ref a32, .ref a33, .ref a34, .int 0, .ref a35, .int 1])), (a1, .inr (18, [.ref a23, .ref a24, .int 0, .ref a25, .int 0, .ref a26, .int 1, .null, .int 0, .null, .long 0, .int 0, .null]))] := hD
  refine W.eq (g2 := F0 m 1090 ls [.int 1]) rfl ?_
  refine lv_iload hx hb d_law_1090 (lv_at hl 1 rfl) ?_
  refine lv_icmp_eq (tgt := 1097) hx hb d_law_1092 (by decide) (fun _ => ?_) (fun c9 => absurd (by decide +kernel) c9)
  refine lv_iload hx hb d_law_1097 (lv_at hl 1 rfl) ?_
  refine lv_if_ne (tgt := 1114) hx hb d_law_1099 (by decide) (fun _ => ?_) (fun c9 => absurd c9 (by decide +kernel))
  refine lv_goto (tgt := 3072) hx hb d_law_1114 (by decide) ?_
  refine W.widen (k := 600002) (n := 7302232) (Nat.le_of_ble_eq_true rfl) (Nat.le_of_ble_eq_true rfl) ?_
  exact ht H locs ls hS (lv_sub hl [2, 7] rfl)
set_option maxRecDepth 100000 in
set_option maxHeartbeats 4000000 in
theorem L13_0 (l : Launch) (hl0 : l.stackTraces = false) (z : Zz) {p : Program} {e : Env} {s : State} {m : MethodId} {below : List Frame} {meth : Method} {c : Code} {A : Nat → Prop} {b : Nat} {xs : Nat → Int32} {Q : State → Prop} (hx : p.tables.exec = Jvm.exec) (hb : c.code = code) (hml : c.maxLocals = 9) (hts : ∀ w ∈ WG, w.before #[Value.ref b] s = true) (hown : s.vm.findClass "BallothallLaw" = some m.cls) (hA : ∀ q, s.heap.size ≤ q → A q) (hG : KG z s) (hZ : XZ A s) (hX : va_X b 4 xs s s.heap) (hbl : b < s.heap.size) (hbA : ¬ A b) (ht : ∀ (H : Heap) (locs : List Loc) (ls : Array Slot), va_S A s.heap H locs → lv_has ls 9 [(0, .ref b), (5, .int 0)] → W p l e room_1 s m #[Value.ref b] below meth c H locs 600002 7302232 Q (F0 m 3072 ls [])) (a0 : Nat) (a1 : Nat) (a2 : Nat) (a3 : Nat) (a4 : Nat) (a5 : Nat) (a6 : Nat) (a7 : Nat) (a8 : Nat) (a9 : Nat) (a10 : Nat) (a11 : Nat) (a12 : Nat) (a13 : Nat) (a14 : Nat) (a15 : Nat) (a16 : Nat) (a17 : Nat) (a18 : Nat) (a19 : Nat) (a20 : Nat) (a21 : Nat) (a22 : Nat) (a23 : Nat) (a24 : Nat) (a25 : Nat) (a26 : Nat) (a27 : Nat) (a28 : Nat) (a29 : Nat) (a30 : Nat) (a31 : Nat) (a32 : Nat) (a33 : Nat) (a34 : Nat) (a35 : Nat) (a36 : Nat) (a37 : Nat) (a38 : Nat) (a39 : Nat) (a40 : Nat) (a41 : Nat) (a42 : Nat) (a43 : Nat) (a44 : Nat) (a45 : Nat) (a46 : Nat) (a47 : Nat) (a48 : Nat) (a49 : Nat) (a50 : Nat) (a51 : Nat) (a52 : Nat) (a53 : Nat) (a54 : Nat) (a55 : Nat) (a56 : Nat) (a57 : Nat) (a58 : Nat) (a59 : Nat) (a60 : Nat) (h0 : (xs 1) < 0) (H : Heap) (locs : List Loc) (ls : Array Slot) (hP : va_P z.1 classes [(a0, .inr (11, [.ref a4, .ref a5, .ref a6, .ref a7, .ref a8, .ref a9, .ref a10, .ref a11, .ref a12, .ref a13, .int 0, .int 0, .ref a14, .int 0])), (a7, .inr (7, [.int 0, .ref a15, .ref a16, .ref a17, .ref a18, .ref a19, .int 0, .ref a20, .ref a21, .ref a22, .int 0])), (a22, .inl (z.2 3, 21, .inr (.inr (.inr (.inr (va_up (va_up (va_up (va_up (va_up (va_up (va_up (va_up (va_up (va_up (va_up (va_up (va_up (va_up (va_up (va_up (va_up (va_up (va_up (va_up (va_up (fun _ => none) 0 (some a23)) 1 (some a24)) 2 (some a25)) 3 (some a26)) 4 (some a27)) 5 (some a28)) 6 (some a29)) 7 (some a30)) 8 (some a31)) 9 (some a32)) 10 (some a33)) 11 (some a34)) 12 (some a35)) 13 (some a36)) 14 (some a37)) 15 (some a38)) 16 (some a39)) 17 (some a40)) 18 (some a41)) 19 (some a42)) 20 (some a43))))))), (a23, .inr (6, [.int 0, .int 0, .int 0, .ref a44, .ref a45, .ref a46, .ref a47])), (a1, .inr (18, [.ref a48, .ref a49, .int 0, .ref a50, .int 0, .ref a51, .int 0, .null, .int 0, .null, .long 0, .int 0, .null])), (a48, .inr (17, [.int 0, .ref a52, .ref a53, .int 0, .ref a54, .ref a55, .ref a56, .null, .null, .int 0, .ref a57, .ref a58, .ref a59, .int 0, .ref a60, .int 1]))] H) (hD : va_D A [(a0, .inr (11, [.ref a4, .ref a5, .ref a6, .ref a7, .ref a8, .ref a9, .ref a10, .ref a11, .ref a12, .ref a13, .int 0, .int 0, .ref a14, .int 0])), (a7, .inr (7, [.int 0, .ref a15, .ref a16, .ref a17, .ref a18, .ref a19, .int 0, .ref a20, .ref a21, .ref a22, .int 0])), (a22, .inl (z.2 3, 21, .inr (.inr (.inr (.inr (va_up (va_up (va_up (va_up (va_up (va_up (va_up (va_up (va_up (va_up (va_up (va_up (va_up (va_up (va_up (va_up (va_up (va_up (va_up (va_up (va_up (fun _ => none) 0 (some a23)) 1 (some a24)) 2 (some a25)) 3 (some a26)) 4 (some a27)) 5 (some a28)) 6 (some a29)) 7 (some a30)) 8 (some a31)) 9 (some a32)) 10 (some a33)) 11 (some a34)) 12 (some a35)) 13 (some a36)) 14 (some a37)) 15 (some a38)) 16 (some a39)) 17 (some a40)) 18 (some a41)) 19 (some a42)) 20 (some a43))))))), (a23, .inr (6, [.int 0, .int 0, .int 0, .ref a44, .ref a45, .ref a46, .ref a47])), (a1, .inr (18, [.ref a48, .ref a49, .int 0, .ref a50, .int 0, .ref a51, .int 0, .null, .int 0, .null, .long 0, .int 0, .null])), (a48, .inr (17, [.int 0, .ref a52, .ref a53, .int 0, .ref a54, .ref a55, .ref a56, .null, .null, .int 0, .ref a57, .ref a58, .ref a59, .int 0, .ref a60, .int 1]))]) (hS : va_S A s.heap H locs) (hl : lv_has ls 9 [(0, .ref b), (1, .ref a0), (2, .ref a1), (3, .ref a2), (4, .ref a3), (5, .int 0)]) : W p l e room_1 s m #[Value.ref b] below meth c H locs 265 8866 Q (F0 m 44 ls [.int 13]) := by
  refine lv_tableIn (tgt := 1117) hx hb d_law_44 (by decide +kernel) (by decide +kernel) rfl (by decide) ?_
  refine lv_aload_n hx hb d_law_1117 rfl (lv_at hl 1 rfl) ?_
  refine lv_aload_n hx hb d_law_1118 rfl (lv_at hl 0 rfl) ?_
  refine lv_iload hx hb d_law_1119 (lv_at hl 5 rfl) ?_
  refine lv_iconst (v := 1) hx hb d_law_1121 (by decide +kernel) ?_
  refine lv_iadd hx hb d_law_1122 ?_
  refine nrm (x1 := 1) (by decide +kernel) ?_
  refine va_sld hx hb hX hbl hbA hS (hin4 (i := 1) rfl) d_law_1123 ?_
  refine nrm (x1 := xs 1) rfl ?_
  refine lv_aload_n hx hb d_law_1124 rfl (lv_at hl 3 rfl) ?_
  refine kH (As := [.ref a0, .int (xs 1), .ref a2]) (rest := []) (wr := [(a1, .inr (18, [.ref a48, .ref a49, .int 0, .ref a50, .int 0, .ref a51, .int 0, .null, .int 0, .null, .long 0, .int 0, .null])), (a48, .inr (17, [.int 0, .ref a52, .ref a53, .int 0, .ref a54, .ref a55, .ref a56, .null, .null, .int 0, .ref a57, .ref a58, .ref a59, .int 0, .ref a60, .int 1]))]) (c198_BLaw_seatAt l z hl0 a0 a2 a4 a5 a6 a7 a8 a9 a10 a11 a12 a13 a14 a15 a16 a17 a18 a19 a20 a21 a22 a23 a24 a25 a26 a27 a28 a29 a30 a31 a32 a33 a34 a35 a36 a37 a38 a39 a40 a41 a42 a43 a44 a45 a46 a47 (xs 1) h0) hx hb hml hown hts w_1074 w_1072 w_1073 w_0 md_9c3144 ⟨Nat.le_of_ble_eq_true rfl, Nat.le_of_ble_eq_true rfl⟩ hG hZ hP hD hS hA [0, 1, 2, 3] [4, 5] rfl rfl rfl rfl rfl hl.1 rfl (Nat.le_of_ble_eq_true rfl) d_law_1125 ⟨Nat.le_of_ble_eq_true rfl, Nat.le_of_ble_eq_true rfl⟩ (fun u0 H locs hP hD hS => ?_)
  have hP : va_P z.1 classes [(a1, .inr (18, [.ref a48, .ref a49, .int 0, .ref a50, .int 0, .ref a51, .int 0, .null, .int 0, .null, .long 0, .int 0, .null])), (a48, .inr (17, [.int 0, .ref a52, .ref a53, .int 0, .ref a54, .ref a55, .ref a56, .null, .null, .int 0, .ref a57, .ref a58, .ref a59, .int 0, .ref a60, .int 1]))] H := hP
  have hD : va_D A [(a1, .inr (18, [.ref a48, .ref a49, .int 0, .ref a50, .int 0, .ref a51, .int 0, .null, .int 0, .null, .long 0, .int 0, .null])), (a48, .inr (17, [.int 0, .ref a52, .ref a53, .int 0, .ref a54, .ref a55, .ref a56, .null, .null, .int 0, .ref a57, .ref a58, .ref a59, .int 0, .ref a60, .int 1]))] := hD
  refine W.eq (g2 := F0 m 1128 ls [.int 1]) rfl ?_
  refine lv_istore (lv' := [(6, .int 1), (0, .ref b), (1, .ref a0), (2, .ref a1), (3, .ref a2), (4, .ref a3), (5, .int 0)]) hx hb d_law_1128 hl (by decide) rfl (fun ls hl => ?_)
  refine lv_aload_n hx hb d_law_1130 rfl (lv_at hl 3 rfl) ?_
  refine lv_aload_n hx hb d_law_1131 rfl (lv_at hl 1 rfl) ?_
  refine lv_iload hx hb d_law_1132 (lv_at hl 6 rfl) ?_
  refine lv_iconst (v := 1) hx hb d_law_1134 (by decide +kernel) ?_
  refine lv_iadd hx hb d_law_1135 ?_
  refine nrm (x1 := 1) (by decide +kernel) ?_
  refine va_sld hx hb hX hbl hbA hS (hin4 (i := 1) rfl) d_law_1136 ?_
  refine nrm (x1 := xs 1) rfl ?_
  refine kV (As := [.int (xs 1)]) (rest := []) (wr := []) (c199_BModel_seatAt l z a1 a48 a49 a50 a51 a52 a53 a54 a55 a56 a57 a58 a59 a60 (xs 1)) hx hb hml hown hts w_1927 w_1924 w_1925 w_1926 w_12 md_12ccbe ⟨Nat.le_of_ble_eq_true rfl, Nat.le_of_ble_eq_true rfl⟩ hG hZ hP hD hS hA 0 rfl rfl rfl [0, 1] [] rfl rfl rfl rfl rfl hl.1 rfl (Nat.le_of_ble_eq_true rfl) d_law_1137 ⟨Nat.le_of_ble_eq_true rfl, Nat.le_of_ble_eq_true rfl⟩ (fun u1 H locs hP hD hS => ?_)
  have hP : va_P z.1 classes [(a1, .inr (18, [.ref a48, .ref a49, .int 0, .ref a50, .int 0, .ref a51, .int 1, .null, .int 0, .null, .long 0, .int 0, .null])), (a48, .inr (17, [.int 0, .ref a52, .ref a53, .int 0, .ref a54, .ref a55, .ref a56, .null, .null, .int 0, .ref a57, .ref a58, .ref a59, .int 0, .ref a60, .int 1]))] H := hP
  have hD : va_D A [(a1, .inr (18, [.ref a48, .ref a49, .int 0, .ref a50, .int 0, .ref a51, .int 1, .null, .int 0, .null, .long 0, .int 0, .null])), (a48, .inr (17, [.int 0, .ref a52, .ref a53, .int 0, .ref a54, .ref a55, .ref a56, .null, .null, .int 0, .ref a57, .ref a58, .ref a59, .int 0, .ref a60, .int 1]))] := hD
  refine W.eq (g2 := F0 m 1140 ls [.int 0]) rfl ?_
  refine lv_istore (lv' := [(7, .int 0), (6, .int 1), (0, .ref b), (1, .ref a0), (2, .ref a1), (3, .ref a2), (4, .ref a3), (5, .int 0)]) hx hb d_law_1140 hl (by decide) rfl (fun ls hl => ?_)
  refine lv_aload_n hx hb d_law_1142 rfl (lv_at hl 4 rfl) ?_
  refine kV (As := []) (rest := []) (wr := [(a48, .inr (17, [.int 0, .ref a52, .ref a53, .int 0, .ref a54, .ref a55, .ref a56, .null, .null, .int 0, .ref a57, .ref a58, .ref a59, .int 0, .ref a60, .int 1]))]) (c33_BModel_thrown l z a1 a48 a49 a50 a51) hx hb hml hown hts w_1688 w_1685 w_1686 w_1687 w_12 md_c48e0f ⟨Nat.le_of_ble_eq_true rfl, Nat.le_of_ble_eq_true rfl⟩ hG hZ hP hD hS hA 0 rfl rfl rfl [0] [1] rfl rfl rfl rfl rfl hl.1 rfl (Nat.le_of_ble_eq_true rfl) d_law_1143 ⟨Nat.le_of_ble_eq_true rfl, Nat.le_of_ble_eq_true rfl⟩ (fun u2 H locs hP hD hS => ?_)
  have hP : va_P z.1 classes [(a48, .inr (17, [.int 0, .ref a52, .ref a53, .int 0, .ref a54, .ref a55, .ref a56, .null, .null, .int 0, .ref a57, .ref a58, .ref a59, .int 0, .ref a60, .int 1])), (a1, .inr (18, [.ref a48, .ref a49, .int 0, .ref a50, .int 0, .ref a51, .int 1, .null, .int 0, .null, .long 0, .int 0, .null]))] H := hP
  have hD : va_D A [(a48, .inr (17, [.int 0, .ref a52, .ref a53, .int 0, .ref a54, .ref a55, .ref a56, .null, .null, .int 0, .ref a57, .ref a58, .ref a59, .int 0, .ref a60, .int 1])), (a1, .inr (18, [.ref a48, .ref a49, .int 0, .ref a50, .int 0, .ref a51, .int 1, .null, .int 0, .null, .long 0, .int 0, .null]))] := hD
  refine W.eq (g2 := F0 m 1146 ls [.int 1]) rfl ?_
  refine lv_iload hx hb d_law_1146 (lv_at hl 1 rfl) ?_
  refine lv_icmp_eq (tgt := 1153) hx hb d_law_1148 (by decide) (fun _ => ?_) (fun c9 => absurd (by decide +kernel) c9)
  refine lv_iload hx hb d_law_1153 (lv_at hl 1 rfl) ?_
  refine lv_if_ne (tgt := 1170) hx hb d_law_1155 (by decide) (fun _ => ?_) (fun c9 => absurd c9 (by decide +kernel))
  refine lv_goto (tgt := 3072) hx hb d_law_1170 (by decide) ?_
  refine W.widen (k := 600002) (n := 7302232) (Nat.le_of_ble_eq_true rfl) (Nat.le_of_ble_eq_true rfl) ?_
  exact ht H locs ls hS (lv_sub hl [2, 7] rfl)
set_option maxRecDepth 100000 in
set_option maxHeartbeats 4000000 in
theorem L13_1 (l : Launch) (hl0 : l.stackTraces = false) (z : Zz) {p : Program} {e : Env} {s : State} {m : MethodId} {below : List Frame} {meth : Method} {c : Code} {A : Nat → Prop} {b : Nat} {xs : Nat → Int32} {Q : State → Prop} (hx : p.tables.exec = Jvm.exec) (hb : c.code = code) (hml : c.maxLocals = 9) (hts : ∀ w ∈ WG, w.before #[Value.ref b] s = true) (hown : s.vm.findClass "BallothallLaw" = some m.cls) (hA : ∀ q, s.heap.size ≤ q → A q) (hG : KG z s) (hZ : XZ A s) (hX : va_X b 4 xs s s.heap) (hbl : b < s.heap.size) (hbA : ¬ A b) (ht : ∀ (H : Heap) (locs : List Loc) (ls : Array Slot), va_S A s.heap H locs → lv_has ls 9 [(0, .ref b), (5, .int 0)] → W p l e room_1 s m #[Value.ref b] below meth c H locs 600002 7302232 Q (F0 m 3072 ls [])) (a0 : Nat) (a1 : Nat) (a2 : Nat) (a3 : Nat) (a4 : Nat) (a5 : Nat) (a6 : Nat) (a7 : Nat) (a8 : Nat) (a9 : Nat) (a10 : Nat) (a11 : Nat) (a12 : Nat) (a13 : Nat) (a14 : Nat) (a15 : Nat) (a16 : Nat) (a17 : Nat) (a18 : Nat) (a19 : Nat) (a20 : Nat) (a21 : Nat) (a22 : Nat) (a23 : Nat) (a24 : Nat) (a25 : Nat) (a26 : Nat) (a27 : Nat) (a28 : Nat) (a29 : Nat) (a30 : Nat) (a31 : Nat) (a32 : Nat) (a33 : Nat) (a34 : Nat) (a35 : Nat) (a36 : Nat) (a37 : Nat) (a38 : Nat) (a39 : Nat) (a40 : Nat) (a41 : Nat) (a42 : Nat) (a43 : Nat) (a44 : Nat) (a45 : Nat) (a46 : Nat) (a47 : Nat) (a48 : Nat) (a49 : Nat) (a50 : Nat) (a51 : Nat) (a52 : Nat) (a53 : Nat) (a54 : Nat) (a55 : Nat) (a56 : Nat) (a57 : Nat) (a58 : Nat) (a59 : Nat) (a60 : Nat) (h0 : ¬ (xs 1) < 0) (H : Heap) (locs : List Loc) (ls : Array Slot) (hP : va_P z.1 classes [(a0, .inr (11, [.ref a4, .ref a5, .ref a6, .ref a7, .ref a8, .ref a9, .ref a10, .ref a11, .ref a12, .ref a13, .int 0, .int 0, .ref a14, .int 0])), (a7, .inr (7, [.int 0, .ref a15, .ref a16, .ref a17, .ref a18, .ref a19, .int 0, .ref a20, .ref a21, .ref a22, .int 0])), (a22, .inl (z.2 3, 21, .inr (.inr (.inr (.inr (va_up (va_up (va_up (va_up (va_up (va_up (va_up (va_up (va_up (va_up (va_up (va_up (va_up (va_up (va_up (va_up (va_up (va_up (va_up (va_up (va_up (fun _ => none) 0 (some a23)) 1 (some a24)) 2 (some a25)) 3 (some a26)) 4 (some a27)) 5 (some a28)) 6 (some a29)) 7 (some a30)) 8 (some a31)) 9 (some a32)) 10 (some a33)) 11 (some a34)) 12 (some a35)) 13 (some a36)) 14 (some a37)) 15 (some a38)) 16 (some a39)) 17 (some a40)) 18 (some a41)) 19 (some a42)) 20 (some a43))))))), (a23, .inr (6, [.int 0, .int 0, .int 0, .ref a44, .ref a45, .ref a46, .ref a47])), (a1, .inr (18, [.ref a48, .ref a49, .int 0, .ref a50, .int 0, .ref a51, .int 0, .null, .int 0, .null, .long 0, .int 0, .null])), (a48, .inr (17, [.int 0, .ref a52, .ref a53, .int 0, .ref a54, .ref a55, .ref a56, .null, .null, .int 0, .ref a57, .ref a58, .ref a59, .int 0, .ref a60, .int 1]))] H) (hD : va_D A [(a0, .inr (11, [.ref a4, .ref a5, .ref a6, .ref a7, .ref a8, .ref a9, .ref a10, .ref a11, .ref a12, .ref a13, .int 0, .int 0, .ref a14, .int 0])), (a7, .inr (7, [.int 0, .ref a15, .ref a16, .ref a17, .ref a18, .ref a19, .int 0, .ref a20, .ref a21, .ref a22, .int 0])), (a22, .inl (z.2 3, 21, .inr (.inr (.inr (.inr (va_up (va_up (va_up (va_up (va_up (va_up (va_up (va_up (va_up (va_up (va_up (va_up (va_up (va_up (va_up (va_up (va_up (va_up (va_up (va_up (va_up (fun _ => none) 0 (some a23)) 1 (some a24)) 2 (some a25)) 3 (some a26)) 4 (some a27)) 5 (some a28)) 6 (some a29)) 7 (some a30)) 8 (some a31)) 9 (some a32)) 10 (some a33)) 11 (some a34)) 12 (some a35)) 13 (some a36)) 14 (some a37)) 15 (some a38)) 16 (some a39)) 17 (some a40)) 18 (some a41)) 19 (some a42)) 20 (some a43))))))), (a23, .inr (6, [.int 0, .int 0, .int 0, .ref a44, .ref a45, .ref a46, .ref a47])), (a1, .inr (18, [.ref a48, .ref a49, .int 0, .ref a50, .int 0, .ref a51, .int 0, .null, .int 0, .null, .long 0, .int 0, .null])), (a48, .inr (17, [.int 0, .ref a52, .ref a53, .int 0, .ref a54, .ref a55, .ref a56, .null, .null, .int 0, .ref a57, .ref a58, .ref a59, .int 0, .ref a60, .int 1]))]) (hS : va_S A s.heap H locs) (hl : lv_has ls 9 [(0, .ref b), (1, .ref a0), (2, .ref a1), (3, .ref a2), (4, .ref a3), (5, .int 0)]) : W p l e room_1 s m #[Value.ref b] below meth c H locs 265 8866 Q (F0 m 44 ls [.int 13]) := by
  refine lv_tableIn (tgt := 1117) hx hb d_law_44 (by decide +kernel) (by decide +kernel) rfl (by decide) ?_
  refine lv_aload_n hx hb d_law_1117 rfl (lv_at hl 1 rfl) ?_
  refine lv_aload_n hx hb d_law_1118 rfl (lv_at hl 0 rfl) ?_
  refine lv_iload hx hb d_law_1119 (lv_at hl 5 rfl) ?_
  refine lv_iconst (v := 1) hx hb d_law_1121 (by decide +kernel) ?_
  refine lv_iadd hx hb d_law_1122 ?_
  refine nrm (x1 := 1) (by decide +kernel) ?_
  refine va_sld hx hb hX hbl hbA hS (hin4 (i := 1) rfl) d_law_1123 ?_
  refine nrm (x1 := xs 1) rfl ?_
  refine lv_aload_n hx hb d_law_1124 rfl (lv_at hl 3 rfl) ?_
  refine kH (As := [.ref a0, .int (xs 1), .ref a2]) (rest := []) (wr := [(a1, .inr (18, [.ref a48, .ref a49, .int 0, .ref a50, .int 0, .ref a51, .int 0, .null, .int 0, .null, .long 0, .int 0, .null])), (a48, .inr (17, [.int 0, .ref a52, .ref a53, .int 0, .ref a54, .ref a55, .ref a56, .null, .null, .int 0, .ref a57, .ref a58, .ref a59, .int 0, .ref a60, .int 1]))]) (c202_BLaw_seatAt l z hl0 a0 a2 a4 a5 a6 a7 a8 a9 a10 a11 a12 a13 a14 a15 a16 a17 a18 a19 a20 a21 a22 a23 a24 a25 a26 a27 a28 a29 a30 a31 a32 a33 a34 a35 a36 a37 a38 a39 a40 a41 a42 a43 a44 a45 a46 a47 (xs 1) h0) hx hb hml hown hts w_1074 w_1072 w_1073 w_0 md_9c3144 ⟨Nat.le_of_ble_eq_true rfl, Nat.le_of_ble_eq_true rfl⟩ hG hZ hP hD hS hA [0, 1, 2, 3] [4, 5] rfl rfl rfl rfl rfl hl.1 rfl (Nat.le_of_ble_eq_true rfl) d_law_1125 ⟨Nat.le_of_ble_eq_true rfl, Nat.le_of_ble_eq_true rfl⟩ (fun u0 H locs hP hD hS => ?_)
  have hP : va_P z.1 classes [(a1, .inr (18, [.ref a48, .ref a49, .int 0, .ref a50, .int 0, .ref a51, .int 0, .null, .int 0, .null, .long 0, .int 0, .null])), (a48, .inr (17, [.int 0, .ref a52, .ref a53, .int 0, .ref a54, .ref a55, .ref a56, .null, .null, .int 0, .ref a57, .ref a58, .ref a59, .int 0, .ref a60, .int 1]))] H := hP
  have hD : va_D A [(a1, .inr (18, [.ref a48, .ref a49, .int 0, .ref a50, .int 0, .ref a51, .int 0, .null, .int 0, .null, .long 0, .int 0, .null])), (a48, .inr (17, [.int 0, .ref a52, .ref a53, .int 0, .ref a54, .ref a55, .ref a56, .null, .null, .int 0, .ref a57, .ref a58, .ref a59, .int 0, .ref a60, .int 1]))] := hD
  refine W.eq (g2 := F0 m 1128 ls [.int 1]) rfl ?_
  refine lv_istore (lv' := [(6, .int 1), (0, .ref b), (1, .ref a0), (2, .ref a1), (3, .ref a2), (4, .ref a3), (5, .int 0)]) hx hb d_law_1128 hl (by decide) rfl (fun ls hl => ?_)
  refine lv_aload_n hx hb d_law_1130 rfl (lv_at hl 3 rfl) ?_
  refine lv_aload_n hx hb d_law_1131 rfl (lv_at hl 1 rfl) ?_
  refine lv_iload hx hb d_law_1132 (lv_at hl 6 rfl) ?_
  refine lv_iconst (v := 1) hx hb d_law_1134 (by decide +kernel) ?_
  refine lv_iadd hx hb d_law_1135 ?_
  refine nrm (x1 := 1) (by decide +kernel) ?_
  refine va_sld hx hb hX hbl hbA hS (hin4 (i := 1) rfl) d_law_1136 ?_
  refine nrm (x1 := xs 1) rfl ?_
  refine kV (As := [.int (xs 1)]) (rest := []) (wr := []) (c199_BModel_seatAt l z a1 a48 a49 a50 a51 a52 a53 a54 a55 a56 a57 a58 a59 a60 (xs 1)) hx hb hml hown hts w_1927 w_1924 w_1925 w_1926 w_12 md_12ccbe ⟨Nat.le_of_ble_eq_true rfl, Nat.le_of_ble_eq_true rfl⟩ hG hZ hP hD hS hA 0 rfl rfl rfl [0, 1] [] rfl rfl rfl rfl rfl hl.1 rfl (Nat.le_of_ble_eq_true rfl) d_law_1137 ⟨Nat.le_of_ble_eq_true rfl, Nat.le_of_ble_eq_true rfl⟩ (fun u1 H locs hP hD hS => ?_)
  have hP : va_P z.1 classes [(a1, .inr (18, [.ref a48, .ref a49, .int 0, .ref a50, .int 0, .ref a51, .int 1, .null, .int 0, .null, .long 0, .int 0, .null])), (a48, .inr (17, [.int 0, .ref a52, .ref a53, .int 0, .ref a54, .ref a55, .ref a56, .null, .null, .int 0, .ref a57, .ref a58, .ref a59, .int 0, .ref a60, .int 1]))] H := hP
  have hD : va_D A [(a1, .inr (18, [.ref a48, .ref a49, .int 0, .ref a50, .int 0, .ref a51, .int 1, .null, .int 0, .null, .long 0, .int 0, .null])), (a48, .inr (17, [.int 0, .ref a52, .ref a53, .int 0, .ref a54, .ref a55, .ref a56, .null, .null, .int 0, .ref a57, .ref a58, .ref a59, .int 0, .ref a60, .int 1]))] := hD
  refine W.eq (g2 := F0 m 1140 ls [.int 0]) rfl ?_
  refine lv_istore (lv' := [(7, .int 0), (6, .int 1), (0, .ref b), (1, .ref a0), (2, .ref a1), (3, .ref a2), (4, .ref a3), (5, .int 0)]) hx hb d_law_1140 hl (by decide) rfl (fun ls hl => ?_)
  refine lv_aload_n hx hb d_law_1142 rfl (lv_at hl 4 rfl) ?_
  refine kV (As := []) (rest := []) (wr := [(a48, .inr (17, [.int 0, .ref a52, .ref a53, .int 0, .ref a54, .ref a55, .ref a56, .null, .null, .int 0, .ref a57, .ref a58, .ref a59, .int 0, .ref a60, .int 1]))]) (c33_BModel_thrown l z a1 a48 a49 a50 a51) hx hb hml hown hts w_1688 w_1685 w_1686 w_1687 w_12 md_c48e0f ⟨Nat.le_of_ble_eq_true rfl, Nat.le_of_ble_eq_true rfl⟩ hG hZ hP hD hS hA 0 rfl rfl rfl [0] [1] rfl rfl rfl rfl rfl hl.1 rfl (Nat.le_of_ble_eq_true rfl) d_law_1143 ⟨Nat.le_of_ble_eq_true rfl, Nat.le_of_ble_eq_true rfl⟩ (fun u2 H locs hP hD hS => ?_)
  have hP : va_P z.1 classes [(a48, .inr (17, [.int 0, .ref a52, .ref a53, .int 0, .ref a54, .ref a55, .ref a56, .null, .null, .int 0, .ref a57, .ref a58, .ref a59, .int 0, .ref a60, .int 1])), (a1, .inr (18, [.ref a48, .ref a49, .int 0, .ref a50, .int 0, .ref a51, .int 1, .null, .int 0, .null, .long 0, .int 0, .null]))] H := hP
  have hD : va_D A [(a48, .inr (17, [.int 0, .ref a52, .ref a53, .int 0, .ref a54, .ref a55, .ref a56, .null, .null, .int 0, .ref a57, .ref a58, .ref a59, .int 0, .ref a60, .int 1])), (a1, .inr (18, [.ref a48, .ref a49, .int 0, .ref a50, .int 0, .ref a51, .int 1, .null, .int 0, .null, .long 0, .int 0, .null]))] := hD
  refine W.eq (g2 := F0 m 1146 ls [.int 1]) rfl ?_
  refine lv_iload hx hb d_law_1146 (lv_at hl 1 rfl) ?_
  refine lv_icmp_eq (tgt := 1153) hx hb d_law_1148 (by decide) (fun _ => ?_) (fun c9 => absurd (by decide +kernel) c9)
  refine lv_iload hx hb d_law_1153 (lv_at hl 1 rfl) ?_
  refine lv_if_ne (tgt := 1170) hx hb d_law_1155 (by decide) (fun _ => ?_) (fun c9 => absurd c9 (by decide +kernel))
  refine lv_goto (tgt := 3072) hx hb d_law_1170 (by decide) ?_
  refine W.widen (k := 600002) (n := 7302232) (Nat.le_of_ble_eq_true rfl) (Nat.le_of_ble_eq_true rfl) ?_
  exact ht H locs ls hS (lv_sub hl [2, 7] rfl)
set_option maxRecDepth 100000 in
set_option maxHeartbeats 4000000 in
theorem L14_0 (l : Launch) (hl0 : l.stackTraces = false) (z : Zz) {p : Program} {e : Env} {s : State} {m : MethodId} {below : List Frame} {meth : Method} {c : Code} {A : Nat → Prop} {b : Nat} {xs : Nat → Int32} {Q : State → Prop} (hx : p.tables.exec = Jvm.exec) (hb : c.code = code) (hml : c.maxLocals = 9) (hts : ∀ w ∈ WG, w.before #[Value.ref b] s = true) (hown : s.vm.findClass "BallothallLaw" = some m.cls) (hA : ∀ q, s.heap.size ≤ q → A q) (hG : KG z s) (hZ : XZ A s) (hX : va_X b 4 xs s s.heap) (hbl : b < s.heap.size) (hbA : ¬ A b) (ht : ∀ (H : Heap) (locs : List Loc) (ls : Array Slot), va_S A s.heap H locs → lv_has ls 9 [(0, .ref b), (5, .int 0)] → W p l e room_1 s m #[Value.ref b] below meth c H locs 600002 7302232 Q (F0 m 3072 ls [])) (a0 : Nat) (a1 : Nat) (a2 : Nat) (a3 : Nat) (a4 : Nat) (a5 : Nat) (a6 : Nat) (a7 : Nat) (a8 : Nat) (a9 : Nat) (a10 : Nat) (a11 : Nat) (a12 : Nat) (a13 : Nat) (a14 : Nat) (a15 : Nat) (a16 : Nat) (a17 : Nat) (a18 : Nat) (h0 : (xs 1) < 1) (H : Heap) (locs : List Loc) (ls : Array Slot) (hP : va_P z.1 classes [(a0, .inr (11, [.ref a4, .ref a5, .ref a6, .ref a7, .ref a8, .ref a9, .ref a10, .ref a11, .ref a12, .ref a13, .int 0, .int 0, .ref a14, .int 0])), (a1, .inr (18, [.ref a15, .ref a16, .int 0, .ref a17, .int 0, .ref a18, .int 0, .null, .int 0, .null, .long 0, .int 0, .null]))] H) (hD : va_D A [(a0, .inr (11, [.ref a4, .ref a5, .ref a6, .ref a7, .ref a8, .ref a9, .ref a10, .ref a11, .ref a12, .ref a13, .int 0, .int 0, .ref a14, .int 0])), (a1, .inr (18, [.ref a15, .ref a16, .int 0, .ref a17, .int 0, .ref a18, .int 0, .null, .int 0, .null, .long 0, .int 0, .null]))]) (hS : va_S A s.heap H locs) (hl : lv_has ls 9 [(0, .ref b), (1, .ref a0), (2, .ref a1), (3, .ref a2), (4, .ref a3), (5, .int 0)]) : W p l e room_1 s m #[Value.ref b] below meth c H locs 265 8866 Q (F0 m 44 ls [.int 14]) := by
  refine lv_tableIn (tgt := 1173) hx hb d_law_44 (by decide +kernel) (by decide +kernel) rfl (by decide) ?_
  refine lv_aload_n hx hb d_law_1173 rfl (lv_at hl 1 rfl) ?_
  refine lv_aload_n hx hb d_law_1174 rfl (lv_at hl 0 rfl) ?_
  refine lv_iload hx hb d_law_1175 (lv_at hl 5 rfl) ?_
  refine lv_iconst (v := 1) hx hb d_law_1177 (by decide +kernel) ?_
  refine lv_iadd hx hb d_law_1178 ?_
  refine nrm (x1 := 1) (by decide +kernel) ?_
  refine va_sld hx hb hX hbl hbA hS (hin4 (i := 1) rfl) d_law_1179 ?_
  refine nrm (x1 := xs 1) rfl ?_
  refine lv_aload_n hx hb d_law_1180 rfl (lv_at hl 3 rfl) ?_
  refine kH (As := [.ref a0, .int (xs 1), .ref a2]) (rest := []) (wr := [(a1, .inr (18, [.ref a15, .ref a16, .int 0, .ref a17, .int 0, .ref a18, .int 0, .null, .int 0, .null, .long 0, .int 0, .null]))]) (c204_BLaw_lossAt l z hl0 a0 a2 a4 a5 a6 a7 a8 a9 a10 a11 a12 a13 a14 (xs 1) h0) hx hb hml hown hts w_1101 w_1099 w_1100 w_0 md_ef9927 ⟨Nat.le_of_ble_eq_true rfl, Nat.le_of_ble_eq_true rfl⟩ hG hZ hP hD hS hA [0] [1] rfl rfl rfl rfl rfl hl.1 rfl (Nat.le_of_ble_eq_true rfl) d_law_1181 ⟨Nat.le_of_ble_eq_true rfl, Nat.le_of_ble_eq_true rfl⟩ (fun u0 H locs hP hD hS => ?_)
  have hP : va_P z.1 classes [(a1, .inr (18, [.ref a15, .ref a16, .int 0, .ref a17, .int 0, .ref a18, .int 0, .null, .int 0, .null, .long 0, .int 0, .null])), (a0, .inr (11, [.ref a4, .ref a5, .ref a6, .ref a7, .ref a8, .ref a9, .ref a10, .ref a11, .ref a12, .ref a13, .int 0, .int 0, .ref a14, .int 0]))] H := hP
  have hD : va_D A [(a1, .inr (18, [.ref a15, .ref a16, .int 0, .ref a17, .int 0, .ref a18, .int 0, .null, .int 0, .null, .long 0, .int 0, .null])), (a0, .inr (11, [.ref a4, .ref a5, .ref a6, .ref a7, .ref a8, .ref a9, .ref a10, .ref a11, .ref a12, .ref a13, .int 0, .int 0, .ref a14, .int 0]))] := hD
  refine W.eq (g2 := F0 m 1184 ls [.int 1]) rfl ?_
  refine lv_istore (lv' := [(6, .int 1), (0, .ref b), (1, .ref a0), (2, .ref a1), (3, .ref a2), (4, .ref a3), (5, .int 0)]) hx hb d_law_1184 hl (by decide) rfl (fun ls hl => ?_)
  refine lv_aload_n hx hb d_law_1186 rfl (lv_at hl 3 rfl) ?_
  refine lv_aload_n hx hb d_law_1187 rfl (lv_at hl 1 rfl) ?_
  refine lv_iload hx hb d_law_1188 (lv_at hl 6 rfl) ?_
  refine lv_iconst (v := 1) hx hb d_law_1190 (by decide +kernel) ?_
  refine lv_iadd hx hb d_law_1191 ?_
  refine nrm (x1 := 1) (by decide +kernel) ?_
  refine va_sld hx hb hX hbl hbA hS (hin4 (i := 1) rfl) d_law_1192 ?_
  refine nrm (x1 := xs 1) rfl ?_
  refine kV (As := [.int (xs 1)]) (rest := []) (wr := [(a0, .inr (11, [.ref a4, .ref a5, .ref a6, .ref a7, .ref a8, .ref a9, .ref a10, .ref a11, .ref a12, .ref a13, .int 0, .int 0, .ref a14, .int 0]))]) (c205_BModel_lossAt l z a1 a15 a16 a17 a18 (xs 1) h0) hx hb hml hown hts w_1931 w_1928 w_1929 w_1930 w_12 md_a679a1 ⟨Nat.le_of_ble_eq_true rfl, Nat.le_of_ble_eq_true rfl⟩ hG hZ hP hD hS hA 0 rfl rfl rfl [0] [1] rfl rfl rfl rfl rfl hl.1 rfl (Nat.le_of_ble_eq_true rfl) d_law_1193 ⟨Nat.le_of_ble_eq_true rfl, Nat.le_of_ble_eq_true rfl⟩ (fun u1 H locs hP hD hS => ?_)
  have hP : va_P z.1 classes [(a0, .inr (11, [.ref a4, .ref a5, .ref a6, .ref a7, .ref a8, .ref a9, .ref a10, .ref a11, .ref a12, .ref a13, .int 0, .int 0, .ref a14, .int 0])), (a1, .inr (18, [.ref a15, .ref a16, .int 0, .ref a17, .int 0, .ref a18, .int 1, .null, .int 0, .null, .long 0, .int 0, .null]))] H := hP
  have hD : va_D A [(a0, .inr (11, [.ref a4, .ref a5, .ref a6, .ref a7, .ref a8, .ref a9, .ref a10, .ref a11, .ref a12, .ref a13, .int 0, .int 0, .ref a14, .int 0])), (a1, .inr (18, [.ref a15, .ref a16, .int 0, .ref a17, .int 0, .ref a18, .int 1, .null, .int 0, .null, .long 0, .int 0, .null]))] := hD
  refine W.eq (g2 := F0 m 1196 ls [.int 0]) rfl ?_
  refine lv_istore (lv' := [(7, .int 0), (6, .int 1), (0, .ref b), (1, .ref a0), (2, .ref a1), (3, .ref a2), (4, .ref a3), (5, .int 0)]) hx hb d_law_1196 hl (by decide) rfl (fun ls hl => ?_)
  refine lv_aload_n hx hb d_law_1198 rfl (lv_at hl 4 rfl) ?_
  refine kV (As := []) (rest := []) (wr := [(a0, .inr (11, [.ref a4, .ref a5, .ref a6, .ref a7, .ref a8, .ref a9, .ref a10, .ref a11, .ref a12, .ref a13, .int 0, .int 0, .ref a14, .int 0]))]) (c33_BModel_thrown l z a1 a15 a16 a17 a18) hx hb hml hown hts w_1688 w_1685 w_1686 w_1687 w_12 md_c48e0f ⟨Nat.le_of_ble_eq_true rfl, Nat.le_of_ble_eq_true rfl⟩ hG hZ hP hD hS hA 1 rfl rfl rfl [1] [0] rfl rfl rfl rfl rfl hl.1 rfl (Nat.le_of_ble_eq_true rfl) d_law_1199 ⟨Nat.le_of_ble_eq_true rfl, Nat.le_of_ble_eq_true rfl⟩ (fun u2 H locs hP hD hS => ?_)
  have hP : va_P z.1 classes [(a0, .inr (11, [.ref a4, .ref a5, .ref a6, .ref a7, .ref a8, .ref a9, .ref a10, .ref a11, .ref a12, .ref a13, .int 0, .int 0, .ref a14, .int 0])), (a1, .inr (18, [.ref a15, .ref a16, .int 0, .ref a17, .int 0, .ref a18, .int 1, .null, .int 0, .null, .long 0, .int 0, .null]))] H := hP
  have hD : va_D A [(a0, .inr (11, [.ref a4, .ref a5, .ref a6, .ref a7, .ref a8, .ref a9, .ref a10, .ref a11, .ref a12, .ref a13, .int 0, .int 0, .ref a14, .int 0])), (a1, .inr (18, [.ref a15, .ref a16, .int 0, .ref a17, .int 0, .ref a18, .int 1, .null, .int 0, .null, .long 0, .int 0, .null]))] := hD
  refine W.eq (g2 := F0 m 1202 ls [.int 1]) rfl ?_
  refine lv_iload hx hb d_law_1202 (lv_at hl 1 rfl) ?_
  refine lv_icmp_eq (tgt := 1209) hx hb d_law_1204 (by decide) (fun _ => ?_) (fun c9 => absurd (by decide +kernel) c9)
  refine lv_iload hx hb d_law_1209 (lv_at hl 1 rfl) ?_
  refine lv_if_ne (tgt := 1226) hx hb d_law_1211 (by decide) (fun _ => ?_) (fun c9 => absurd c9 (by decide +kernel))
  refine lv_goto (tgt := 3072) hx hb d_law_1226 (by decide) ?_
  refine W.widen (k := 600002) (n := 7302232) (Nat.le_of_ble_eq_true rfl) (Nat.le_of_ble_eq_true rfl) ?_
  exact ht H locs ls hS (lv_sub hl [2, 7] rfl)
set_option maxRecDepth 100000 in
set_option maxHeartbeats 4000000 in
theorem L14_1 (l : Launch) (hl0 : l.stackTraces = false) (z : Zz) {p : Program} {e : Env} {s : State} {m : MethodId} {below : List Frame} {meth : Method} {c : Code} {A : Nat → Prop} {b : Nat} {xs : Nat → Int32} {Q : State → Prop} (hx : p.tables.exec = Jvm.exec) (hb : c.code = code) (hml : c.maxLocals = 9) (hts : ∀ w ∈ WG, w.before #[Value.ref b] s = true) (hown : s.vm.findClass "BallothallLaw" = some m.cls) (hA : ∀ q, s.heap.size ≤ q → A q) (hG : KG z s) (hZ : XZ A s) (hX : va_X b 4 xs s s.heap) (hbl : b < s.heap.size) (hbA : ¬ A b) (ht : ∀ (H : Heap) (locs : List Loc) (ls : Array Slot), va_S A s.heap H locs → lv_has ls 9 [(0, .ref b), (5, .int 0)] → W p l e room_1 s m #[Value.ref b] below meth c H locs 600002 7302232 Q (F0 m 3072 ls [])) (a0 : Nat) (a1 : Nat) (a2 : Nat) (a3 : Nat) (a4 : Nat) (a5 : Nat) (a6 : Nat) (a7 : Nat) (a8 : Nat) (a9 : Nat) (a10 : Nat) (a11 : Nat) (a12 : Nat) (a13 : Nat) (a14 : Nat) (a15 : Nat) (a16 : Nat) (a17 : Nat) (a18 : Nat) (h0 : ¬ (xs 1) < 1) (h1 : 60 < (xs 1)) (H : Heap) (locs : List Loc) (ls : Array Slot) (hP : va_P z.1 classes [(a0, .inr (11, [.ref a4, .ref a5, .ref a6, .ref a7, .ref a8, .ref a9, .ref a10, .ref a11, .ref a12, .ref a13, .int 0, .int 0, .ref a14, .int 0])), (a1, .inr (18, [.ref a15, .ref a16, .int 0, .ref a17, .int 0, .ref a18, .int 0, .null, .int 0, .null, .long 0, .int 0, .null]))] H) (hD : va_D A [(a0, .inr (11, [.ref a4, .ref a5, .ref a6, .ref a7, .ref a8, .ref a9, .ref a10, .ref a11, .ref a12, .ref a13, .int 0, .int 0, .ref a14, .int 0])), (a1, .inr (18, [.ref a15, .ref a16, .int 0, .ref a17, .int 0, .ref a18, .int 0, .null, .int 0, .null, .long 0, .int 0, .null]))]) (hS : va_S A s.heap H locs) (hl : lv_has ls 9 [(0, .ref b), (1, .ref a0), (2, .ref a1), (3, .ref a2), (4, .ref a3), (5, .int 0)]) : W p l e room_1 s m #[Value.ref b] below meth c H locs 265 8866 Q (F0 m 44 ls [.int 14]) := by
  refine lv_tableIn (tgt := 1173) hx hb d_law_44 (by decide +kernel) (by decide +kernel) rfl (by decide) ?_
  refine lv_aload_n hx hb d_law_1173 rfl (lv_at hl 1 rfl) ?_
  refine lv_aload_n hx hb d_law_1174 rfl (lv_at hl 0 rfl) ?_
  refine lv_iload hx hb d_law_1175 (lv_at hl 5 rfl) ?_
  refine lv_iconst (v := 1) hx hb d_law_1177 (by decide +kernel) ?_
  refine lv_iadd hx hb d_law_1178 ?_
  refine nrm (x1 := 1) (by decide +kernel) ?_
  refine va_sld hx hb hX hbl hbA hS (hin4 (i := 1) rfl) d_law_1179 ?_
  refine nrm (x1 := xs 1) rfl ?_
  refine lv_aload_n hx hb d_law_1180 rfl (lv_at hl 3 rfl) ?_
  refine kH (As := [.ref a0, .int (xs 1), .ref a2]) (rest := []) (wr := [(a1, .inr (18, [.ref a15, .ref a16, .int 0, .ref a17, .int 0, .ref a18, .int 0, .null, .int 0, .null, .long 0, .int 0, .null]))]) (c207_BLaw_lossAt l z hl0 a0 a2 a4 a5 a6 a7 a8 a9 a10 a11 a12 a13 a14 (xs 1) h0 h1) hx hb hml hown hts w_1101 w_1099 w_1100 w_0 md_ef9927 ⟨Nat.le_of_ble_eq_true rfl, Nat.le_of_ble_eq_true rfl⟩ hG hZ hP hD hS hA [0] [1] rfl rfl rfl rfl rfl hl.1 rfl (Nat.le_of_ble_eq_true rfl) d_law_1181 ⟨Nat.le_of_ble_eq_true rfl, Nat.le_of_ble_eq_true rfl⟩ (fun u0 H locs hP hD hS => ?_)
  have hP : va_P z.1 classes [(a1, .inr (18, [.ref a15, .ref a16, .int 0, .ref a17, .int 0, .ref a18, .int 0, .null, .int 0, .null, .long 0, .int 0, .null])), (a0, .inr (11, [.ref a4, .ref a5, .ref a6, .ref a7, .ref a8, .ref a9, .ref a10, .ref a11, .ref a12, .ref a13, .int 0, .int 0, .ref a14, .int 0]))] H := hP
  have hD : va_D A [(a1, .inr (18, [.ref a15, .ref a16, .int 0, .ref a17, .int 0, .ref a18, .int 0, .null, .int 0, .null, .long 0, .int 0, .null])), (a0, .inr (11, [.ref a4, .ref a5, .ref a6, .ref a7, .ref a8, .ref a9, .ref a10, .ref a11, .ref a12, .ref a13, .int 0, .int 0, .ref a14, .int 0]))] := hD
  refine W.eq (g2 := F0 m 1184 ls [.int 1]) rfl ?_
  refine lv_istore (lv' := [(6, .int 1), (0, .ref b), (1, .ref a0), (2, .ref a1), (3, .ref a2), (4, .ref a3), (5, .int 0)]) hx hb d_law_1184 hl (by decide) rfl (fun ls hl => ?_)
  refine lv_aload_n hx hb d_law_1186 rfl (lv_at hl 3 rfl) ?_
  refine lv_aload_n hx hb d_law_1187 rfl (lv_at hl 1 rfl) ?_
  refine lv_iload hx hb d_law_1188 (lv_at hl 6 rfl) ?_
  refine lv_iconst (v := 1) hx hb d_law_1190 (by decide +kernel) ?_
  refine lv_iadd hx hb d_law_1191 ?_
  refine nrm (x1 := 1) (by decide +kernel) ?_
  refine va_sld hx hb hX hbl hbA hS (hin4 (i := 1) rfl) d_law_1192 ?_
  refine nrm (x1 := xs 1) rfl ?_
  refine kV (As := [.int (xs 1)]) (rest := []) (wr := [(a0, .inr (11, [.ref a4, .ref a5, .ref a6, .ref a7, .ref a8, .ref a9, .ref a10, .ref a11, .ref a12, .ref a13, .int 0, .int 0, .ref a14, .int 0]))]) (c208_BModel_lossAt l z a1 a15 a16 a17 a18 (xs 1) h0 h1) hx hb hml hown hts w_1931 w_1928 w_1929 w_1930 w_12 md_a679a1 ⟨Nat.le_of_ble_eq_true rfl, Nat.le_of_ble_eq_true rfl⟩ hG hZ hP hD hS hA 0 rfl rfl rfl [0] [1] rfl rfl rfl rfl rfl hl.1 rfl (Nat.le_of_ble_eq_true rfl) d_law_1193 ⟨Nat.le_of_ble_eq_true rfl, Nat.le_of_ble_eq_true rfl⟩ (fun u1 H locs hP hD hS => ?_)
  have hP : va_P z.1 classes [(a0, .inr (11, [.ref a4, .ref a5, .ref a6, .ref a7, .ref a8, .ref a9, .ref a10, .ref a11, .ref a12, .ref a13, .int 0, .int 0, .ref a14, .int 0])), (a1, .inr (18, [.ref a15, .ref a16, .int 0, .ref a17, .int 0, .ref a18, .int 1, .null, .int 0, .null, .long 0, .int 0, .null]))] H := hP
  have hD : va_D A [(a0, .inr (11, [.ref a4, .ref a5, .ref a6, .ref a7, .ref a8, .ref a9, .ref a10, .ref a11, .ref a12, .ref a13, .int 0, .int 0, .ref a14, .int 0])), (a1, .inr (18, [.ref a15, .ref a16, .int 0, .ref a17, .int 0, .ref a18, .int 1, .null, .int 0, .null, .long 0, .int 0, .null]))] := hD
  refine W.eq (g2 := F0 m 1196 ls [.int 0]) rfl ?_
  refine lv_istore (lv' := [(7, .int 0), (6, .int 1), (0, .ref b), (1, .ref a0), (2, .ref a1), (3, .ref a2), (4, .ref a3), (5, .int 0)]) hx hb d_law_1196 hl (by decide) rfl (fun ls hl => ?_)
  refine lv_aload_n hx hb d_law_1198 rfl (lv_at hl 4 rfl) ?_
  refine kV (As := []) (rest := []) (wr := [(a0, .inr (11, [.ref a4, .ref a5, .ref a6, .ref a7, .ref a8, .ref a9, .ref a10, .ref a11, .ref a12, .ref a13, .int 0, .int 0, .ref a14, .int 0]))]) (c33_BModel_thrown l z a1 a15 a16 a17 a18) hx hb hml hown hts w_1688 w_1685 w_1686 w_1687 w_12 md_c48e0f ⟨Nat.le_of_ble_eq_true rfl, Nat.le_of_ble_eq_true rfl⟩ hG hZ hP hD hS hA 1 rfl rfl rfl [1] [0] rfl rfl rfl rfl rfl hl.1 rfl (Nat.le_of_ble_eq_true rfl) d_law_1199 ⟨Nat.le_of_ble_eq_true rfl, Nat.le_of_ble_eq_true rfl⟩ (fun u2 H locs hP hD hS => ?_)
  have hP : va_P z.1 classes [(a0, .inr (11, [.ref a4, .ref a5, .ref a6, .ref a7, .ref a8, .ref a9, .ref a10, .ref a11, .ref a12, .ref a13, .int 0, .int 0, .ref a14, .int 0])), (a1, .inr (18, [.ref a15, .ref a16, .int 0, .ref a17, .int 0, .ref a18, .int 1, .null, .int 0, .null, .long 0, .int 0, .null]))] H := hP
  have hD : va_D A [(a0, .inr (11, [.ref a4, .ref a5, .ref a6, .ref a7, .ref a8, .ref a9, .ref a10, .ref a11, .ref a12, .ref a13, .int 0, .int 0, .ref a14, .int 0])), (a1, .inr (18, [.ref a15, .ref a16, .int 0, .ref a17, .int 0, .ref a18, .int 1, .null, .int 0, .null, .long 0, .int 0, .null]))] := hD
  refine W.eq (g2 := F0 m 1202 ls [.int 1]) rfl ?_
  refine lv_iload hx hb d_law_1202 (lv_at hl 1 rfl) ?_
  refine lv_icmp_eq (tgt := 1209) hx hb d_law_1204 (by decide) (fun _ => ?_) (fun c9 => absurd (by decide +kernel) c9)
  refine lv_iload hx hb d_law_1209 (lv_at hl 1 rfl) ?_
  refine lv_if_ne (tgt := 1226) hx hb d_law_1211 (by decide) (fun _ => ?_) (fun c9 => absurd c9 (by decide +kernel))
  refine lv_goto (tgt := 3072) hx hb d_law_1226 (by decide) ?_
  refine W.widen (k := 600002) (n := 7302232) (Nat.le_of_ble_eq_true rfl) (Nat.le_of_ble_eq_true rfl) ?_
  exact ht H locs ls hS (lv_sub hl [2, 7] rfl)
set_option maxRecDepth 100000 in
set_option maxHeartbeats 4000000 in
theorem L14_2 (l : Launch) (hl0 : l.stackTraces = false) (z : Zz) {p : Program} {e : Env} {s : State} {m : MethodId} {below : List Frame} {meth : Method} {c : Code} {A : Nat → Prop} {b : Nat} {xs : Nat → Int32} {Q : State → Prop} (hx : p.tables.exec = Jvm.exec) (hb : c.code = code) (hml : c.maxLocals = 9) (hts : ∀ w ∈ WG, w.before #[Value.ref b] s = true) (hown : s.vm.findClass "BallothallLaw" = some m.cls) (hA : ∀ q, s.heap.size ≤ q → A q) (hG : KG z s) (hZ : XZ A s) (hX : va_X b 4 xs s s.heap) (hbl : b < s.heap.size) (hbA : ¬ A b) (ht : ∀ (H : Heap) (locs : List Loc) (ls : Array Slot), va_S A s.heap H locs → lv_has ls 9 [(0, .ref b), (5, .int 0)] → W p l e room_1 s m #[Value.ref b] below meth c H locs 600002 7302232 Q (F0 m 3072 ls [])) (a0 : Nat) (a1 : Nat) (a2 : Nat) (a3 : Nat) (a4 : Nat) (a5 : Nat) (a6 : Nat) (a7 : Nat) (a8 : Nat) (a9 : Nat) (a10 : Nat) (a11 : Nat) (a12 : Nat) (a13 : Nat) (a14 : Nat) (a15 : Nat) (a16 : Nat) (a17 : Nat) (a18 : Nat) (a19 : Nat) (a20 : Nat) (a21 : Nat) (a22 : Nat) (a23 : Nat) (a24 : Nat) (a25 : Nat) (a26 : Nat) (a27 : Nat) (a28 : Nat) (a29 : Nat) (a30 : Nat) (a31 : Nat) (a32 : Nat) (a33 : Nat) (a34 : Nat) (a35 : Nat) (a36 : Nat) (a37 : Nat) (a38 : Nat) (a39 : Nat) (a40 : Nat) (a41 : Nat) (h0 : ¬ (xs 1) < 1) (h1 : ¬ 60 < (xs 1)) (H : Heap) (locs : List Loc) (ls : Array Slot) (hP : va_P z.1 classes [(a0, .inr (11, [.ref a4, .ref a5, .ref a6, .ref a7, .ref a8, .ref a9, .ref a10, .ref a11, .ref a12, .ref a13, .int 0, .int 0, .ref a14, .int 0])), (a7, .inr (7, [.int 0, .ref a15, .ref a16, .ref a17, .ref a18, .ref a19, .int 0, .ref a20, .ref a21, .ref a22, .int 0])), (a18, .inr (4, [.int 0, .int 0, .ref a23, .ref a24, .ref a25, .ref a26, .ref a27, .ref a28])), (a20, .inl (z.2 0, 8, .inl (fun _ => 0))), (a21, .inl (z.2 0, 8, .inl (fun _ => 0))), (a2, .inl (z.2 1, 1, .inr (.inl (fun _ => 0)))), (a1, .inr (18, [.ref a29, .ref a30, .int 0, .ref a31, .int 0, .ref a32, .int 0, .null, .int 0, .null, .long 0, .int 0, .null])), (a29, .inr (17, [.int 0, .ref a33, .ref a34, .int 0, .ref a35, .ref a36, .ref a37, .null, .null, .int 0, .ref a38, .ref a39, .ref a40, .int 0, .ref a41, .int 1]))] H) (hD : va_D A [(a0, .inr (11, [.ref a4, .ref a5, .ref a6, .ref a7, .ref a8, .ref a9, .ref a10, .ref a11, .ref a12, .ref a13, .int 0, .int 0, .ref a14, .int 0])), (a7, .inr (7, [.int 0, .ref a15, .ref a16, .ref a17, .ref a18, .ref a19, .int 0, .ref a20, .ref a21, .ref a22, .int 0])), (a18, .inr (4, [.int 0, .int 0, .ref a23, .ref a24, .ref a25, .ref a26, .ref a27, .ref a28])), (a20, .inl (z.2 0, 8, .inl (fun _ => 0))), (a21, .inl (z.2 0, 8, .inl (fun _ => 0))), (a2, .inl (z.2 1, 1, .inr (.inl (fun _ => 0)))), (a1, .inr (18, [.ref a29, .ref a30, .int 0, .ref a31, .int 0, .ref a32, .int 0, .null, .int 0, .null, .long 0, .int 0, .null])), (a29, .inr (17, [.int 0, .ref a33, .ref a34, .int 0, .ref a35, .ref a36, .ref a37, .null, .null, .int 0, .ref a38, .ref a39, .ref a40, .int 0, .ref a41, .int 1]))]) (hS : va_S A s.heap H locs) (hl : lv_has ls 9 [(0, .ref b), (1, .ref a0), (2, .ref a1), (3, .ref a2), (4, .ref a3), (5, .int 0)]) : W p l e room_1 s m #[Value.ref b] below meth c H locs 265 8866 Q (F0 m 44 ls [.int 14]) := by
  refine lv_tableIn (tgt := 1173) hx hb d_law_44 (by decide +kernel) (by decide +kernel) rfl (by decide) ?_
  refine lv_aload_n hx hb d_law_1173 rfl (lv_at hl 1 rfl) ?_
  refine lv_aload_n hx hb d_law_1174 rfl (lv_at hl 0 rfl) ?_
  refine lv_iload hx hb d_law_1175 (lv_at hl 5 rfl) ?_
  refine lv_iconst (v := 1) hx hb d_law_1177 (by decide +kernel) ?_
  refine lv_iadd hx hb d_law_1178 ?_
  refine nrm (x1 := 1) (by decide +kernel) ?_
  refine va_sld hx hb hX hbl hbA hS (hin4 (i := 1) rfl) d_law_1179 ?_
  refine nrm (x1 := xs 1) rfl ?_
  refine lv_aload_n hx hb d_law_1180 rfl (lv_at hl 3 rfl) ?_
  refine kH (As := [.ref a0, .int (xs 1), .ref a2]) (rest := []) (wr := [(a1, .inr (18, [.ref a29, .ref a30, .int 0, .ref a31, .int 0, .ref a32, .int 0, .null, .int 0, .null, .long 0, .int 0, .null])), (a29, .inr (17, [.int 0, .ref a33, .ref a34, .int 0, .ref a35, .ref a36, .ref a37, .null, .null, .int 0, .ref a38, .ref a39, .ref a40, .int 0, .ref a41, .int 1]))]) (c217_BLaw_lossAt l z a0 a2 a4 a5 a6 a7 a8 a9 a10 a11 a12 a13 a14 a15 a16 a17 a18 a19 a20 a21 a22 a23 a24 a25 a26 a27 a28 (xs 1) h0 h1) hx hb hml hown hts w_1101 w_1099 w_1100 w_0 md_ef9927 ⟨Nat.le_of_ble_eq_true rfl, Nat.le_of_ble_eq_true rfl⟩ hG hZ hP hD hS hA [0, 1, 2, 3, 4, 5] [6, 7] rfl rfl rfl rfl rfl hl.1 rfl (Nat.le_of_ble_eq_true rfl) d_law_1181 ⟨Nat.le_of_ble_eq_true rfl, Nat.le_of_ble_eq_true rfl⟩ (fun u0 H locs hP hD hS => ?_)
  have hP : va_P z.1 classes [(a1, .inr (18, [.ref a29, .ref a30, .int 0, .ref a31, .int 0, .ref a32, .int 0, .null, .int 0, .null, .long 0, .int 0, .null])), (a29, .inr (17, [.int 0, .ref a33, .ref a34, .int 0, .ref a35, .ref a36, .ref a37, .null, .null, .int 0, .ref a38, .ref a39, .ref a40, .int 0, .ref a41, .int 1])), (a0, .inr (11, [.ref a4, .ref a5, .ref a6, .ref a7, .ref a8, .ref a9, .ref a10, .ref a11, .ref a12, .ref a13, .int 0, .int 0, .ref a14, .int 0])), (a7, .inr (7, [.int 0, .ref a15, .ref a16, .ref a17, .ref a18, .ref a19, .int 0, .ref a20, .ref a21, .ref a22, .int 0])), (a18, .inr (4, [.int 0, .int 0, .ref a23, .ref a24, .ref a25, .ref a26, .ref a27, .ref a28])), (a20, .inl (z.2 0, 8, .inl (fun _ => 0))), (a21, .inl (z.2 0, 8, .inl (fun _ => 0))), (a2, .inl (z.2 1, 1, .inr (.inl (vp_updL (fun _ => 0) 0 (-1)))))] H := hP
  have hD : va_D A [(a1, .inr (18, [.ref a29, .ref a30, .int 0, .ref a31, .int 0, .ref a32, .int 0, .null, .int 0, .null, .long 0, .int 0, .null])), (a29, .inr (17, [.int 0, .ref a33, .ref a34, .int 0, .ref a35, .ref a36, .ref a37, .null, .null, .int 0, .ref a38, .ref a39, .ref a40, .int 0, .ref a41, .int 1])), (a0, .inr (11, [.ref a4, .ref a5, .ref a6, .ref a7, .ref a8, .ref a9, .ref a10, .ref a11, .ref a12, .ref a13, .int 0, .int 0, .ref a14, .int 0])), (a7, .inr (7, [.int 0, .ref a15, .ref a16, .ref a17, .ref a18, .ref a19, .int 0, .ref a20, .ref a21, .ref a22, .int 0])), (a18, .inr (4, [.int 0, .int 0, .ref a23, .ref a24, .ref a25, .ref a26, .ref a27, .ref a28])), (a20, .inl (z.2 0, 8, .inl (fun _ => 0))), (a21, .inl (z.2 0, 8, .inl (fun _ => 0))), (a2, .inl (z.2 1, 1, .inr (.inl (vp_updL (fun _ => 0) 0 (-1)))))] := hD
  refine W.eq (g2 := F0 m 1184 ls [.int 0]) rfl ?_
  refine lv_istore (lv' := [(6, .int 0), (0, .ref b), (1, .ref a0), (2, .ref a1), (3, .ref a2), (4, .ref a3), (5, .int 0)]) hx hb d_law_1184 hl (by decide) rfl (fun ls hl => ?_)
  refine lv_aload_n hx hb d_law_1186 rfl (lv_at hl 3 rfl) ?_
  refine lv_aload_n hx hb d_law_1187 rfl (lv_at hl 1 rfl) ?_
  refine lv_iload hx hb d_law_1188 (lv_at hl 6 rfl) ?_
  refine lv_iconst (v := 1) hx hb d_law_1190 (by decide +kernel) ?_
  refine lv_iadd hx hb d_law_1191 ?_
  refine nrm (x1 := 1) (by decide +kernel) ?_
  refine va_sld hx hb hX hbl hbA hS (hin4 (i := 1) rfl) d_law_1192 ?_
  refine nrm (x1 := xs 1) rfl ?_
  refine kV (As := [.int (xs 1)]) (rest := []) (wr := [(a0, .inr (11, [.ref a4, .ref a5, .ref a6, .ref a7, .ref a8, .ref a9, .ref a10, .ref a11, .ref a12, .ref a13, .int 0, .int 0, .ref a14, .int 0])), (a7, .inr (7, [.int 0, .ref a15, .ref a16, .ref a17, .ref a18, .ref a19, .int 0, .ref a20, .ref a21, .ref a22, .int 0])), (a18, .inr (4, [.int 0, .int 0, .ref a23, .ref a24, .ref a25, .ref a26, .ref a27, .ref a28])), (a20, .inl (z.2 0, 8, .inl (fun _ => 0))), (a21, .inl (z.2 0, 8, .inl (fun _ => 0))), (a2, .inl (z.2 1, 1, .inr (.inl (vp_updL (fun _ => 0) 0 (-1)))))]) (c226_BModel_lossAt l z a1 a29 a30 a31 a32 a33 a34 a35 a36 a37 a38 a39 a40 a41 (xs 1) h0 h1) hx hb hml hown hts w_1931 w_1928 w_1929 w_1930 w_12 md_a679a1 ⟨Nat.le_of_ble_eq_true rfl, Nat.le_of_ble_eq_true rfl⟩ hG hZ hP hD hS hA 0 rfl rfl rfl [0, 1] [2, 3, 4, 5, 6, 7] rfl rfl rfl rfl rfl hl.1 rfl (Nat.le_of_ble_eq_true rfl) d_law_1193 ⟨Nat.le_of_ble_eq_true rfl, Nat.le_of_ble_eq_true rfl⟩ (fun u1 H locs hP hD hS => ?_)
  have hP : va_P z.1 classes [(a0, .inr (11, [.ref a4, .ref a5, .ref a6, .ref a7, .ref a8, .ref a9, .ref a10, .ref a11, .ref a12, .ref a13, .int 0, .int 0, .ref a14, .int 0])), (a7, .inr (7, [.int 0, .ref a15, .ref a16, .ref a17, .ref a18, .ref a19, .int 0, .ref a20, .ref a21, .ref a22, .int 0])), (a18, .inr (4, [.int 0, .int 0, .ref a23, .ref a24, .ref a25, .ref a26, .ref a27, .ref a28])), (a20, .inl (z.2 0, 8, .inl (fun _ => 0))), (a21, .inl (z.2 0, 8, .inl (fun _ => 0))), (a2, .inl (z.2 1, 1, .inr (.inl (vp_updL (fun _ => 0) 0 (-1))))), (a1, .inr (18, [.ref a29, .ref a30, .int 0, .ref a31, .int 0, .ref a32, .int 0, .null, .int 0, .null, .long 0, .int 0, .null])), (a29, .inr (17, [.int 0, .ref a33, .ref a34, .int 0, .ref a35, .ref a36, .ref a37, .null, .null, .int 0, .ref a38, .ref a39, .ref a40, .int 0, .ref a41, .int 1]))] H := hP
  have hD : va_D A [(a0, .inr (11, [.ref a4, .ref a5, .ref a6, .ref a7, .ref a8, .ref a9, .ref a10, .ref a11, .ref a12, .ref a13, .int 0, .int 0, .ref a14, .int 0])), (a7, .inr (7, [.int 0, .ref a15, .ref a16, .ref a17, .ref a18, .ref a19, .int 0, .ref a20, .ref a21, .ref a22, .int 0])), (a18, .inr (4, [.int 0, .int 0, .ref a23, .ref a24, .ref a25, .ref a26, .ref a27, .ref a28])), (a20, .inl (z.2 0, 8, .inl (fun _ => 0))), (a21, .inl (z.2 0, 8, .inl (fun _ => 0))), (a2, .inl (z.2 1, 1, .inr (.inl (vp_updL (fun _ => 0) 0 (-1))))), (a1, .inr (18, [.ref a29, .ref a30, .int 0, .ref a31, .int 0, .ref a32, .int 0, .null, .int 0, .null, .long 0, .int 0, .null])), (a29, .inr (17, [.int 0, .ref a33, .ref a34, .int 0, .ref a35, .ref a36, .ref a37, .null, .null, .int 0, .ref a38, .ref a39, .ref a40, .int 0, .ref a41, .int 1]))] := hD
  refine W.eq (g2 := F0 m 1196 ls [.int (-1)]) rfl ?_
  refine lv_istore (lv' := [(7, .int (-1)), (6, .int 0), (0, .ref b), (1, .ref a0), (2, .ref a1), (3, .ref a2), (4, .ref a3), (5, .int 0)]) hx hb d_law_1196 hl (by decide) rfl (fun ls hl => ?_)
  refine lv_aload_n hx hb d_law_1198 rfl (lv_at hl 4 rfl) ?_
  refine kV (As := []) (rest := []) (wr := [(a0, .inr (11, [.ref a4, .ref a5, .ref a6, .ref a7, .ref a8, .ref a9, .ref a10, .ref a11, .ref a12, .ref a13, .int 0, .int 0, .ref a14, .int 0])), (a7, .inr (7, [.int 0, .ref a15, .ref a16, .ref a17, .ref a18, .ref a19, .int 0, .ref a20, .ref a21, .ref a22, .int 0])), (a18, .inr (4, [.int 0, .int 0, .ref a23, .ref a24, .ref a25, .ref a26, .ref a27, .ref a28])), (a20, .inl (z.2 0, 8, .inl (fun _ => 0))), (a21, .inl (z.2 0, 8, .inl (fun _ => 0))), (a2, .inl (z.2 1, 1, .inr (.inl (vp_updL (fun _ => 0) 0 (-1))))), (a29, .inr (17, [.int 0, .ref a33, .ref a34, .int 0, .ref a35, .ref a36, .ref a37, .null, .null, .int 0, .ref a38, .ref a39, .ref a40, .int 0, .ref a41, .int 1]))]) (c227_BModel_thrown l z a1 a29 a30 a31 a32) hx hb hml hown hts w_1688 w_1685 w_1686 w_1687 w_12 md_c48e0f ⟨Nat.le_of_ble_eq_true rfl, Nat.le_of_ble_eq_true rfl⟩ hG hZ hP hD hS hA 6 rfl rfl rfl [6] [0, 1, 2, 3, 4, 5, 7] rfl rfl rfl rfl rfl hl.1 rfl (Nat.le_of_ble_eq_true rfl) d_law_1199 ⟨Nat.le_of_ble_eq_true rfl, Nat.le_of_ble_eq_true rfl⟩ (fun u2 H locs hP hD hS => ?_)
  have hP : va_P z.1 classes [(a0, .inr (11, [.ref a4, .ref a5, .ref a6, .ref a7, .ref a8, .ref a9, .ref a10, .ref a11, .ref a12, .ref a13, .int 0, .int 0, .ref a14, .int 0])), (a7, .inr (7, [.int 0, .ref a15, .ref a16, .ref a17, .ref a18, .ref a19, .int 0, .ref a20, .ref a21, .ref a22, .int 0])), (a18, .inr (4, [.int 0, .int 0, .ref a23, .ref a24, .ref a25, .ref a26, .ref a27, .ref a28])), (a20, .inl (z.2 0, 8, .inl (fun _ => 0))), (a21, .inl (z.2 0, 8, .inl (fun _ => 0))), (a2, .inl (z.2 1, 1, .inr (.inl (vp_updL (fun _ => 0) 0 (-1))))), (a29, .inr (17, [.int 0, .ref a33, .ref a34, .int 0, .ref a35, .ref a36, .ref a37, .null, .null, .int 0, .ref a38, .ref a39, .ref a40, .int 0, .ref a41, .int 1])), (a1, .inr (18, [.ref a29, .ref a30, .int 0, .ref a31, .int 0, .ref a32, .int 0, .null, .int 0, .null, .long 0, .int 0, .null]))] H := hP
  have hD : va_D A [(a0, .inr (11, [.ref a4, .ref a5, .ref a6, .ref a7, .ref a8, .ref a9, .ref a10, .ref a11, .ref a12, .ref a13, .int 0, .int 0, .ref a14, .int 0])), (a7, .inr (7, [.int 0, .ref a15, .ref a16, .ref a17, .ref a18, .ref a19, .int 0, .ref a20, .ref a21, .ref a22, .int 0])), (a18, .inr (4, [.int 0, .int 0, .ref a23, .ref a24, .ref a25, .ref a26, .ref a27, .ref a28])), (a20, .inl (z.2 0, 8, .inl (fun _ => 0))), (a21, .inl (z.2 0, 8, .inl (fun _ => 0))), (a2, .inl (z.2 1, 1, .inr (.inl (vp_updL (fun _ => 0) 0 (-1))))), (a29, .inr (17, [.int 0, .ref a33, .ref a34, .int 0, .ref a35, .ref a36, .ref a37, .null, .null, .int 0, .ref a38, .ref a39, .ref a40, .int 0, .ref a41, .int 1])), (a1, .inr (18, [.ref a29, .ref a30, .int 0, .ref a31, .int 0, .ref a32, .int 0, .null, .int 0, .null, .long 0, .int 0, .null]))] := hD
  refine W.eq (g2 := F0 m 1202 ls [.int 0]) rfl ?_
  refine lv_iload hx hb d_law_1202 (lv_at hl 1 rfl) ?_
  refine lv_icmp_eq (tgt := 1209) hx hb d_law_1204 (by decide) (fun _ => ?_) (fun c9 => absurd (by decide +kernel) c9)
  refine lv_iload hx hb d_law_1209 (lv_at hl 1 rfl) ?_
  refine lv_if_ne (tgt := 1226) hx hb d_law_1211 (by decide) (fun c9 => absurd (by decide +kernel) c9) (fun _ => ?_)
  refine lv_aload_n hx hb d_law_1214 rfl (lv_at hl 5 rfl) ?_
  refine lv_iconst (v := 0) hx hb d_law_1215 (by decide +kernel) ?_
  refine va_lald hx hb hG.1 hP 5 1 rfl rfl (vin rfl) d_law_1216 ?_
  refine nrmL (x1 := (-1)) rfl ?_
  refine lv_iload hx hb d_law_1217 (lv_at hl 0 rfl) ?_
  refine lv_i2l (v := (-1)) hx hb d_law_1219 (by decide +kernel) ?_
  refine W.lcmp hx hb d_law_1220 ?_
  refine nrm (x1 := 0) (by decide +kernel) ?_
  refine lv_if_eq (tgt := 1226) hx hb d_law_1221 (by decide) (fun _ => ?_) (fun c9 => absurd (by decide +kernel) c9)
  refine lv_goto (tgt := 3072) hx hb d_law_1226 (by decide) ?_
  refine W.widen (k := 600002) (n := 7302232) (Nat.le_of_ble_eq_true rfl) (Nat.le_of_ble_eq_true rfl) ?_
  exact ht H locs ls hS (lv_sub hl [2, 7] rfl)
set_option maxRecDepth 100000 in
set_option maxHeartbeats 4000000 in
theorem L15_0 (l : Launch) (hl0 : l.stackTraces = false) (z : Zz) {p : Program} {e : Env} {s : State} {m : MethodId} {below : List Frame} {meth : Method} {c : Code} {A : Nat → Prop} {b : Nat} {xs : Nat → Int32} {Q : State → Prop} (hx : p.tables.exec = Jvm.exec) (hb : c.code = code) (hml : c.maxLocals = 9) (hts : ∀ w ∈ WG, w.before #[Value.ref b] s = true) (hown : s.vm.findClass "BallothallLaw" = some m.cls) (hA : ∀ q, s.heap.size ≤ q → A q) (hG : KG z s) (hZ : XZ A s) (hX : va_X b 4 xs s s.heap) (hbl : b < s.heap.size) (hbA : ¬ A b) (ht : ∀ (H : Heap) (locs : List Loc) (ls : Array Slot), va_S A s.heap H locs → lv_has ls 9 [(0, .ref b), (5, .int 0)] → W p l e room_1 s m #[Value.ref b] below meth c H locs 600002 7302232 Q (F0 m 3072 ls [])) (a0 : Nat) (a1 : Nat) (a2 : Nat) (a3 : Nat) (a4 : Nat) (a5 : Nat) (a6 : Nat) (a7 : Nat) (a8 : Nat) (a9 : Nat) (a10 : Nat) (a11 : Nat) (a12 : Nat) (a13 : Nat) (a14 : Nat) (a15 : Nat) (a16 : Nat) (a17 : Nat) (a18 : Nat) (h0 : (xs 1) < 1) (H : Heap) (locs : List Loc) (ls : Array Slot) (hP : va_P z.1 classes [(a0, .inr (11, [.ref a4, .ref a5, .ref a6, .ref a7, .ref a8, .ref a9, .ref a10, .ref a11, .ref a12, .ref a13, .int 0, .int 0, .ref a14, .int 0])), (a1, .inr (18, [.ref a15, .ref a16, .int 0, .ref a17, .int 0, .ref a18, .int 0, .null, .int 0, .null, .long 0, .int 0, .null]))] H) (hD : va_D A [(a0, .inr (11, [.ref a4, .ref a5, .ref a6, .ref a7, .ref a8, .ref a9, .ref a10, .ref a11, .ref a12, .ref a13, .int 0, .int 0, .ref a14, .int 0])), (a1, .inr (18, [.ref a15, .ref a16, .int 0, .ref a17, .int 0, .ref a18, .int 0, .null, .int 0, .null, .long 0, .int 0, .null]))]) (hS : va_S A s.heap H locs) (hl : lv_has ls 9 [(0, .ref b), (1, .ref a0), (2, .ref a1), (3, .ref a2), (4, .ref a3), (5, .int 0)]) : W p l e room_1 s m #[Value.ref b] below meth c H locs 265 8866 Q (F0 m 44 ls [.int 15]) := by
  refine lv_tableIn (tgt := 1229) hx hb d_law_44 (by decide +kernel) (by decide +kernel) rfl (by decide) ?_
  refine lv_aload_n hx hb d_law_1229 rfl (lv_at hl 1 rfl) ?_
  refine lv_aload_n hx hb d_law_1230 rfl (lv_at hl 0 rfl) ?_
  refine lv_iload hx hb d_law_1231 (lv_at hl 5 rfl) ?_
  refine lv_iconst (v := 1) hx hb d_law_1233 (by decide +kernel) ?_
  refine lv_iadd hx hb d_law_1234 ?_
  refine nrm (x1 := 1) (by decide +kernel) ?_
  refine va_sld hx hb hX hbl hbA hS (hin4 (i := 1) rfl) d_law_1235 ?_
  refine nrm (x1 := xs 1) rfl ?_
  refine lv_aload_n hx hb d_law_1236 rfl (lv_at hl 3 rfl) ?_
  refine kH (As := [.ref a0, .int (xs 1), .ref a2]) (rest := []) (wr := [(a1, .inr (18, [.ref a15, .ref a16, .int 0, .ref a17, .int 0, .ref a18, .int 0, .null, .int 0, .null, .long 0, .int 0, .null]))]) (c230_BLaw_transferable l z hl0 a0 a2 a4 a5 a6 a7 a8 a9 a10 a11 a12 a13 a14 (xs 1) h0) hx hb hml hown hts w_1113 w_1111 w_1112 w_0 md_d6598e ⟨Nat.le_of_ble_eq_true rfl, Nat.le_of_ble_eq_true rfl⟩ hG hZ hP hD hS hA [0] [1] rfl rfl rfl rfl rfl hl.1 rfl (Nat.le_of_ble_eq_true rfl) d_law_1237 ⟨Nat.le_of_ble_eq_true rfl, Nat.le_of_ble_eq_true rfl⟩ (fun u0 H locs hP hD hS => ?_)
  have hP : va_P z.1 classes [(a1, .inr (18, [.ref a15, .ref a16, .int 0, .ref a17, .int 0, .ref a18, .int 0, .null, .int 0, .null, .long 0, .int 0, .null])), (a0, .inr (11, [.ref a4, .ref a5, .ref a6, .ref a7, .ref a8, .ref a9, .ref a10, .ref a11, .ref a12, .ref a13, .int 0, .int 0, .ref a14, .int 0]))] H := hP
  have hD : va_D A [(a1, .inr (18, [.ref a15, .ref a16, .int 0, .ref a17, .int 0, .ref a18, .int 0, .null, .int 0, .null, .long 0, .int 0, .null])), (a0, .inr (11, [.ref a4, .ref a5, .ref a6, .ref a7, .ref a8, .ref a9, .ref a10, .ref a11, .ref a12, .ref a13, .int 0, .int 0, .ref a14, .int 0]))] := hD
  refine W.eq (g2 := F0 m 1240 ls [.int 1]) rfl ?_
  refine lv_istore (lv' := [(6, .int 1), (0, .ref b), (1, .ref a0), (2, .ref a1), (3, .ref a2), (4, .ref a3), (5, .int 0)]) hx hb d_law_1240 hl (by decide) rfl (fun ls hl => ?_)
  refine lv_aload_n hx hb d_law_1242 rfl (lv_at hl 3 rfl) ?_
  refine lv_aload_n hx hb d_law_1243 rfl (lv_at hl 1 rfl) ?_
  refine lv_iload hx hb d_law_1244 (lv_at hl 6 rfl) ?_
  refine lv_iconst (v := 1) hx hb d_law_1246 (by decide +kernel) ?_
  refine lv_iadd hx hb d_law_1247 ?_
  refine nrm (x1 := 1) (by decide +kernel) ?_
  refine va_sld hx hb hX hbl hbA hS (hin4 (i := 1) rfl) d_law_1248 ?_
  refine nrm (x1 := xs 1) rfl ?_
  refine kV (As := [.int (xs 1)]) (rest := []) (wr := [(a0, .inr (11, [.ref a4, .ref a5, .ref a6, .ref a7, .ref a8, .ref a9, .ref a10, .ref a11, .ref a12, .ref a13, .int 0, .int 0, .ref a14, .int 0]))]) (c232_BModel_transferable l z a1 a15 a16 a17 a18 (xs 1) h0) hx hb hml hown hts w_1935 w_1932 w_1933 w_1934 w_12 md_9b472a ⟨Nat.le_of_ble_eq_true rfl, Nat.le_of_ble_eq_true rfl⟩ hG hZ hP hD hS hA 0 rfl rfl rfl [0] [1] rfl rfl rfl rfl rfl hl.1 rfl (Nat.le_of_ble_eq_true rfl) d_law_1249 ⟨Nat.le_of_ble_eq_true rfl, Nat.le_of_ble_eq_true rfl⟩ (fun u1 H locs hP hD hS => ?_)
  have hP : va_P z.1 classes [(a0, .inr (11, [.ref a4, .ref a5, .ref a6, .ref a7, .ref a8, .ref a9, .ref a10, .ref a11, .ref a12, .ref a13, .int 0, .int 0, .ref a14, .int 0])), (a1, .inr (18, [.ref a15, .ref a16, .int 0, .ref a17, .int 0, .ref a18, .int 1, .null, .int 0, .null, .long 0, .int 0, .null]))] H := hP
  have hD : va_D A [(a0, .inr (11, [.ref a4, .ref a5, .ref a6, .ref a7, .ref a8, .ref a9, .ref a10, .ref a11, .ref a12, .ref a13, .int 0, .int 0, .ref a14, .int 0])), (a1, .inr (18, [.ref a15, .ref a16, .int 0, .ref a17, .int 0, .ref a18, .int 1, .null, .int 0, .null, .long 0, .int 0, .null]))] := hD
  refine W.eq (g2 := F0 m 1252 ls [.int 0]) rfl ?_
  refine lv_istore (lv' := [(7, .int 0), (6, .int 1), (0, .ref b), (1, .ref a0), (2, .ref a1), (3, .ref a2), (4, .ref a3), (5, .int 0)]) hx hb d_law_1252 hl (by decide) rfl (fun ls hl => ?_)
  refine lv_aload_n hx hb d_law_1254 rfl (lv_at hl 4 rfl) ?_
  refine kV (As := []) (rest := []) (wr := [(a0, .inr (11, [.ref a4, .ref a5, .ref a6, .ref a7, .ref a8, .ref a9, .ref a10, .ref a11, .ref a12, .ref a13, .int 0, .int 0, .ref a14, .int 0]))]) (c33_BModel_thrown l z a1 a15 a16 a17 a18) hx hb hml hown hts w_1688 w_1685 w_1686 w_1687 w_12 md_c48e0f ⟨Nat.le_of_ble_eq_true rfl, Nat.le_of_ble_eq_true rfl⟩ hG hZ hP hD hS hA 1 rfl rfl rfl [1] [0] rfl rfl rfl rfl rfl hl.1 rfl (Nat.le_of_ble_eq_true rfl) d_law_1255 ⟨Nat.le_of_ble_eq_true rfl, Nat.le_of_ble_eq_true rfl⟩ (fun u2 H locs hP hD hS => ?_)
  have hP : va_P z.1 classes [(a0, .inr (11, [.ref a4, .ref a5, .ref a6, .ref a7, .ref a8, .ref a9, .ref a10, .ref a11, .ref a12, .ref a13, .int 0, .int 0, .ref a14, .int 0])), (a1, .inr (18, [.ref a15, .ref a16, .int 0, .ref a17, .int 0, .ref a18, .int 1, .null, .int 0, .null, .long 0, .int 0, .null]))] H := hP
  have hD : va_D A [(a0, .inr (11, [.ref a4, .ref a5, .ref a6, .ref a7, .ref a8, .ref a9, .ref a10, .ref a11, .ref a12, .ref a13, .int 0, .int 0, .ref a14, .int 0])), (a1, .inr (18, [.ref a15, .ref a16, .int 0, .ref a17, .int 0, .ref a18, .int 1, .null, .int 0, .null, .long 0, .int 0, .null]))] := hD
  refine W.eq (g2 := F0 m 1258 ls [.int 1]) rfl ?_
  refine lv_iload hx hb d_law_1258 (lv_at hl 1 rfl) ?_
  refine lv_icmp_eq (tgt := 1265) hx hb d_law_1260 (by decide) (fun _ => ?_) (fun c9 => absurd (by decide +kernel) c9)
  refine lv_iload hx hb d_law_1265 (lv_at hl 1 rfl) ?_
  refine lv_if_ne (tgt := 1282) hx hb d_law_1267 (by decide) (fun _ => ?_) (fun c9 => absurd c9 (by decide +kernel))
  refine lv_goto (tgt := 3072) hx hb d_law_1282 (by decide) ?_
  refine W.widen (k := 600002) (n := 7302232) (Nat.le_of_ble_eq_true rfl) (Nat.le_of_ble_eq_true rfl) ?_
  exact ht H locs ls hS (lv_sub hl [2, 7] rfl)
set_option maxRecDepth 100000 in
set_option maxHeartbeats 4000000 in
theorem L15_1 (l : Launch) (hl0 : l.stackTraces = false) (z : Zz) {p : Program} {e : Env} {s : State} {m : MethodId} {below : List Frame} {meth : Method} {c : Code} {A : Nat → Prop} {b : Nat} {xs : Nat → Int32} {Q : State → Prop} (hx : p.tables.exec = Jvm.exec) (hb : c.code = code) (hml : c.maxLocals = 9) (hts : ∀ w ∈ WG, w.before #[Value.ref b] s = true) (hown : s.vm.findClass "BallothallLaw" = some m.cls) (hA : ∀ q, s.heap.size ≤ q → A q) (hG : KG z s) (hZ : XZ A s) (hX : va_X b 4 xs s s.heap) (hbl : b < s.heap.size) (hbA : ¬ A b) (ht : ∀ (H : Heap) (locs : List Loc) (ls : Array Slot), va_S A s.heap H locs → lv_has ls 9 [(0, .ref b), (5, .int 0)] → W p l e room_1 s m #[Value.ref b] below meth c H locs 600002 7302232 Q (F0 m 3072 ls [])) (a0 : Nat) (a1 : Nat) (a2 : Nat) (a3 : Nat) (a4 : Nat) (a5 : Nat) (a6 : Nat) (a7 : Nat) (a8 : Nat) (a9 : Nat) (a10 : Nat) (a11 : Nat) (a12 : Nat) (a13 : Nat) (a14 : Nat) (a15 : Nat) (a16 : Nat) (a17 : Nat) (a18 : Nat) (h0 : ¬ (xs 1) < 1) (h1 : 3 < (xs 1)) (H : Heap) (locs : List Loc) (ls : Array Slot) (hP : va_P z.1 classes [(a0, .inr (11, [.ref a4, .ref a5, .ref a6, .ref a7, .ref a8, .ref a9, .ref a10, .ref a11, .ref a12, .ref a13, .int 0, .int 0, .ref a14, .int 0])), (a1, .inr (18, [.ref a15, .ref a16, .int 0, .ref a17, .int 0, .ref a18, .int 0, .null, .int 0, .null, .long 0, .int 0, .null]))] H) (hD : va_D A [(a0, .inr (11, [.ref a4, .ref a5, .ref a6, .ref a7, .ref a8, .ref a9, .ref a10, .ref a11, .ref a12, .ref a13, .int 0, .int 0, .ref a14, .int 0])), (a1, .inr (18, [.ref a15, .ref a16, .int 0, .ref a17, .int 0, .ref a18, .int 0, .null, .int 0, .null, .long 0, .int 0, .null]))]) (hS : va_S A s.heap H locs) (hl : lv_has ls 9 [(0, .ref b), (1, .ref a0), (2, .ref a1), (3, .ref a2), (4, .ref a3), (5, .int 0)]) : W p l e room_1 s m #[Value.ref b] below meth c H locs 265 8866 Q (F0 m 44 ls [.int 15]) := by
  refine lv_tableIn (tgt := 1229) hx hb d_law_44 (by decide +kernel) (by decide +kernel) rfl (by decide) ?_
  refine lv_aload_n hx hb d_law_1229 rfl (lv_at hl 1 rfl) ?_
  refine lv_aload_n hx hb d_law_1230 rfl (lv_at hl 0 rfl) ?_
  refine lv_iload hx hb d_law_1231 (lv_at hl 5 rfl) ?_
  refine lv_iconst (v := 1) hx hb d_law_1233 (by decide +kernel) ?_
  refine lv_iadd hx hb d_law_1234 ?_
  refine nrm (x1 := 1) (by decide +kernel) ?_
  refine va_sld hx hb hX hbl hbA hS (hin4 (i := 1) rfl) d_law_1235 ?_
  refine nrm (x1 := xs 1) rfl ?_
  refine lv_aload_n hx hb d_law_1236 rfl (lv_at hl 3 rfl) ?_
  refine kH (As := [.ref a0, .int (xs 1), .ref a2]) (rest := []) (wr := [(a1, .inr (18, [.ref a15, .ref a16, .int 0, .ref a17, .int 0, .ref a18, .int 0, .null, .int 0, .null, .long 0, .int 0, .null]))]) (c235_BLaw_transferable l z hl0 a0 a2 a4 a5 a6 a7 a8 a9 a10 a11 a12 a13 a14 (xs 1) h0 h1) hx hb hml hown hts w_1113 w_1111 w_1112 w_0 md_d6598e ⟨Nat.le_of_ble_eq_true rfl, Nat.le_of_ble_eq_true rfl⟩ hG hZ hP hD hS hA [0] [1] rfl rfl rfl rfl rfl hl.1 rfl (Nat.le_of_ble_eq_true rfl) d_law_1237 ⟨Nat.le_of_ble_eq_true rfl, Nat.le_of_ble_eq_true rfl⟩ (fun u0 H locs hP hD hS => ?_)
  have hP : va_P z.1 classes [(a1, .inr (18, [.ref a15, .ref a16, .int 0, .ref a17, .int 0, .ref a18, .int 0, .null, .int 0, .null, .long 0, .int 0, .null])), (a0, .inr (11, [.ref a4, .ref a5, .ref a6, .ref a7, .ref a8, .ref a9, .ref a10, .ref a11, .ref a12, .ref a13, .int 0, .int 0, .ref a14, .int 0]))] H := hP
  have hD : va_D A [(a1, .inr (18, [.ref a15, .ref a16, .int 0, .ref a17, .int 0, .ref a18, .int 0, .null, .int 0, .null, .long 0, .int 0, .null])), (a0, .inr (11, [.ref a4, .ref a5, .ref a6, .ref a7, .ref a8, .ref a9, .ref a10, .ref a11, .ref a12, .ref a13, .int 0, .int 0, .ref a14, .int 0]))] := hD
  refine W.eq (g2 := F0 m 1240 ls [.int 1]) rfl ?_
  refine lv_istore (lv' := [(6, .int 1), (0, .ref b), (1, .ref a0), (2, .ref a1), (3, .ref a2), (4, .ref a3), (5, .int 0)]) hx hb d_law_1240 hl (by decide) rfl (fun ls hl => ?_)
  refine lv_aload_n hx hb d_law_1242 rfl (lv_at hl 3 rfl) ?_
  refine lv_aload_n hx hb d_law_1243 rfl (lv_at hl 1 rfl) ?_
  refine lv_iload hx hb d_law_1244 (lv_at hl 6 rfl) ?_
  refine lv_iconst (v := 1) hx hb d_law_1246 (by decide +kernel) ?_
  refine lv_iadd hx hb d_law_1247 ?_
  refine nrm (x1 := 1) (by decide +kernel) ?_
  refine va_sld hx hb hX hbl hbA hS (hin4 (i := 1) rfl) d_law_1248 ?_
  refine nrm (x1 := xs 1) rfl ?_
  refine kV (As := [.int (xs 1)]) (rest := []) (wr := [(a0, .inr (11, [.ref a4, .ref a5, .ref a6, .ref a7, .ref a8, .ref a9, .ref a10, .ref a11, .ref a12, .ref a13, .int 0, .int 0, .ref a14, .int 0]))]) (c237_BModel_transferable l z a1 a15 a16 a17 a18 (xs 1) h0 h1) hx hb hml hown hts w_1935 w_1932 w_1933 w_1934 w_12 md_9b472a ⟨Nat.le_of_ble_eq_true rfl, Nat.le_of_ble_eq_true rfl⟩ hG hZ hP hD hS hA 0 rfl rfl rfl [0] [1] rfl rfl rfl rfl rfl hl.1 rfl (Nat.le_of_ble_eq_true rfl) d_law_1249 ⟨Nat.le_of_ble_eq_true rfl, Nat.le_of_ble_eq_true rfl⟩ (fun u1 H locs hP hD hS => ?_)
  have hP : va_P z.1 classes [(a0, .inr (11, [.ref a4, .ref a5, .ref a6, .ref a7, .ref a8, .ref a9, .ref a10, .ref a11, .ref a12, .ref a13, .int 0, .int 0, .ref a14, .int 0])), (a1, .inr (18, [.ref a15, .ref a16, .int 0, .ref a17, .int 0, .ref a18, .int 1, .null, .int 0, .null, .long 0, .int 0, .null]))] H := hP
  have hD : va_D A [(a0, .inr (11, [.ref a4, .ref a5, .ref a6, .ref a7, .ref a8, .ref a9, .ref a10, .ref a11, .ref a12, .ref a13, .int 0, .int 0, .ref a14, .int 0])), (a1, .inr (18, [.ref a15, .ref a16, .int 0, .ref a17, .int 0, .ref a18, .int 1, .null, .int 0, .null, .long 0, .int 0, .null]))] := hD
  refine W.eq (g2 := F0 m 1252 ls [.int 0]) rfl ?_
  refine lv_istore (lv' := [(7, .int 0), (6, .int 1), (0, .ref b), (1, .ref a0), (2, .ref a1), (3, .ref a2), (4, .ref a3), (5, .int 0)]) hx hb d_law_1252 hl (by decide) rfl (fun ls hl => ?_)
  refine lv_aload_n hx hb d_law_1254 rfl (lv_at hl 4 rfl) ?_
  refine kV (As := []) (rest := []) (wr := [(a0, .inr (11, [.ref a4, .ref a5, .ref a6, .ref a7, .ref a8, .ref a9, .ref a10, .ref a11, .ref a12, .ref a13, .int 0, .int 0, .ref a14, .int 0]))]) (c33_BModel_thrown l z a1 a15 a16 a17 a18) hx hb hml hown hts w_1688 w_1685 w_1686 w_1687 w_12 md_c48e0f ⟨Nat.le_of_ble_eq_true rfl, Nat.le_of_ble_eq_true rfl⟩ hG hZ hP hD hS hA 1 rfl rfl rfl [1] [0] rfl rfl rfl rfl rfl hl.1 rfl (Nat.le_of_ble_eq_true rfl) d_law_1255 ⟨Nat.le_of_ble_eq_true rfl, Nat.le_of_ble_eq_true rfl⟩ (fun u2 H locs hP hD hS => ?_)
  have hP : va_P z.1 classes [(a0, .inr (11, [.ref a4, .ref a5, .ref a6, .ref a7, .ref a8, .ref a9, .ref a10, .ref a11, .ref a12, .ref a13, .int 0, .int 0, .ref a14, .int 0])), (a1, .inr (18, [.ref a15, .ref a16, .int 0, .ref a17, .int 0, .ref a18, .int 1, .null, .int 0, .null, .long 0, .int 0, .null]))] H := hP
  have hD : va_D A [(a0, .inr (11, [.ref a4, .ref a5, .ref a6, .ref a7, .ref a8, .ref a9, .ref a10, .ref a11, .ref a12, .ref a13, .int 0, .int 0, .ref a14, .int 0])), (a1, .inr (18, [.ref a15, .ref a16, .int 0, .ref a17, .int 0, .ref a18, .int 1, .null, .int 0, .null, .long 0, .int 0, .null]))] := hD
  refine W.eq (g2 := F0 m 1258 ls [.int 1]) rfl ?_
  refine lv_iload hx hb d_law_1258 (lv_at hl 1 rfl) ?_
  refine lv_icmp_eq (tgt := 1265) hx hb d_law_1260 (by decide) (fun _ => ?_) (fun c9 => absurd (by decide +kernel) c9)
  refine lv_iload hx hb d_law_1265 (lv_at hl 1 rfl) ?_
  refine lv_if_ne (tgt := 1282) hx hb d_law_1267 (by decide) (fun _ => ?_) (fun c9 => absurd c9 (by decide +kernel))
  refine lv_goto (tgt := 3072) hx hb d_law_1282 (by decide) ?_
  refine W.widen (k := 600002) (n := 7302232) (Nat.le_of_ble_eq_true rfl) (Nat.le_of_ble_eq_true rfl) ?_
  exact ht H locs ls hS (lv_sub hl [2, 7] rfl)
set_option maxRecDepth 100000 in
set_option maxHeartbeats 4000000 in
theorem L15_2 (l : Launch) (hl0 : l.stackTraces = false) (z : Zz) {p : Program} {e : Env} {s : State} {m : MethodId} {below : List Frame} {meth : Method} {c : Code} {A : Nat → Prop} {b : Nat} {xs : Nat → Int32} {Q : State → Prop} (hx : p.tables.exec = Jvm.exec) (hb : c.code = code) (hml : c.maxLocals = 9) (hts : ∀ w ∈ WG, w.before #[Value.ref b] s = true) (hown : s.vm.findClass "BallothallLaw" = some m.cls) (hA : ∀ q, s.heap.size ≤ q → A q) (hG : KG z s) (hZ : XZ A s) (hX : va_X b 4 xs s s.heap) (hbl : b < s.heap.size) (hbA : ¬ A b) (ht : ∀ (H : Heap) (locs : List Loc) (ls : Array Slot), va_S A s.heap H locs → lv_has ls 9 [(0, .ref b), (5, .int 0)] → W p l e room_1 s m #[Value.ref b] below meth c H locs 600002 7302232 Q (F0 m 3072 ls [])) (a0 : Nat) (a1 : Nat) (a2 : Nat) (a3 : Nat) (a4 : Nat) (a5 : Nat) (a6 : Nat) (a7 : Nat) (a8 : Nat) (a9 : Nat) (a10 : Nat) (a11 : Nat) (a12 : Nat) (a13 : Nat) (a14 : Nat) (a15 : Nat) (a16 : Nat) (a17 : Nat) (a18 : Nat) (a19 : Nat) (a20 : Nat) (a21 : Nat) (a22 : Nat) (a23 : Nat) (a24 : Nat) (a25 : Nat) (a26 : Nat) (a27 : Nat) (a28 : Nat) (a29 : Nat) (a30 : Nat) (a31 : Nat) (a32 : Nat) (a33 : Nat) (a34 : Nat) (h0 : ¬ (xs 1) < 1) (h1 : ¬ 3 < (xs 1)) (H : Heap) (locs : List Loc) (ls : Array Slot) (hP : va_P z.1 classes [(a0, .inr (11, [.ref a4, .ref a5, .ref a6, .ref a7, .ref a8, .ref a9, .ref a10, .ref a11, .ref a12, .ref a13, .int 0, .int 0, .ref a14, .int 0])), (a4, .inr (0, [.ref a15, .int 0, .int 0, .int 0, .ref a16, .ref a17, .ref a18, .ref a19, .ref a20, .ref a21])), (a1, .inr (18, [.ref a22, .ref a23, .int 0, .ref a24, .int 0, .ref a25, .int 0, .null, .int 0, .null, .long 0, .int 0, .null])), (a22, .inr (17, [.int 0, .ref a26, .ref a27, .int 0, .ref a28, .ref a29, .ref a30, .null, .null, .int 0, .ref a31, .ref a32, .ref a33, .int 0, .ref a34, .int 1]))] H) (hD : va_D A [(a0, .inr (11, [.ref a4, .ref a5, .ref a6, .ref a7, .ref a8, .ref a9, .ref a10, .ref a11, .ref a12, .ref a13, .int 0, .int 0, .ref a14, .int 0])), (a4, .inr (0, [.ref a15, .int 0, .int 0, .int 0, .ref a16, .ref a17, .ref a18, .ref a19, .ref a20, .ref a21])), (a1, .inr (18, [.ref a22, .ref a23, .int 0, .ref a24, .int 0, .ref a25, .int 0, .null, .int 0, .null, .long 0, .int 0, .null])), (a22, .inr (17, [.int 0, .ref a26, .ref a27, .int 0, .ref a28, .ref a29, .ref a30, .null, .null, .int 0, .ref a31, .ref a32, .ref a33, .int 0, .ref a34, .int 1]))]) (hS : va_S A s.heap H locs) (hl : lv_has ls 9 [(0, .ref b), (1, .ref a0), (2, .ref a1), (3, .ref a2), (4, .ref a3), (5, .int 0)]) : W p l e room_1 s m #[Value.ref b] below meth c H locs 265 8866 Q (F0 m 44 ls [.int 15]) := by
  refine lv_tableIn (tgt := 1229) hx hb d_law_44 (by decide +kernel) (by decide +kernel) rfl (by decide) ?_
  refine lv_aload_n hx hb d_law_1229 rfl (lv_at hl 1 rfl) ?_
  refine lv_aload_n hx hb d_law_1230 rfl (lv_at hl 0 rfl) ?_
  refine lv_iload hx hb d_law_1231 (lv_at hl 5 rfl) ?_
  refine lv_iconst (v := 1) hx hb d_law_1233 (by decide +kernel) ?_
  refine lv_iadd hx hb d_law_1234 ?_
  refine nrm (x1 := 1) (by decide +kernel) ?_
  refine va_sld hx hb hX hbl hbA hS (hin4 (i := 1) rfl) d_law_1235 ?_
  refine nrm (x1 := xs 1) rfl ?_
  refine lv_aload_n hx hb d_law_1236 rfl (lv_at hl 3 rfl) ?_
  refine kH (As := [.ref a0, .int (xs 1), .ref a2]) (rest := []) (wr := [(a1, .inr (18, [.ref a22, .ref a23, .int 0, .ref a24, .int 0, .ref a25, .int 0, .null, .int 0, .null, .long 0, .int 0, .null])), (a22, .inr (17, [.int 0, .ref a26, .ref a27, .int 0, .ref a28, .ref a29, .ref a30, .null, .null, .int 0, .ref a31, .ref a32, .ref a33, .int 0, .ref a34, .int 1]))]) (c240_BLaw_transferable l z hl0 a0 a2 a4 a5 a6 a7 a8 a9 a10 a11 a12 a13 a14 a15 a16 a17 a18 a19 a20 a21 (xs 1) h0 h1) hx hb hml hown hts w_1113 w_1111 w_1112 w_0 md_d6598e ⟨Nat.le_of_ble_eq_true rfl, Nat.le_of_ble_eq_true rfl⟩ hG hZ hP hD hS hA [0, 1] [2, 3] rfl rfl rfl rfl rfl hl.1 rfl (Nat.le_of_ble_eq_true rfl) d_law_1237 ⟨Nat.le_of_ble_eq_true rfl, Nat.le_of_ble_eq_true rfl⟩ (fun u0 H locs hP hD hS => ?_)
  have hP : va_P z.1 classes [(a1, .inr (18, [.ref a22, .ref a23, .int 0, .ref a24, .int 0, .ref a25, .int 0, .null, .int 0, .null, .long 0, .int 0, .null])), (a22, .inr (17, [.int 0, .ref a26, .ref a27, .int 0, .ref a28, .ref a29, .ref a30, .null, .null, .int 0, .ref a31, .ref a32, .ref a33, .int 0, .ref a34, .int 1]))] H := hP
  have hD : va_D A [(a1, .inr (18, [.ref a22, .ref a23, .int 0, .ref a24, .int 0, .ref a25, .int 0, .null, .int 0, .null, .long 0, .int 0, .null])), (a22, .inr (17, [.int 0, .ref a26, .ref a27, .int 0, .ref a28, .ref a29, .ref a30, .null, .null, .int 0, .ref a31, .ref a32, .ref a33, .int 0, .ref a34, .int 1]))] := hD
  refine W.eq (g2 := F0 m 1240 ls [.int 2]) rfl ?_
  refine lv_istore (lv' := [(6, .int 2), (0, .ref b), (1, .ref a0), (2, .ref a1), (3, .ref a2), (4, .ref a3), (5, .int 0)]) hx hb d_law_1240 hl (by decide) rfl (fun ls hl => ?_)
  refine lv_aload_n hx hb d_law_1242 rfl (lv_at hl 3 rfl) ?_
  refine lv_aload_n hx hb d_law_1243 rfl (lv_at hl 1 rfl) ?_
  refine lv_iload hx hb d_law_1244 (lv_at hl 6 rfl) ?_
  refine lv_iconst (v := 1) hx hb d_law_1246 (by decide +kernel) ?_
  refine lv_iadd hx hb d_law_1247 ?_
  refine nrm (x1 := 1) (by decide +kernel) ?_
  refine va_sld hx hb hX hbl hbA hS (hin4 (i := 1) rfl) d_law_1248 ?_
  refine nrm (x1 := xs 1) rfl ?_
  refine kV (As := [.int (xs 1)]) (rest := []) (wr := []) (c243_BModel_transferable l z a1 a22 a23 a24 a25 a26 a27 a28 a29 a30 a31 a32 a33 a34 (xs 1) h0 h1) hx hb hml hown hts w_1935 w_1932 w_1933 w_1934 w_12 md_9b472a ⟨Nat.le_of_ble_eq_true rfl, Nat.le_of_ble_eq_true rfl⟩ hG hZ hP hD hS hA 0 rfl rfl rfl [0, 1] [] rfl rfl rfl rfl rfl hl.1 rfl (Nat.le_of_ble_eq_true rfl) d_law_1249 ⟨Nat.le_of_ble_eq_true rfl, Nat.le_of_ble_eq_true rfl⟩ (fun u1 H locs hP hD hS => ?_)
  have hP : va_P z.1 classes [(a1, .inr (18, [.ref a22, .ref a23, .int 0, .ref a24, .int 0, .ref a25, .int 2, .null, .int 0, .null, .long 0, .int 0, .null])), (a22, .inr (17, [.int 0, .ref a26, .ref a27, .int 0, .ref a28, .ref a29, .ref a30, .null, .null, .int 0, .ref a31, .ref a32, .ref a33, .int 0, .ref a34, .int 1]))] H := hP
  have hD : va_D A [(a1, .inr (18, [.ref a22, .ref a23, .int 0, .ref a24, .int 0, .ref a25, .int 2, .null, .int 0, .null, .long 0, .int 0, .null])), (a22, .inr (17, [.int 0, .ref a26, .ref a27, .int 0, .ref a28, .ref a29, .ref a30, .null, .null, .int 0, .ref a31, .ref a32, .ref a33, .int 0, .ref a34, .int 1]))] := hD
  refine W.eq (g2 := F0 m 1252 ls [.int 0]) rfl ?_
  refine lv_istore (lv' := [(7, .int 0), (6, .int 2), (0, .ref b), (1, .ref a0), (2, .ref a1), (3, .ref a2), (4, .ref a3), (5, .int 0)]) hx hb d_law_1252 hl (by decide) rfl (fun ls hl => ?_)
  refine lv_aload_n hx hb d_law_1254 rfl (lv_at hl 4 rfl) ?_
  refine kV (As := []) (rest := []) (wr := [(a22, .inr (17, [.int 0, .ref a26, .ref a27, .int 0, .ref a28, .ref a29, .ref a30, .null, .null, .int 0, .ref a31, .ref a32, .ref a33, .int 0, .ref a34, .int 1]))]) (c244_BModel_thrown l z a1 a22 a23 a24 a25) hx hb hml hown hts w_1688 w_1685 w_1686 w_1687 w_12 md_c48e0f ⟨Nat.le_of_ble_eq_true rfl, Nat.le_of_ble_eq_true rfl⟩ hG hZ hP hD hS hA 0 rfl rfl rfl [0] [1] rfl rfl rfl rfl rfl hl.1 rfl (Nat.le_of_ble_eq_true rfl) d_law_1255 ⟨Nat.le_of_ble_eq_true rfl, Nat.le_of_ble_eq_true rfl⟩ (fun u2 H locs hP hD hS => ?_)
  have hP : va_P z.1 classes [(a22, .inr (17, [.int 0, .ref a26, .ref a27, .int 0, .ref a28, .ref a29, .ref a30, .null, .null, .int 0, .ref a31, .ref a32, .ref a33, .int 0, .ref a34, .int 1])), (a1, .inr (18, [.ref a22, .ref a23, .int 0, .ref a24, .int 0, .ref a25, .int 2, .null, .int 0, .null, .long 0, .int 0, .null]))] H := hP
  have hD : va_D A [(a22, .inr (17, [.int 0, .ref a26, .ref a27, .int 0, .ref a28, .ref a29, .ref a30, .null, .null, .int 0, .ref a31, .ref a32, .ref a33, .int 0, .ref a34, .int 1])), (a1, .inr (18, [.ref a22, .ref a23, .int 0, .ref a24, .int 0, .ref a25, .int 2, .null, .int 0, .null, .long 0, .int 0, .null]))] := hD
  refine W.eq (g2 := F0 m 1258 ls [.int 2]) rfl ?_
  refine lv_iload hx hb d_law_1258 (lv_at hl 1 rfl) ?_
  refine lv_icmp_eq (tgt := 1265) hx hb d_law_1260 (by decide) (fun _ => ?_) (fun c9 => absurd (by decide +kernel) c9)
  refine lv_iload hx hb d_law_1265 (lv_at hl 1 rfl) ?_
  refine lv_if_ne (tgt := 1282) hx hb d_law_1267 (by decide) (fun _ => ?_) (fun c9 => absurd c9 (by decide +kernel))
  refine lv_goto (tgt := 3072) hx hb d_law_1282 (by decide) ?_
  refine W.widen (k := 600002) (n := 7302232) (Nat.le_of_ble_eq_true rfl) (Nat.le_of_ble_eq_true rfl) ?_
  exact ht H locs ls hS (lv_sub hl [2, 7] rfl)
set_option maxRecDepth 100000 in
set_option maxHeartbeats 4000000 in
theorem L16_0 (l : Launch) (hl0 : l.stackTraces = false) (z : Zz) {p : Program} {e : Env} {s : State} {m : MethodId} {below : List Frame} {meth : Method} {c : Code} {A : Nat → Prop} {b : Nat} {xs : Nat → Int32} {Q : State → Prop} (hx : p.tables.exec = Jvm.exec) (hb : c.code = code) (hml : c.maxLocals = 9) (hts : ∀ w ∈ WG, w.before #[Value.ref b] s = true) (hown : s.vm.findClass "BallothallLaw" = some m.cls) (hA : ∀ q, s.heap.size ≤ q → A q) (hG : KG z s) (hZ : XZ A s) (hX : va_X b 4 xs s s.heap) (hbl : b < s.heap.size) (hbA : ¬ A b) (ht : ∀ (H : Heap) (locs : List Loc) (ls : Array Slot), va_S A s.heap H locs → lv_has ls 9 [(0, .ref b), (5, .int 0)] → W p l e room_1 s m #[Value.ref b] below meth c H locs 600002 7302232 Q (F0 m 3072 ls [])) (a0 : Nat) (a1 : Nat) (a2 : Nat) (a3 : Nat) (a4 : Nat) (a5 : Nat) (a6 : Nat) (a7 : Nat) (a8 : Nat) (a9 : Nat) (a10 : Nat) (a11 : Nat) (a12 : Nat) (a13 : Nat) (a14 : Nat) (a15 : Nat) (a16 : Nat) (a17 : Nat) (a18 : Nat) (a19 : Nat) (a20 : Nat) (a21 : Nat) (a22 : Nat) (a23 : Nat) (a24 : Nat) (a25 : Nat) (a26 : Nat) (a27 : Nat) (a28 : Nat) (a29 : Nat) (a30 : Nat) (a31 : Nat) (a32 : Nat) (a33 : Nat) (a34 : Nat) (a35 : Nat) (a36 : Nat) (a37 : Nat) (a38 : Nat) (a39 : Nat) (H : Heap) (locs : List Loc) (ls : Array Slot) (hP : va_P z.1 classes [(a0, .inr (11, [.ref a4, .ref a5, .ref a6, .ref a7, .ref a8, .ref a9, .ref a10, .ref a11, .ref a12, .ref a13, .int 0, .int 0, .ref a14, .int 0])), (a8, .inr (3, [.ref a4, .ref a15, .int 0, .int 0, .ref a16, .ref a17, .ref a18, .ref a19, .ref a20, .ref a21, .ref a22, .ref a23, .ref a24, .ref a25, .ref a26])), (a15, .inl (z.2 4, 21, .inr (.inr (.inr (.inr (fun _ => none)))))), (a1, .inr (18, [.ref a27, .ref a28, .int 0, .ref a29, .int 0, .ref a30, .int 0, .null, .int 0, .null, .long 0, .int 0, .null])), (a27, .inr (17, [.int 0, .ref a31, .ref a32, .int 0, .ref a33, .ref a34, .ref a35, .null, .null, .int 0, .ref a36, .ref a37, .ref a38, .int 0, .ref a39, .int 1]))] H) (hD : va_D A [(a0, .inr (11, [.ref a4, .ref a5, .ref a6, .ref a7, .ref a8, .ref a9, .ref a10, .ref a11, .ref a12, .ref a13, .int 0, .int 0, .ref a14, .int 0])), (a8, .inr (3, [.ref a4, .ref a15, .int 0, .int 0, .ref a16, .ref a17, .ref a18, .ref a19, .ref a20, .ref a21, .ref a22, .ref a23, .ref a24, .ref a25, .ref a26])), (a15, .inl (z.2 4, 21, .inr (.inr (.inr (.inr (fun _ => none)))))), (a1, .inr (18, [.ref a27, .ref a28, .int 0, .ref a29, .int 0, .ref a30, .int 0, .null, .int 0, .null, .long 0, .int 0, .null])), (a27, .inr (17, [.int 0, .ref a31, .ref a32, .int 0, .ref a33, .ref a34, .ref a35, .null, .null, .int 0, .ref a36, .ref a37, .ref a38, .int 0, .ref a39, .int 1]))]) (hS : va_S A s.heap H locs) (hl : lv_has ls 9 [(0, .ref b), (1, .ref a0), (2, .ref a1), (3, .ref a2), (4, .ref a3), (5, .int 0)]) : W p l e room_1 s m #[Value.ref b] below meth c H locs 265 8866 Q (F0 m 44 ls [.int 16]) := by
  refine lv_tableIn (tgt := 1285) hx hb d_law_44 (by decide +kernel) (by decide +kernel) rfl (by decide) ?_
  refine lv_aload_n hx hb d_law_1285 rfl (lv_at hl 1 rfl) ?_
  refine kV (As := []) (rest := []) (wr := [(a1, .inr (18, [.ref a27, .ref a28, .int 0, .ref a29, .int 0, .ref a30, .int 0, .null, .int 0, .null, .long 0, .int 0, .null])), (a27, .inr (17, [.int 0, .ref a31, .ref a32, .int 0, .ref a33, .ref a34, .ref a35, .null, .null, .int 0, .ref a36, .ref a37, .ref a38, .int 0, .ref a39, .int 1]))]) (c246_B_quota l z a0 a4 a5 a6 a7 a8 a9 a10 a11 a12 a13 a14 a15 a16 a17 a18 a19 a20 a21 a22 a23 a24 a25 a26) hx hb hml hown hts w_460 w_457 w_458 w_459 w_1 md_689494 ⟨Nat.le_of_ble_eq_true rfl, Nat.le_of_ble_eq_true rfl⟩ hG hZ hP hD hS hA 0 rfl rfl rfl [0, 1, 2] [3, 4] rfl rfl rfl rfl rfl hl.1 rfl (Nat.le_of_ble_eq_true rfl) d_law_1286 ⟨Nat.le_of_ble_eq_true rfl, Nat.le_of_ble_eq_true rfl⟩ (fun u0 H locs hP hD hS => ?_)
  have hP : va_P z.1 classes [(a1, .inr (18, [.ref a27, .ref a28, .int 0, .ref a29, .int 0, .ref a30, .int 0, .null, .int 0, .null, .long 0, .int 0, .null])), (a27, .inr (17, [.int 0, .ref a31, .ref a32, .int 0, .ref a33, .ref a34, .ref a35, .null, .null, .int 0, .ref a36, .ref a37, .ref a38, .int 0, .ref a39, .int 1])), (a0, .inr (11, [.ref a4, .ref a5, .ref a6, .ref a7, .ref a8, .ref a9, .ref a10, .ref a11, .ref a12, .ref a13, .int 0, .int 0, .ref a14, .int 0])), (a8, .inr (3, [.ref a4, .ref a15, .int 0, .int 0, .ref a16, .ref a17, .ref a18, .ref a19, .ref a20, .ref a21, .ref a22, .ref a23, .ref a24, .ref a25, .ref a26])), (a15, .inl (z.2 4, 21, .inr (.inr (.inr (.inr (fun _ => none))))))] H := hP
  have hD : va_D A [(a1, .inr (18, [.ref a27, .ref a28, .int 0, .ref a29, .int 0, .ref a30, .int 0, .null, .int 0, .null, .long 0, .int 0, .null])), (a27, .inr (17, [.int 0, .ref a31, .ref a32, .int 0, .ref a33, .ref a34, .ref a35, .null, .null, .int 0, .ref a36, .ref a37, .ref a38, .int 0, .ref a39, .int 1])), (a0, .inr (11, [.ref a4, .ref a5, .ref a6, .ref a7, .ref a8, .ref a9, .ref a10, .ref a11, .ref a12, .ref a13, .int 0, .int 0, .ref a14, .int 0])), (a8, .inr (3, [.ref a4, .ref a15, .int 0, .int 0, .ref a16, .ref a17, .ref a18, .ref a19, .ref a20, .ref a21, .ref a22, .ref a23, .ref a24, .ref a25, .ref a26])), (a15, .inl (z.2 4, 21, .inr (.inr (.inr (.inr (fun _ => none))))))] := hD
  refine W.eq (g2 := F0 m 1289 ls [.int (-1)]) rfl ?_
  refine lv_aload_n hx hb d_law_1289 rfl (lv_at hl 2 rfl) ?_
  refine kV (As := []) (rest := [.int (-1)]) (wr := [(a0, .inr (11, [.ref a4, .ref a5, .ref a6, .ref a7, .ref a8, .ref a9, .ref a10, .ref a11, .ref a12, .ref a13, .int 0, .int 0, .ref a14, .int 0])), (a8, .inr (3, [.ref a4, .ref a15, .int 0, .int 0, .ref a16, .ref a17, .ref a18, .ref a19, .ref a20, .ref a21, .ref a22, .ref a23, .ref a24, .ref a25, .ref a26])), (a15, .inl (z.2 4, 21, .inr (.inr (.inr (.inr (fun _ => none))))))]) (c247_BModel_quota l z a1 a27 a28 a29 a30 a31 a32 a33 a34 a35 a36 a37 a38 a39) hx hb hml hown hts w_2159 w_2156 w_2157 w_2158 w_12 md_bd0a5b ⟨Nat.le_of_ble_eq_true rfl, Nat.le_of_ble_eq_true rfl⟩ hG hZ hP hD hS hA 0 rfl rfl rfl [0, 1] [2, 3, 4] rfl rfl rfl rfl rfl hl.1 rfl (Nat.le_of_ble_eq_true rfl) d_law_1290 ⟨Nat.le_of_ble_eq_true rfl, Nat.le_of_ble_eq_true rfl⟩ (fun u1 H locs hP hD hS => ?_)
  have hP : va_P z.1 classes [(a0, .inr (11, [.ref a4, .ref a5, .ref a6, .ref a7, .ref a8, .ref a9, .ref a10, .ref a11, .ref a12, .ref a13, .int 0, .int 0, .ref a14, .int 0])), (a8, .inr (3, [.ref a4, .ref a15, .int 0, .int 0, .ref a16, .ref a17, .ref a18, .ref a19, .ref a20, .ref a21, .ref a22, .ref a23, .ref a24, .ref a25, .ref a26])), (a15, .inl (z.2 4, 21, .inr (.inr (.inr (.inr (fun _ => none)))))), (a1, .inr (18, [.ref a27, .ref a28, .int 0, .ref a29, .int 0, .ref a30, .int 0, .null, .int 0, .null, .long 0, .int 0, .null])), (a27, .inr (17, [.int 0, .ref a31, .ref a32, .int 0, .ref a33, .ref a34, .ref a35, .null, .null, .int 0, .ref a36, .ref a37, .ref a38, .int 0, .ref a39, .int 1]))] H := hP
  have hD : va_D A [(a0, .inr (11, [.ref a4, .ref a5, .ref a6, .ref a7, .ref a8, .ref a9, .ref a10, .ref a11, .ref a12, .ref a13, .int 0, .int 0, .ref a14, .int 0])), (a8, .inr (3, [.ref a4, .ref a15, .int 0, .int 0, .ref a16, .ref a17, .ref a18, .ref a19, .ref a20, .ref a21, .ref a22, .ref a23, .ref a24, .ref a25, .ref a26])), (a15, .inl (z.2 4, 21, .inr (.inr (.inr (.inr (fun _ => none)))))), (a1, .inr (18, [.ref a27, .ref a28, .int 0, .ref a29, .int 0, .ref a30, .int 0, .null, .int 0, .null, .long 0, .int 0, .null])), (a27, .inr (17, [.int 0, .ref a31, .ref a32, .int 0, .ref a33, .ref a34, .ref a35, .null, .null, .int 0, .ref a36, .ref a37, .ref a38, .int 0, .ref a39, .int 1]))] := hD
  refine W.eq (g2 := F0 m 1293 ls [.int (-1), .int (-1)]) rfl ?_
  refine lv_icmp_eq (tgt := 3072) hx hb d_law_1293 (by decide) (fun _ => ?_) (fun c9 => absurd (by decide +kernel) c9)
  refine W.widen (k := 600002) (n := 7302232) (Nat.le_of_ble_eq_true rfl) (Nat.le_of_ble_eq_true rfl) ?_
  exact ht H locs ls hS (lv_sub hl [0, 5] rfl)
set_option maxRecDepth 100000 in
set_option maxHeartbeats 4000000 in
theorem L17_0 (l : Launch) (hl0 : l.stackTraces = false) (z : Zz) {p : Program} {e : Env} {s : State} {m : MethodId} {below : List Frame} {meth : Method} {c : Code} {A : Nat → Prop} {b : Nat} {xs : Nat → Int32} {Q : State → Prop} (hx : p.tables.exec = Jvm.exec) (hb : c.code = code) (hml : c.maxLocals = 9) (hts : ∀ w ∈ WG, w.before #[Value.ref b] s = true) (hown : s.vm.findClass "BallothallLaw" = some m.cls) (hA : ∀ q, s.heap.size ≤ q → A q) (hG : KG z s) (hZ : XZ A s) (hX : va_X b 4 xs s s.heap) (hbl : b < s.heap.size) (hbA : ¬ A b) (ht : ∀ (H : Heap) (locs : List Loc) (ls : Array Slot), va_S A s.heap H locs → lv_has ls 9 [(0, .ref b), (5, .int 0)] → W p l e room_1 s m #[Value.ref b] below meth c H locs 600002 7302232 Q (F0 m 3072 ls [])) (a0 : Nat) (a1 : Nat) (a2 : Nat) (a3 : Nat) (a4 : Nat) (a5 : Nat) (a6 : Nat) (a7 : Nat) (a8 : Nat) (a9 : Nat) (a10 : Nat) (a11 : Nat) (a12 : Nat) (a13 : Nat) (a14 : Nat) (a15 : Nat) (a16 : Nat) (a17 : Nat) (a18 : Nat) (a19 : Nat) (a20 : Nat) (a21 : Nat) (a22 : Nat) (a23 : Nat) (a24 : Nat) (a25 : Nat) (a26 : Nat) (a27 : Nat) (a28 : Nat) (a29 : Nat) (a30 : Nat) (a31 : Nat) (a32 : Nat) (a33 : Nat) (a34 : Nat) (a35 : Nat) (a36 : Nat) (a37 : Nat) (a38 : Nat) (a39 : Nat) (H : Heap) (locs : List Loc) (ls : Array Slot) (hP : va_P z.1 classes [(a0, .inr (11, [.ref a4, .ref a5, .ref a6, .ref a7, .ref a8, .ref a9, .ref a10, .ref a11, .ref a12, .ref a13, .int 0, .int 0, .ref a14, .int 0])), (a8, .inr (3, [.ref a4, .ref a15, .int 0, .int 0, .ref a16, .ref a17, .ref a18, .ref a19, .ref a20, .ref a21, .ref a22, .ref a23, .ref a24, .ref a25, .ref a26])), (a15, .inl (z.2 4, 21, .inr (.inr (.inr (.inr (fun _ => none)))))), (a1, .inr (18, [.ref a27, .ref a28, .int 0, .ref a29, .int 0, .ref a30, .int 0, .null, .int 0, .null, .long 0, .int 0, .null])), (a27, .inr (17, [.int 0, .ref a31, .ref a32, .int 0, .ref a33, .ref a34, .ref a35, .null, .null, .int 0, .ref a36, .ref a37, .ref a38, .int 0, .ref a39, .int 1]))] H) (hD : va_D A [(a0, .inr (11, [.ref a4, .ref a5, .ref a6, .ref a7, .ref a8, .ref a9, .ref a10, .ref a11, .ref a12, .ref a13, .int 0, .int 0, .ref a14, .int 0])), (a8, .inr (3, [.ref a4, .ref a15, .int 0, .int 0, .ref a16, .ref a17, .ref a18, .ref a19, .ref a20, .ref a21, .ref a22, .ref a23, .ref a24, .ref a25, .ref a26])), (a15, .inl (z.2 4, 21, .inr (.inr (.inr (.inr (fun _ => none)))))), (a1, .inr (18, [.ref a27, .ref a28, .int 0, .ref a29, .int 0, .ref a30, .int 0, .null, .int 0, .null, .long 0, .int 0, .null])), (a27, .inr (17, [.int 0, .ref a31, .ref a32, .int 0, .ref a33, .ref a34, .ref a35, .null, .null, .int 0, .ref a36, .ref a37, .ref a38, .int 0, .ref a39, .int 1]))]) (hS : va_S A s.heap H locs) (hl : lv_has ls 9 [(0, .ref b), (1, .ref a0), (2, .ref a1), (3, .ref a2), (4, .ref a3), (5, .int 0)]) : W p l e room_1 s m #[Value.ref b] below meth c H locs 265 8866 Q (F0 m 44 ls [.int 17]) := by
  refine lv_tableIn (tgt := 1298) hx hb d_law_44 (by decide +kernel) (by decide +kernel) rfl (by decide) ?_
  refine lv_aload_n hx hb d_law_1298 rfl (lv_at hl 1 rfl) ?_
  refine lv_aload_n hx hb d_law_1299 rfl (lv_at hl 0 rfl) ?_
  refine lv_iload hx hb d_law_1300 (lv_at hl 5 rfl) ?_
  refine lv_iconst (v := 1) hx hb d_law_1302 (by decide +kernel) ?_
  refine lv_iadd hx hb d_law_1303 ?_
  refine nrm (x1 := 1) (by decide +kernel) ?_
  refine va_sld hx hb hX hbl hbA hS (hin4 (i := 1) rfl) d_law_1304 ?_
  refine nrm (x1 := xs 1) rfl ?_
  refine lv_aload_n hx hb d_law_1305 rfl (lv_at hl 3 rfl) ?_
  refine kH (As := [.ref a0, .int (xs 1), .ref a2]) (rest := []) (wr := [(a1, .inr (18, [.ref a27, .ref a28, .int 0, .ref a29, .int 0, .ref a30, .int 0, .null, .int 0, .null, .long 0, .int 0, .null])), (a27, .inr (17, [.int 0, .ref a31, .ref a32, .int 0, .ref a33, .ref a34, .ref a35, .null, .null, .int 0, .ref a36, .ref a37, .ref a38, .int 0, .ref a39, .int 1]))]) (c249_BLaw_electedAt l z hl0 a0 a2 a4 a5 a6 a7 a8 a9 a10 a11 a12 a13 a14 a15 a16 a17 a18 a19 a20 a21 a22 a23 a24 a25 a26 (xs 1)) hx hb hml hown hts w_1279 w_1277 w_1278 w_0 md_43cf29 ⟨Nat.le_of_ble_eq_true rfl, Nat.le_of_ble_eq_true rfl⟩ hG hZ hP hD hS hA [0, 1, 2] [3, 4] rfl rfl rfl rfl rfl hl.1 rfl (Nat.le_of_ble_eq_true rfl) d_law_1306 ⟨Nat.le_of_ble_eq_true rfl, Nat.le_of_ble_eq_true rfl⟩ (fun u0 H locs hP hD hS => ?_)
  have hP : va_P z.1 classes [(a1, .inr (18, [.ref a27, .ref a28, .int 0, .ref a29, .int 0, .ref a30, .int 0, .null, .int 0, .null, .long 0, .int 0, .null])), (a27, .inr (17, [.int 0, .ref a31, .ref a32, .int 0, .ref a33, .ref a34, .ref a35, .null, .null, .int 0, .ref a36, .ref a37, .ref a38, .int 0, .ref a39, .int 1]))] H := hP
  have hD : va_D A [(a1, .inr (18, [.ref a27, .ref a28, .int 0, .ref a29, .int 0, .ref a30, .int 0, .null, .int 0, .null, .long 0, .int 0, .null])), (a27, .inr (17, [.int 0, .ref a31, .ref a32, .int 0, .ref a33, .ref a34, .ref a35, .null, .null, .int 0, .ref a36, .ref a37, .ref a38, .int 0, .ref a39, .int 1]))] := hD
  refine W.eq (g2 := F0 m 1309 ls [.int 1]) rfl ?_
  refine lv_istore (lv' := [(6, .int 1), (0, .ref b), (1, .ref a0), (2, .ref a1), (3, .ref a2), (4, .ref a3), (5, .int 0)]) hx hb d_law_1309 hl (by decide) rfl (fun ls hl => ?_)
  refine lv_aload_n hx hb d_law_1311 rfl (lv_at hl 3 rfl) ?_
  refine lv_aload_n hx hb d_law_1312 rfl (lv_at hl 1 rfl) ?_
  refine lv_iload hx hb d_law_1313 (lv_at hl 6 rfl) ?_
  refine lv_iconst (v := 1) hx hb d_law_1315 (by decide +kernel) ?_
  refine lv_iadd hx hb d_law_1316 ?_
  refine nrm (x1 := 1) (by decide +kernel) ?_
  refine va_sld hx hb hX hbl hbA hS (hin4 (i := 1) rfl) d_law_1317 ?_
  refine nrm (x1 := xs 1) rfl ?_
  refine kV (As := [.int (xs 1)]) (rest := []) (wr := []) (c250_BModel_electedAt l z a1 a27 a28 a29 a30 a31 a32 a33 a34 a35 a36 a37 a38 a39 (xs 1)) hx hb hml hown hts w_2163 w_2160 w_2161 w_2162 w_12 md_9c79a6 ⟨Nat.le_of_ble_eq_true rfl, Nat.le_of_ble_eq_true rfl⟩ hG hZ hP hD hS hA 0 rfl rfl rfl [0, 1] [] rfl rfl rfl rfl rfl hl.1 rfl (Nat.le_of_ble_eq_true rfl) d_law_1318 ⟨Nat.le_of_ble_eq_true rfl, Nat.le_of_ble_eq_true rfl⟩ (fun u1 H locs hP hD hS => ?_)
  have hP : va_P z.1 classes [(a1, .inr (18, [.ref a27, .ref a28, .int 0, .ref a29, .int 0, .ref a30, .int 1, .null, .int 0, .null, .long 0, .int 0, .null])), (a27, .inr (17, [.int 0, .ref a31, .ref a32, .int 0, .ref a33, .ref a34, .ref a35, .null, .null, .int 0, .ref a36, .ref a37, .ref a38, .int 0, .ref a39, .int 1]))] H := hP
  have hD : va_D A [(a1, .inr (18, [.ref a27, .ref a28, .int 0, .ref a29, .int 0, .ref a30, .int 1, .null, .int 0, .null, .long 0, .int 0, .null])), (a27, .inr (17, [.int 0, .ref a31, .ref a32, .int 0, .ref a33, .ref a34, .ref a35, .null, .null, .int 0, .ref a36, .ref a37, .ref a38, .int 0, .ref a39, .int 1]))] := hD
  refine W.eq (g2 := F0 m 1321 ls [.int 0]) rfl ?_
  refine lv_istore (lv' := [(7, .int 0), (6, .int 1), (0, .ref b), (1, .ref a0), (2, .ref a1), (3, .ref a2), (4, .ref a3), (5, .int 0)]) hx hb d_law_1321 hl (by decide) rfl (fun ls hl => ?_)
  refine lv_aload_n hx hb d_law_1323 rfl (lv_at hl 4 rfl) ?_
  refine kV (As := []) (rest := []) (wr := [(a27, .inr (17, [.int 0, .ref a31, .ref a32, .int 0, .ref a33, .ref a34, .ref a35, .null, .null, .int 0, .ref a36, .ref a37, .ref a38, .int 0, .ref a39, .int 1]))]) (c33_BModel_thrown l z a1 a27 a28 a29 a30) hx hb hml hown hts w_1688 w_1685 w_1686 w_1687 w_12 md_c48e0f ⟨Nat.le_of_ble_eq_true rfl, Nat.le_of_ble_eq_true rfl⟩ hG hZ hP hD hS hA 0 rfl rfl rfl [0] [1] rfl rfl rfl rfl rfl hl.1 rfl (Nat.le_of_ble_eq_true rfl) d_law_1324 ⟨Nat.le_of_ble_eq_true rfl, Nat.le_of_ble_eq_true rfl⟩ (fun u2 H locs hP hD hS => ?_)
  have hP : va_P z.1 classes [(a27, .inr (17, [.int 0, .ref a31, .ref a32, .int 0, .ref a33, .ref a34, .ref a35, .null, .null, .int 0, .ref a36, .ref a37, .ref a38, .int 0, .ref a39, .int 1])), (a1, .inr (18, [.ref a27, .ref a28, .int 0, .ref a29, .int 0, .ref a30, .int 1, .null, .int 0, .null, .long 0, .int 0, .null]))] H := hP
  have hD : va_D A [(a27, .inr (17, [.int 0, .ref a31, .ref a32, .int 0, .ref a33, .ref a34, .ref a35, .null, .null, .int 0, .ref a36, .ref a37, .ref a38, .int 0, .ref a39, .int 1])), (a1, .inr (18, [.ref a27, .ref a28, .int 0, .ref a29, .int 0, .ref a30, .int 1, .null, .int 0, .null, .long 0, .int 0, .null]))] := hD
  refine W.eq (g2 := F0 m 1327 ls [.int 1]) rfl ?_
  refine lv_iload hx hb d_law_1327 (lv_at hl 1 rfl) ?_
  refine lv_icmp_eq (tgt := 1334) hx hb d_law_1329 (by decide) (fun _ => ?_) (fun c9 => absurd (by decide +kernel) c9)
  refine lv_iload hx hb d_law_1334 (lv_at hl 1 rfl) ?_
  refine lv_if_ne (tgt := 1351) hx hb d_law_1336 (by decide) (fun _ => ?_) (fun c9 => absurd c9 (by decide +kernel))
  refine lv_goto (tgt := 3072) hx hb d_law_1351 (by decide) ?_
  refine W.widen (k := 600002) (n := 7302232) (Nat.le_of_ble_eq_true rfl) (Nat.le_of_ble_eq_true rfl) ?_
  exact ht H locs ls hS (lv_sub hl [2, 7] rfl)
set_option maxRecDepth 100000 in
set_option maxHeartbeats 4000000 in
theorem L18_0 (l : Launch) (hl0 : l.stackTraces = false) (z : Zz) {p : Program} {e : Env} {s : State} {m : MethodId} {below : List Frame} {meth : Method} {c : Code} {A : Nat → Prop} {b : Nat} {xs : Nat → Int32} {Q : State → Prop} (hx : p.tables.exec = Jvm.exec) (hb : c.code = code) (hml : c.maxLocals = 9) (hts : ∀ w ∈ WG, w.before #[Value.ref b] s = true) (hown : s.vm.findClass "BallothallLaw" = some m.cls) (hA : ∀ q, s.heap.size ≤ q → A q) (hG : KG z s) (hZ : XZ A s) (hX : va_X b 4 xs s s.heap) (hbl : b < s.heap.size) (hbA : ¬ A b) (ht : ∀ (H : Heap) (locs : List Loc) (ls : Array Slot), va_S A s.heap H locs → lv_has ls 9 [(0, .ref b), (5, .int 0)] → W p l e room_1 s m #[Value.ref b] below meth c H locs 600002 7302232 Q (F0 m 3072 ls [])) (a0 : Nat) (a1 : Nat) (a2 : Nat) (a3 : Nat) (a4 : Nat) (a5 : Nat) (a6 : Nat) (a7 : Nat) (a8 : Nat) (a9 : Nat) (a10 : Nat) (a11 : Nat) (a12 : Nat) (a13 : Nat) (a14 : Nat) (a15 : Nat) (a16 : Nat) (a17 : Nat) (a18 : Nat) (a19 : Nat) (a20 : Nat) (a21 : Nat) (a22 : Nat) (a23 : Nat) (a24 : Nat) (a25 : Nat) (a26 : Nat) (a27 : Nat) (a28 : Nat) (a29 : Nat) (a30 : Nat) (a31 : Nat) (a32 : Nat) (a33 : Nat) (a34 : Nat) (a35 : Nat) (a36 : Nat) (a37 : Nat) (a38 : Nat) (a39 : Nat) (H : Heap) (locs : List Loc) (ls : Array Slot) (hP : va_P z.1 classes [(a0, .inr (11, [.ref a4, .ref a5, .ref a6, .ref a7, .ref a8, .ref a9, .ref a10, .ref a11, .ref a12, .ref a13, .int 0, .int 0, .ref a14, .int 0])), (a8, .inr (3, [.ref a4, .ref a15, .int 0, .int 0, .ref a16, .ref a17, .ref a18, .ref a19, .ref a20, .ref a21, .ref a22, .ref a23, .ref a24, .ref a25, .ref a26])), (a15, .inl (z.2 4, 21, .inr (.inr (.inr (.inr (fun _ => none)))))), (a1, .inr (18, [.ref a27, .ref a28, .int 0, .ref a29, .int 0, .ref a30, .int 0, .null, .int 0, .null, .long 0, .int 0, .null])), (a27, .inr (17, [.int 0, .ref a31, .ref a32, .int 0, .ref a33, .ref a34, .ref a35, .null, .null, .int 0, .ref a36, .ref a37, .ref a38, .int 0, .ref a39, .int 1]))] H) (hD : va_D A [(a0, .inr (11, [.ref a4, .ref a5, .ref a6, .ref a7, .ref a8, .ref a9, .ref a10, .ref a11, .ref a12, .ref a13, .int 0, .int 0, .ref a14, .int 0])), (a8, .inr (3, [.ref a4, .ref a15, .int 0, .int 0, .ref a16, .ref a17, .ref a18, .ref a19, .ref a20, .ref a21, .ref a22, .ref a23, .ref a24, .ref a25, .ref a26])), (a15, .inl (z.2 4, 21, .inr (.inr (.inr (.inr (fun _ => none)))))), (a1, .inr (18, [.ref a27, .ref a28, .int 0, .ref a29, .int 0, .ref a30, .int 0, .null, .int 0, .null, .long 0, .int 0, .null])), (a27, .inr (17, [.int 0, .ref a31, .ref a32, .int 0, .ref a33, .ref a34, .ref a35, .null, .null, .int 0, .ref a36, .ref a37, .ref a38, .int 0, .ref a39, .int 1]))]) (hS : va_S A s.heap H locs) (hl : lv_has ls 9 [(0, .ref b), (1, .ref a0), (2, .ref a1), (3, .ref a2), (4, .ref a3), (5, .int 0)]) : W p l e room_1 s m #[Value.ref b] below meth c H locs 265 8866 Q (F0 m 44 ls [.int 18]) := by
  refine lv_tableIn (tgt := 1354) hx hb d_law_44 (by decide +kernel) (by decide +kernel) rfl (by decide) ?_
  refine lv_aload_n hx hb d_law_1354 rfl (lv_at hl 1 rfl) ?_
  refine lv_aload_n hx hb d_law_1355 rfl (lv_at hl 0 rfl) ?_
  refine lv_iload hx hb d_law_1356 (lv_at hl 5 rfl) ?_
  refine lv_iconst (v := 1) hx hb d_law_1358 (by decide +kernel) ?_
  refine lv_iadd hx hb d_law_1359 ?_
  refine nrm (x1 := 1) (by decide +kernel) ?_
  refine va_sld hx hb hX hbl hbA hS (hin4 (i := 1) rfl) d_law_1360 ?_
  refine nrm (x1 := xs 1) rfl ?_
  refine lv_aload_n hx hb d_law_1361 rfl (lv_at hl 3 rfl) ?_
  refine kH (As := [.ref a0, .int (xs 1), .ref a2]) (rest := []) (wr := [(a1, .inr (18, [.ref a27, .ref a28, .int 0, .ref a29, .int 0, .ref a30, .int 0, .null, .int 0, .null, .long 0, .int 0, .null])), (a27, .inr (17, [.int 0, .ref a31, .ref a32, .int 0, .ref a33, .ref a34, .ref a35, .null, .null, .int 0, .ref a36, .ref a37, .ref a38, .int 0, .ref a39, .int 1]))]) (c252_BLaw_excludedAt l z hl0 a0 a2 a4 a5 a6 a7 a8 a9 a10 a11 a12 a13 a14 a15 a16 a17 a18 a19 a20 a21 a22 a23 a24 a25 a26 (xs 1)) hx hb hml hown hts w_1287 w_1285 w_1286 w_0 md_01fe59 ⟨Nat.le_of_ble_eq_true rfl, Nat.le_of_ble_eq_true rfl⟩ hG hZ hP hD hS hA [0, 1, 2] [3, 4] rfl rfl rfl rfl rfl hl.1 rfl (Nat.le_of_ble_eq_true rfl) d_law_1362 ⟨Nat.le_of_ble_eq_true rfl, Nat.le_of_ble_eq_true rfl⟩ (fun u0 H locs hP hD hS => ?_)
  have hP : va_P z.1 classes [(a1, .inr (18, [.ref a27, .ref a28, .int 0, .ref a29, .int 0, .ref a30, .int 0, .null, .int 0, .null, .long 0, .int 0, .null])), (a27, .inr (17, [.int 0, .ref a31, .ref a32, .int 0, .ref a33, .ref a34, .ref a35, .null, .null, .int 0, .ref a36, .ref a37, .ref a38, .int 0, .ref a39, .int 1]))] H := hP
  have hD : va_D A [(a1, .inr (18, [.ref a27, .ref a28, .int 0, .ref a29, .int 0, .ref a30, .int 0, .null, .int 0, .null, .long 0, .int 0, .null])), (a27, .inr (17, [.int 0, .ref a31, .ref a32, .int 0, .ref a33, .ref a34, .ref a35, .null, .null, .int 0, .ref a36, .ref a37, .ref a38, .int 0, .ref a39, .int 1]))] := hD
  refine W.eq (g2 := F0 m 1365 ls [.int 1]) rfl ?_
  refine lv_istore (lv' := [(6, .int 1), (0, .ref b), (1, .ref a0), (2, .ref a1), (3, .ref a2), (4, .ref a3), (5, .int 0)]) hx hb d_law_1365 hl (by decide) rfl (fun ls hl => ?_)
  refine lv_aload_n hx hb d_law_1367 rfl (lv_at hl 3 rfl) ?_
  refine lv_aload_n hx hb d_law_1368 rfl (lv_at hl 1 rfl) ?_
  refine lv_iload hx hb d_law_1369 (lv_at hl 6 rfl) ?_
  refine lv_iconst (v := 1) hx hb d_law_1371 (by decide +kernel) ?_
  refine lv_iadd hx hb d_law_1372 ?_
  refine nrm (x1 := 1) (by decide +kernel) ?_
  refine va_sld hx hb hX hbl hbA hS (hin4 (i := 1) rfl) d_law_1373 ?_
  refine nrm (x1 := xs 1) rfl ?_
  refine kV (As := [.int (xs 1)]) (rest := []) (wr := []) (c253_BModel_excludedAt l z a1 a27 a28 a29 a30 a31 a32 a33 a34 a35 a36 a37 a38 a39 (xs 1)) hx hb hml hown hts w_2167 w_2164 w_2165 w_2166 w_12 md_21ec4b ⟨Nat.le_of_ble_eq_true rfl, Nat.le_of_ble_eq_true rfl⟩ hG hZ hP hD hS hA 0 rfl rfl rfl [0, 1] [] rfl rfl rfl rfl rfl hl.1 rfl (Nat.le_of_ble_eq_true rfl) d_law_1374 ⟨Nat.le_of_ble_eq_true rfl, Nat.le_of_ble_eq_true rfl⟩ (fun u1 H locs hP hD hS => ?_)
  have hP : va_P z.1 classes [(a1, .inr (18, [.ref a27, .ref a28, .int 0, .ref a29, .int 0, .ref a30, .int 1, .null, .int 0, .null, .long 0, .int 0, .null])), (a27, .inr (17, [.int 0, .ref a31, .ref a32, .int 0, .ref a33, .ref a34, .ref a35, .null, .null, .int 0, .ref a36, .ref a37, .ref a38, .int 0, .ref a39, .int 1]))] H := hP
  have hD : va_D A [(a1, .inr (18, [.ref a27, .ref a28, .int 0, .ref a29, .int 0, .ref a30, .int 1, .null, .int 0, .null, .long 0, .int 0, .null])), (a27, .inr (17, [.int 0, .ref a31, .ref a32, .int 0, .ref a33, .ref a34, .ref a35, .null, .null, .int 0, .ref a36, .ref a37, .ref a38, .int 0, .ref a39, .int 1]))] := hD
  refine W.eq (g2 := F0 m 1377 ls [.int 0]) rfl ?_
  refine lv_istore (lv' := [(7, .int 0), (6, .int 1), (0, .ref b), (1, .ref a0), (2, .ref a1), (3, .ref a2), (4, .ref a3), (5, .int 0)]) hx hb d_law_1377 hl (by decide) rfl (fun ls hl => ?_)
  refine lv_aload_n hx hb d_law_1379 rfl (lv_at hl 4 rfl) ?_
  refine kV (As := []) (rest := []) (wr := [(a27, .inr (17, [.int 0, .ref a31, .ref a32, .int 0, .ref a33, .ref a34, .ref a35, .null, .null, .int 0, .ref a36, .ref a37, .ref a38, .int 0, .ref a39, .int 1]))]) (c33_BModel_thrown l z a1 a27 a28 a29 a30) hx hb hml hown hts w_1688 w_1685 w_1686 w_1687 w_12 md_c48e0f ⟨Nat.le_of_ble_eq_true rfl, Nat.le_of_ble_eq_true rfl⟩ hG hZ hP hD hS hA 0 rfl rfl rfl [0] [1] rfl rfl rfl rfl rfl hl.1 rfl (Nat.le_of_ble_eq_true rfl) d_law_1380 ⟨Nat.le_of_ble_eq_true rfl, Nat.le_of_ble_eq_true rfl⟩ (fun u2 H locs hP hD hS => ?_)
  have hP : va_P z.1 classes [(a27, .inr (17, [.int 0, .ref a31, .ref a32, .int 0, .ref a33, .ref a34, .ref a35, .null, .null, .int 0, .ref a36, .ref a37, .ref a38, .int 0, .ref a39, .int 1])), (a1, .inr (18, [.ref a27, .ref a28, .int 0, .ref a29, .int 0, .ref a30, .int 1, .null, .int 0, .null, .long 0, .int 0, .null]))] H := hP
  have hD : va_D A [(a27, .inr (17, [.int 0, .ref a31, .ref a32, .int 0, .ref a33, .ref a34, .ref a35, .null, .null, .int 0, .ref a36, .ref a37, .ref a38, .int 0, .ref a39, .int 1])), (a1, .inr (18, [.ref a27, .ref a28, .int 0, .ref a29, .int 0, .ref a30, .int 1, .null, .int 0, .null, .long 0, .int 0, .null]))] := hD
  refine W.eq (g2 := F0 m 1383 ls [.int 1]) rfl ?_
  refine lv_iload hx hb d_law_1383 (lv_at hl 1 rfl) ?_
  refine lv_icmp_eq (tgt := 1390) hx hb d_law_1385 (by decide) (fun _ => ?_) (fun c9 => absurd (by decide +kernel) c9)
  refine lv_iload hx hb d_law_1390 (lv_at hl 1 rfl) ?_
  refine lv_if_ne (tgt := 1407) hx hb d_law_1392 (by decide) (fun _ => ?_) (fun c9 => absurd c9 (by decide +kernel))
  refine lv_goto (tgt := 3072) hx hb d_law_1407 (by decide) ?_
  refine W.widen (k := 600002) (n := 7302232) (Nat.le_of_ble_eq_true rfl) (Nat.le_of_ble_eq_true rfl) ?_
  exact ht H locs ls hS (lv_sub hl [2, 7] rfl)
set_option maxRecDepth 100000 in
set_option maxHeartbeats 4000000 in
theorem L19_0 (l : Launch) (hl0 : l.stackTraces = false) (z : Zz) {p : Program} {e : Env} {s : State} {m : MethodId} {below : List Frame} {meth : Method} {c : Code} {A : Nat → Prop} {b : Nat} {xs : Nat → Int32} {Q : State → Prop} (hx : p.tables.exec = Jvm.exec) (hb : c.code = code) (hml : c.maxLocals = 9) (hts : ∀ w ∈ WG, w.before #[Value.ref b] s = true) (hown : s.vm.findClass "BallothallLaw" = some m.cls) (hA : ∀ q, s.heap.size ≤ q → A q) (hG : KG z s) (hZ : XZ A s) (hX : va_X b 4 xs s s.heap) (hbl : b < s.heap.size) (hbA : ¬ A b) (ht : ∀ (H : Heap) (locs : List Loc) (ls : Array Slot), va_S A s.heap H locs → lv_has ls 9 [(0, .ref b), (5, .int 0)] → W p l e room_1 s m #[Value.ref b] below meth c H locs 600002 7302232 Q (F0 m 3072 ls [])) (a0 : Nat) (a1 : Nat) (a2 : Nat) (a3 : Nat) (a4 : Nat) (a5 : Nat) (a6 : Nat) (a7 : Nat) (a8 : Nat) (a9 : Nat) (a10 : Nat) (a11 : Nat) (a12 : Nat) (a13 : Nat) (a14 : Nat) (a15 : Nat) (a16 : Nat) (a17 : Nat) (a18 : Nat) (a19 : Nat) (a20 : Nat) (a21 : Nat) (a22 : Nat) (a23 : Nat) (a24 : Nat) (a25 : Nat) (a26 : Nat) (a27 : Nat) (a28 : Nat) (a29 : Nat) (a30 : Nat) (a31 : Nat) (a32 : Nat) (a33 : Nat) (a34 : Nat) (a35 : Nat) (a36 : Nat) (a37 : Nat) (a38 : Nat) (a39 : Nat) (H : Heap) (locs : List Loc) (ls : Array Slot) (hP : va_P z.1 classes [(a0, .inr (11, [.ref a4, .ref a5, .ref a6, .ref a7, .ref a8, .ref a9, .ref a10, .ref a11, .ref a12, .ref a13, .int 0, .int 0, .ref a14, .int 0])), (a8, .inr (3, [.ref a4, .ref a15, .int 0, .int 0, .ref a16, .ref a17, .ref a18, .ref a19, .ref a20, .ref a21, .ref a22, .ref a23, .ref a24, .ref a25, .ref a26])), (a15, .inl (z.2 4, 21, .inr (.inr (.inr (.inr (fun _ => none)))))), (a1, .inr (18, [.ref a27, .ref a28, .int 0, .ref a29, .int 0, .ref a30, .int 0, .null, .int 0, .null, .long 0, .int 0, .null])), (a27, .inr (17, [.int 0, .ref a31, .ref a32, .int 0, .ref a33, .ref a34, .ref a35, .null, .null, .int 0, .ref a36, .ref a37, .ref a38, .int 0, .ref a39, .int 1]))] H) (hD : va_D A [(a0, .inr (11, [.ref a4, .ref a5, .ref a6, .ref a7, .ref a8, .ref a9, .ref a10, .ref a11, .ref a12, .ref a13, .int 0, .int 0, .ref a14, .int 0])), (a8, .inr (3, [.ref a4, .ref a15, .int 0, .int 0, .ref a16, .ref a17, .ref a18, .ref a19, .ref a20, .ref a21, .ref a22, .ref a23, .ref a24, .ref a25, .ref a26])), (a15, .inl (z.2 4, 21, .inr (.inr (.inr (.inr (fun _ => none)))))), (a1, .inr (18, [.ref a27, .ref a28, .int 0, .ref a29, .int 0, .ref a30, .int 0, .null, .int 0, .null, .long 0, .int 0, .null])), (a27, .inr (17, [.int 0, .ref a31, .ref a32, .int 0, .ref a33, .ref a34, .ref a35, .null, .null, .int 0, .ref a36, .ref a37, .ref a38, .int 0, .ref a39, .int 1]))]) (hS : va_S A s.heap H locs) (hl : lv_has ls 9 [(0, .ref b), (1, .ref a0), (2, .ref a1), (3, .ref a2), (4, .ref a3), (5, .int 0)]) : W p l e room_1 s m #[Value.ref b] below meth c H locs 265 8866 Q (F0 m 44 ls [.int 19]) := by
  refine lv_tableIn (tgt := 1410) hx hb d_law_44 (by decide +kernel) (by decide +kernel) rfl (by decide) ?_
  refine lv_aload_n hx hb d_law_1410 rfl (lv_at hl 1 rfl) ?_
  refine kV (As := []) (rest := []) (wr := [(a1, .inr (18, [.ref a27, .ref a28, .int 0, .ref a29, .int 0, .ref a30, .int 0, .null, .int 0, .null, .long 0, .int 0, .null])), (a27, .inr (17, [.int 0, .ref a31, .ref a32, .int 0, .ref a33, .ref a34, .ref a35, .null, .null, .int 0, .ref a36, .ref a37, .ref a38, .int 0, .ref a39, .int 1]))]) (c254_B_steps l z a0 a4 a5 a6 a7 a8 a9 a10 a11 a12 a13 a14 a15 a16 a17 a18 a19 a20 a21 a22 a23 a24 a25 a26) hx hb hml hown hts w_468 w_465 w_466 w_467 w_1 md_1e5622 ⟨Nat.le_of_ble_eq_true rfl, Nat.le_of_ble_eq_true rfl⟩ hG hZ hP hD hS hA 0 rfl rfl rfl [0, 1, 2] [3, 4] rfl rfl rfl rfl rfl hl.1 rfl (Nat.le_of_ble_eq_true rfl) d_law_1411 ⟨Nat.le_of_ble_eq_true rfl, Nat.le_of_ble_eq_true rfl⟩ (fun u0 H locs hP hD hS => ?_)
  have hP : va_P z.1 classes [(a1, .inr (18, [.ref a27, .ref a28, .int 0, .ref a29, .int 0, .ref a30, .int 0, .null, .int 0, .null, .long 0, .int 0, .null])), (a27, .inr (17, [.int 0, .ref a31, .ref a32, .int 0, .ref a33, .ref a34, .ref a35, .null, .null, .int 0, .ref a36, .ref a37, .ref a38, .int 0, .ref a39, .int 1])), (a0, .inr (11, [.ref a4, .ref a5, .ref a6, .ref a7, .ref a8, .ref a9, .ref a10, .ref a11, .ref a12, .ref a13, .int 0, .int 0, .ref a14, .int 0])), (a8, .inr (3, [.ref a4, .ref a15, .int 0, .int 0, .ref a16, .ref a17, .ref a18, .ref a19, .ref a20, .ref a21, .ref a22, .ref a23, .ref a24, .ref a25, .ref a26])), (a15, .inl (z.2 4, 21, .inr (.inr (.inr (.inr (fun _ => none))))))] H := hP
  have hD : va_D A [(a1, .inr (18, [.ref a27, .ref a28, .int 0, .ref a29, .int 0, .ref a30, .int 0, .null, .int 0, .null, .long 0, .int 0, .null])), (a27, .inr (17, [.int 0, .ref a31, .ref a32, .int 0, .ref a33, .ref a34, .ref a35, .null, .null, .int 0, .ref a36, .ref a37, .ref a38, .int 0, .ref a39, .int 1])), (a0, .inr (11, [.ref a4, .ref a5, .ref a6, .ref a7, .ref a8, .ref a9, .ref a10, .ref a11, .ref a12, .ref a13, .int 0, .int 0, .ref a14, .int 0])), (a8, .inr (3, [.ref a4, .ref a15, .int 0, .int 0, .ref a16, .ref a17, .ref a18, .ref a19, .ref a20, .ref a21, .ref a22, .ref a23, .ref a24, .ref a25, .ref a26])), (a15, .inl (z.2 4, 21, .inr (.inr (.inr (.inr (fun _ => none))))))] := hD
  refine W.eq (g2 := F0 m 1414 ls [.int 0]) rfl ?_
  refine lv_aload_n hx hb d_law_1414 rfl (lv_at hl 2 rfl) ?_
  refine kV (As := []) (rest := [.int 0]) (wr := [(a0, .inr (11, [.ref a4, .ref a5, .ref a6, .ref a7, .ref a8, .ref a9, .ref a10, .ref a11, .ref a12, .ref a13, .int 0, .int 0, .ref a14, .int 0])), (a8, .inr (3, [.ref a4, .ref a15, .int 0, .int 0, .ref a16, .ref a17, .ref a18, .ref a19, .ref a20, .ref a21, .ref a22, .ref a23, .ref a24, .ref a25, .ref a26])), (a15, .inl (z.2 4, 21, .inr (.inr (.inr (.inr (fun _ => none))))))]) (c255_BModel_steps l z a1 a27 a28 a29 a30 a31 a32 a33 a34 a35 a36 a37 a38 a39) hx hb hml hown hts w_2171 w_2168 w_2169 w_2170 w_12 md_f59513 ⟨Nat.le_of_ble_eq_true rfl, Nat.le_of_ble_eq_true rfl⟩ hG hZ hP hD hS hA 0 rfl rfl rfl [0, 1] [2, 3, 4] rfl rfl rfl rfl rfl hl.1 rfl (Nat.le_of_ble_eq_true rfl) d_law_1415 ⟨Nat.le_of_ble_eq_true rfl, Nat.le_of_ble_eq_true rfl⟩ (fun u1 H locs hP hD hS => ?_)
  have hP : va_P z.1 classes [(a0, .inr (11, [.ref a4, .ref a5, .ref a6, .ref a7, .ref a8, .ref a9, .ref a10, .ref a11, .ref a12, .ref a13, .int 0, .int 0, .ref a14, .int 0])), (a8, .inr (3, [.ref a4, .ref a15, .int 0, .int 0, .ref a16, .ref a17, .ref a18, .ref a19, .ref a20, .ref a21, .ref a22, .ref a23, .ref a24, .ref a25, .ref a26])), (a15, .inl (z.2 4, 21, .inr (.inr (.inr (.inr (fun _ => none)))))), (a1, .inr (18, [.ref a27, .ref a28, .int 0, .ref a29, .int 0, .ref a30, .int 0, .null, .int 0, .null, .long 0, .int 0, .null])), (a27, .inr (17, [.int 0, .ref a31, .ref a32, .int 0, .ref a33, .ref a34, .ref a35, .null, .null, .int 0, .ref a36, .ref a37, .ref a38, .int 0, .ref a39, .int 1]))] H := hP
  have hD : va_D A [(a0, .inr (11, [.ref a4, .ref a5, .ref a6, .ref a7, .ref a8, .ref a9, .ref a10, .ref a11, .ref a12, .ref a13, .int 0, .int 0, .ref a14, .int 0])), (a8, .inr (3, [.ref a4, .ref a15, .int 0, .int 0, .ref a16, .ref a17, .ref a18, .ref a19, .ref a20, .ref a21, .ref a22, .ref a23, .ref a24, .ref a25, .ref a26])), (a15, .inl (z.2 4, 21, .inr (.inr (.inr (.inr (fun _ => none)))))), (a1, .inr (18, [.ref a27, .ref a28, .int 0, .ref a29, .int 0, .ref a30, .int 0, .null, .int 0, .null, .long 0, .int 0, .null])), (a27, .inr (17, [.int 0, .ref a31, .ref a32, .int 0, .ref a33, .ref a34, .ref a35, .null, .null, .int 0, .ref a36, .ref a37, .ref a38, .int 0, .ref a39, .int 1]))] := hD
  refine W.eq (g2 := F0 m 1418 ls [.int 0, .int 0]) rfl ?_
  refine lv_icmp_eq (tgt := 3072) hx hb d_law_1418 (by decide) (fun _ => ?_) (fun c9 => absurd (by decide +kernel) c9)
  refine W.widen (k := 600002) (n := 7302232) (Nat.le_of_ble_eq_true rfl) (Nat.le_of_ble_eq_true rfl) ?_
  exact ht H locs ls hS (lv_sub hl [0, 5] rfl)
set_option maxRecDepth 100000 in
set_option maxHeartbeats 4000000 in
theorem L20_0 (l : Launch) (hl0 : l.stackTraces = false) (z : Zz) {p : Program} {e : Env} {s : State} {m : MethodId} {below : List Frame} {meth : Method} {c : Code} {A : Nat → Prop} {b : Nat} {xs : Nat → Int32} {Q : State → Prop} (hx : p.tables.exec = Jvm.exec) (hb : c.code = code) (hml : c.maxLocals = 9) (hts : ∀ w ∈ WG, w.before #[Value.ref b] s = true) (hown : s.vm.findClass "BallothallLaw" = some m.cls) (hA : ∀ q, s.heap.size ≤ q → A q) (hG : KG z s) (hZ : XZ A s) (hX : va_X b 4 xs s s.heap) (hbl : b < s.heap.size) (hbA : ¬ A b) (ht : ∀ (H : Heap) (locs : List Loc) (ls : Array Slot), va_S A s.heap H locs → lv_has ls 9 [(0, .ref b), (5, .int 0)] → W p l e room_1 s m #[Value.ref b] below meth c H locs 600002 7302232 Q (F0 m 3072 ls [])) (a0 : Nat) (a1 : Nat) (a2 : Nat) (a3 : Nat) (a4 : Nat) (a5 : Nat) (a6 : Nat) (a7 : Nat) (a8 : Nat) (a9 : Nat) (a10 : Nat) (a11 : Nat) (a12 : Nat) (a13 : Nat) (a14 : Nat) (a15 : Nat) (a16 : Nat) (a17 : Nat) (a18 : Nat) (a19 : Nat) (a20 : Nat) (a21 : Nat) (a22 : Nat) (a23 : Nat) (a24 : Nat) (a25 : Nat) (a26 : Nat) (a27 : Nat) (a28 : Nat) (a29 : Nat) (a30 : Nat) (a31 : Nat) (a32 : Nat) (a33 : Nat) (a34 : Nat) (a35 : Nat) (a36 : Nat) (a37 : Nat) (a38 : Nat) (a39 : Nat) (h0 : (xs 2) = (-1)) (H : Heap) (locs : List Loc) (ls : Array Slot) (hP : va_P z.1 classes [(a0, .inr (11, [.ref a4, .ref a5, .ref a6, .ref a7, .ref a8, .ref a9, .ref a10, .ref a11, .ref a12, .ref a13, .int 0, .int 0, .ref a14, .int 0])), (a8, .inr (3, [.ref a4, .ref a15, .int 0, .int 0, .ref a16, .ref a17, .ref a18, .ref a19, .ref a20, .ref a21, .ref a22, .ref a23, .ref a24, .ref a25, .ref a26])), (a15, .inl (z.2 4, 21, .inr (.inr (.inr (.inr (fun _ => none)))))), (a1, .inr (18, [.ref a27, .ref a28, .int 0, .ref a29, .int 0, .ref a30, .int 0, .null, .int 0, .null, .long 0, .int 0, .null])), (a27, .inr (17, [.int 0, .ref a31, .ref a32, .int 0, .ref a33, .ref a34, .ref a35, .null, .null, .int 0, .ref a36, .ref a37, .ref a38, .int 0, .ref a39, .int 1]))] H) (hD : va_D A [(a0, .inr (11, [.ref a4, .ref a5, .ref a6, .ref a7, .ref a8, .ref a9, .ref a10, .ref a11, .ref a12, .ref a13, .int 0, .int 0, .ref a14, .int 0])), (a8, .inr (3, [.ref a4, .ref a15, .int 0, .int 0, .ref a16, .ref a17, .ref a18, .ref a19, .ref a20, .ref a21, .ref a22, .ref a23, .ref a24, .ref a25, .ref a26])), (a15, .inl (z.2 4, 21, .inr (.inr (.inr (.inr (fun _ => none)))))), (a1, .inr (18, [.ref a27, .ref a28, .int 0, .ref a29, .int 0, .ref a30, .int 0, .null, .int 0, .null, .long 0, .int 0, .null])), (a27, .inr (17, [.int 0, .ref a31, .ref a32, .int 0, .ref a33, .ref a34, .ref a35, .null, .null, .int 0, .ref a36, .ref a37, .ref a38, .int 0, .ref a39, .int 1]))]) (hS : va_S A s.heap H locs) (hl : lv_has ls 9 [(0, .ref b), (1, .ref a0), (2, .ref a1), (3, .ref a2), (4, .ref a3), (5, .int 0)]) : W p l e room_1 s m #[Value.ref b] below meth c H locs 265 8866 Q (F0 m 44 ls [.int 20]) := by
  refine lv_tableIn (tgt := 1423) hx hb d_law_44 (by decide +kernel) (by decide +kernel) rfl (by decide) ?_
  refine lv_aload_n hx hb d_law_1423 rfl (lv_at hl 1 rfl) ?_
  refine lv_aload_n hx hb d_law_1424 rfl (lv_at hl 0 rfl) ?_
  refine lv_iload hx hb d_law_1425 (lv_at hl 5 rfl) ?_
  refine lv_iconst (v := 1) hx hb d_law_1427 (by decide +kernel) ?_
  refine lv_iadd hx hb d_law_1428 ?_
  refine nrm (x1 := 1) (by decide +kernel) ?_
  refine va_sld hx hb hX hbl hbA hS (hin4 (i := 1) rfl) d_law_1429 ?_
  refine nrm (x1 := xs 1) rfl ?_
  refine lv_aload_n hx hb d_law_1430 rfl (lv_at hl 0 rfl) ?_
  refine lv_iload hx hb d_law_1431 (lv_at hl 5 rfl) ?_
  refine lv_iconst (v := 2) hx hb d_law_1433 (by decide +kernel) ?_
  refine lv_iadd hx hb d_law_1434 ?_
  refine nrm (x1 := 2) (by decide +kernel) ?_
  refine va_sld hx hb hX hbl hbA hS (hin4 (i := 2) rfl) d_law_1435 ?_
  refine nrm (x1 := xs 2) rfl ?_
  refine lv_aload_n hx hb d_law_1436 rfl (lv_at hl 3 rfl) ?_
  refine kH (As := [.ref a0, .int (xs 1), .int (xs 2), .ref a2]) (rest := []) (wr := [(a1, .inr (18, [.ref a27, .ref a28, .int 0, .ref a29, .int 0, .ref a30, .int 0, .null, .int 0, .null, .long 0, .int 0, .null])), (a27, .inr (17, [.int 0, .ref a31, .ref a32, .int 0, .ref a33, .ref a34, .ref a35, .null, .null, .int 0, .ref a36, .ref a37, .ref a38, .int 0, .ref a39, .int 1]))]) (c257_BLaw_writePile l z hl0 a0 a2 a4 a5 a6 a7 a8 a9 a10 a11 a12 a13 a14 a15 a16 a17 a18 a19 a20 a21 a22 a23 a24 a25 a26 (xs 1) (xs 2) h0) hx hb hml hown hts w_1295 w_1293 w_1294 w_0 md_d94785 ⟨Nat.le_of_ble_eq_true rfl, Nat.le_of_ble_eq_true rfl⟩ hG hZ hP hD hS hA [0, 1, 2] [3, 4] rfl rfl rfl rfl rfl hl.1 rfl (Nat.le_of_ble_eq_true rfl) d_law_1437 ⟨Nat.le_of_ble_eq_true rfl, Nat.le_of_ble_eq_true rfl⟩ (fun u0 H locs hP hD hS => ?_)
  have hP : va_P z.1 classes [(a1, .inr (18, [.ref a27, .ref a28, .int 0, .ref a29, .int 0, .ref a30, .int 0, .null, .int 0, .null, .long 0, .int 0, .null])), (a27, .inr (17, [.int 0, .ref a31, .ref a32, .int 0, .ref a33, .ref a34, .ref a35, .null, .null, .int 0, .ref a36, .ref a37, .ref a38, .int 0, .ref a39, .int 1]))] H := hP
  have hD : va_D A [(a1, .inr (18, [.ref a27, .ref a28, .int 0, .ref a29, .int 0, .ref a30, .int 0, .null, .int 0, .null, .long 0, .int 0, .null])), (a27, .inr (17, [.int 0, .ref a31, .ref a32, .int 0, .ref a33, .ref a34, .ref a35, .null, .null, .int 0, .ref a36, .ref a37, .ref a38, .int 0, .ref a39, .int 1]))] := hD
  refine W.eq (g2 := F0 m 1440 ls [.int 2]) rfl ?_
  refine lv_istore (lv' := [(6, .int 2), (0, .ref b), (1, .ref a0), (2, .ref a1), (3, .ref a2), (4, .ref a3), (5, .int 0)]) hx hb d_law_1440 hl (by decide) rfl (fun ls hl => ?_)
  refine lv_aload_n hx hb d_law_1442 rfl (lv_at hl 3 rfl) ?_
  refine lv_aload_n hx hb d_law_1443 rfl (lv_at hl 1 rfl) ?_
  refine lv_iload hx hb d_law_1444 (lv_at hl 6 rfl) ?_
  refine lv_iconst (v := 1) hx hb d_law_1446 (by decide +kernel) ?_
  refine lv_iadd hx hb d_law_1447 ?_
  refine nrm (x1 := 1) (by decide +kernel) ?_
  refine va_sld hx hb hX hbl hbA hS (hin4 (i := 1) rfl) d_law_1448 ?_
  refine nrm (x1 := xs 1) rfl ?_
  refine lv_aload_n hx hb d_law_1449 rfl (lv_at hl 1 rfl) ?_
  refine lv_iload hx hb d_law_1450 (lv_at hl 6 rfl) ?_
  refine lv_iconst (v := 2) hx hb d_law_1452 (by decide +kernel) ?_
  refine lv_iadd hx hb d_law_1453 ?_
  refine nrm (x1 := 2) (by decide +kernel) ?_
  refine va_sld hx hb hX hbl hbA hS (hin4 (i := 2) rfl) d_law_1454 ?_
  refine nrm (x1 := xs 2) rfl ?_
  refine kV (As := [.int (xs 1), .int (xs 2)]) (rest := []) (wr := []) (c258_BModel_writePile l z a1 a27 a28 a29 a30 a31 a32 a33 a34 a35 a36 a37 a38 a39 (xs 1) (xs 2) h0) hx hb hml hown hts w_2179 w_2176 w_2177 w_2178 w_12 md_7a9470 ⟨Nat.le_of_ble_eq_true rfl, Nat.le_of_ble_eq_true rfl⟩ hG hZ hP hD hS hA 0 rfl rfl rfl [0, 1] [] rfl rfl rfl rfl rfl hl.1 rfl (Nat.le_of_ble_eq_true rfl) d_law_1455 ⟨Nat.le_of_ble_eq_true rfl, Nat.le_of_ble_eq_true rfl⟩ (fun u1 H locs hP hD hS => ?_)
  have hP : va_P z.1 classes [(a1, .inr (18, [.ref a27, .ref a28, .int 0, .ref a29, .int 0, .ref a30, .int 2, .null, .int 0, .null, .long 0, .int 0, .null])), (a27, .inr (17, [.int 0, .ref a31, .ref a32, .int 0, .ref a33, .ref a34, .ref a35, .null, .null, .int 0, .ref a36, .ref a37, .ref a38, .int 0, .ref a39, .int 1]))] H := hP
  have hD : va_D A [(a1, .inr (18, [.ref a27, .ref a28, .int 0, .ref a29, .int 0, .ref a30, .int 2, .null, .int 0, .null, .long 0, .int 0, .null])), (a27, .inr (17, [.int 0, .ref a31, .ref a32, .int 0, .ref a33, .ref a34, .ref a35, .null, .null, .int 0, .ref a36, .ref a37, .ref a38, .int 0, .ref a39, .int 1]))] := hD
  refine W.eq (g2 := F0 m 1458 ls [.int 0]) rfl ?_
  refine lv_istore (lv' := [(7, .int 0), (6, .int 2), (0, .ref b), (1, .ref a0), (2, .ref a1), (3, .ref a2), (4, .ref a3), (5, .int 0)]) hx hb d_law_1458 hl (by decide) rfl (fun ls hl => ?_)
  refine lv_aload_n hx hb d_law_1460 rfl (lv_at hl 4 rfl) ?_
  refine kV (As := []) (rest := []) (wr := [(a27, .inr (17, [.int 0, .ref a31, .ref a32, .int 0, .ref a33, .ref a34, .ref a35, .null, .null, .int 0, .ref a36, .ref a37, .ref a38, .int 0, .ref a39, .int 1]))]) (c244_BModel_thrown l z a1 a27 a28 a29 a30) hx hb hml hown hts w_1688 w_1685 w_1686 w_1687 w_12 md_c48e0f ⟨Nat.le_of_ble_eq_true rfl, Nat.le_of_ble_eq_true rfl⟩ hG hZ hP hD hS hA 0 rfl rfl rfl [0] [1] rfl rfl rfl rfl rfl hl.1 rfl (Nat.le_of_ble_eq_true rfl) d_law_1461 ⟨Nat.le_of_ble_eq_true rfl, Nat.le_of_ble_eq_true rfl⟩ (fun u2 H locs hP hD hS => ?_)
  have hP : va_P z.1 classes [(a27, .inr (17, [.int 0, .ref a31, .ref a32, .int 0, .ref a33, .ref a34, .ref a35, .null, .null, .int 0, .ref a36, .ref a37, .ref a38, .int 0, .ref a39, .int 1])), (a1, .inr (18, [.ref a27, .ref a28, .int 0, .ref a29, .int 0, .ref a30, .int 2, .null, .int 0, .null, .long 0, .int 0, .null]))] H := hP
  have hD : va_D A [(a27, .inr (17, [.int 0, .ref a31, .ref a32, .int 0, .ref a33, .ref a34, .ref a35, .null, .null, .int 0, .ref a36, .ref a37, .ref a38, .int 0, .ref a39, .int 1])), (a1, .inr (18, [.ref a27, .ref a28, .int 0, .ref a29, .int 0, .ref a30, .int 2, .null, .int 0, .null, .long 0, .int 0, .null]))] := hD
  refine W.eq (g2 := F0 m 1464 ls [.int 2]) rfl ?_
  refine lv_iload hx hb d_law_1464 (lv_at hl 1 rfl) ?_
  refine lv_icmp_eq (tgt := 1471) hx hb d_law_1466 (by decide) (fun _ => ?_) (fun c9 => absurd (by decide +kernel) c9)
  refine lv_iload hx hb d_law_1471 (lv_at hl 1 rfl) ?_
  refine lv_if_ne (tgt := 1488) hx hb d_law_1473 (by decide) (fun _ => ?_) (fun c9 => absurd c9 (by decide +kernel))
  refine lv_goto (tgt := 3072) hx hb d_law_1488 (by decide) ?_
  refine W.widen (k := 600002) (n := 7302232) (Nat.le_of_ble_eq_true rfl) (Nat.le_of_ble_eq_true rfl) ?_
  exact ht H locs ls hS (lv_sub hl [2, 7] rfl)
