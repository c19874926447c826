/-! type(long): the signs of the 8 bytes are counted, then laid; both sides by one count -/
theorem ty_sh (x a : Int64) (u : UInt64) (n : Nat) (hn : n ≤ 56) (ha : (a.toBitVec.smod 64).toNat = n) (hu : u.toNat = n) : (x >>> a) &&& 255 = (x.toUInt64 >>> u).toInt64 &&& 255 := by
  have e : (x.toUInt64 >>> u).toInt64.toBitVec = x.toBitVec >>> n := by
    apply BitVec.eq_of_toNat_eq
    show (x.toUInt64 >>> u).toNat = _
    rw [UInt64.toNat_shiftRight, hu, Nat.mod_eq_of_lt (by omega), BitVec.toNat_ushiftRight]
    rfl
  rw [← Int64.toBitVec_inj, Int64.toBitVec_and, Int64.toBitVec_and, e, Int64.toBitVec_shiftRight]
  apply BitVec.eq_of_getLsbD_eq
  intro i hi
  rw [BitVec.getLsbD_and, BitVec.getLsbD_and]
  show ((x.toBitVec.sshiftRight (a.toBitVec.smod 64).toNat).getLsbD i && _) = _
  rw [ha, BitVec.getLsbD_sshiftRight, BitVec.getLsbD_ushiftRight]
  by_cases h8 : i < 8
  · have h1 : n + i < 64 := by omega
    have h64 : ¬ 64 ≤ i := by omega
    simp [h1, hi, h64]
  · have h9 : (255 : Int64).toBitVec.getLsbD i = false := by
      show (BitVec.ofNat 64 255).getLsbD i = false
      rw [BitVec.getLsbD_ofNat]
      have h2 : Nat.testBit 255 i = false := Nat.testBit_lt_two_pow (Nat.lt_of_lt_of_le (show 255 < 2 ^ 8 by decide) (Nat.pow_le_pow_right (by decide) (by omega)))
      rw [h2, Bool.and_false]
    rw [h9, Bool.and_false, Bool.and_false]
theorem ty_z (y : Int64) : (y &&& 255).toInt32 = 0 ↔ y &&& 255 = 0 := by
  obtain ⟨k, hk⟩ : ∃ k, k = (y &&& 255).toBitVec.toNat := ⟨_, rfl⟩
  have h1 : k ≤ 255 := by
    rw [hk, Int64.toBitVec_and, BitVec.toNat_and]
    exact Nat.and_le_right
  have e : y &&& 255 = lN k := by
    rw [← Int64.toBitVec_inj]
    apply BitVec.eq_of_toNat_eq
    rw [← hk]
    show k = (BitVec.ofNat 64 k).toNat
    rw [BitVec.toNat_ofNat, Nat.mod_eq_of_lt (by omega)]
  rw [e, lN_i]
  have a1 : nI k = 0 ↔ k = 0 := nI_eq (a := k) (b := 0) (by omega) (by omega)
  have a2 : lN k = 0 ↔ k = 0 := lN_eq (a := k) (b := 0) (by omega) (by omega)
  rw [a1, a2]
/-- the byte at a shift, as the unsigned shift gives it -/
def tyb (x : Int64) (sh : Int32) : Int64 := (x.toUInt64 >>> (sh.toInt64.toUInt64 &&& Int64.toUInt64 63)).toInt64 &&& 255
def tyz (x : Int64) (k : Nat) : Bool := decide (tyb x (nI (56 - 8 * k)) = 0)
def cz (f : Nat → Bool) : Nat → Nat
  | 0 => 0
  | n + 1 => cz f n + if f n then 0 else 1
theorem cz_t {f : Nat → Bool} {n : Nat} (h : f n = true) : cz f (n + 1) = cz f n := by simp [cz, h]
theorem cz_f {f : Nat → Bool} {n : Nat} (h : f n = false) : cz f (n + 1) = cz f n + 1 := by simp [cz, h]
theorem cz_le (f : Nat → Bool) : ∀ n, cz f n ≤ n
  | 0 => Nat.le_refl 0
  | n + 1 => by
    have h := cz_le f n
    cases g : f n
    · rw [cz_f g]; omega
    · rw [cz_t g]; omega
/-- how many of the 8 bytes are no 0 -/
def tyc (x : Int64) : Int32 := nI (cz (tyz x) 8)
theorem ty_s (x : Int64) (sh : Int32) (k : Nat) (n : Nat) (hs : sh = nI (56 - 8 * k)) (hn : n ≤ 56) (ha : ((sh.toInt64 &&& 63).toBitVec.smod 64).toNat = n) (hu : (sh.toInt64.toUInt64 &&& Int64.toUInt64 63).toNat = n) : (x >>> (sh.toInt64 &&& 63)) &&& 255 = 0 ↔ tyz x k = true := by
  rw [ty_sh x _ (sh.toInt64.toUInt64 &&& Int64.toUInt64 63) n hn ha hu]
  unfold tyz tyb
  rw [decide_eq_true_eq, hs]
theorem ty_u (x : Int64) (sh : Int32) (k : Nat) (hs : sh = nI (56 - 8 * k)) : (x.toUInt64 >>> (sh.toInt64.toUInt64 &&& Int64.toUInt64 63)).toInt64 &&& 255 = 0 ↔ tyz x k = true := by
  unfold tyz tyb
  rw [decide_eq_true_eq, hs]
theorem ty_not {P : Prop} {b : Bool} (h : P ↔ b = true) (n : ¬ P) : b = false := by
  cases b
  · rfl
  · exact absurd (h.mpr rfl) n
set_option maxRecDepth 100000 in
set_option maxHeartbeats 4000000 in
theorem c_as0 (l : Launch) (z : Zz) (a1 a2 : Nat) (w4 w5 w6 w7 w8 w9 : Value) (f : Nat → Int32) (j : Nat) (x : Int32) (h0 : x = 0) : CT l z ⟨"Ballothall$BallotBox", "appendSign", "(I)V"⟩ prog_2_method_5_code 2 none [.ref a1, .int x] [(a1, .inr (0, [.ref a2, .int (nI j), .int 0, .int 0, w4, w5, w6, w7, w8, w9])), (a2, .inl (z.2 0, 30, .inl f))] 0 20 0 0 (fun u => none) (fun u => [(a1, .inr (0, [.ref a2, .int (nI j), .int 0, .int 0, w4, w5, w6, w7, w8, w9])), (a2, .inl (z.2 0, 30, .inl f))]) := by
  refine CT.of (own := "Ballothall$BallotBox") (by decide +kernel) (Nat.le_of_ble_eq_true rfl) rfl (fun p e s m below meth c A ls hx hb hml hr hts hown hlocks hin hA hG hZ hP hD hS hl => ?_)
  have hl : lv_has ls 2 [(0, .ref a1), (1, .int x)] := hl
  refine lv_iload_n hx hb d_2_5_0 rfl (lv_at hl 1 rfl) ?_
  refine lv_if_eq (tgt := 36) hx hb d_2_5_1 (by decide) (fun _ => ?_) (fun c9 => absurd h0 c9)
  exact W.vret hx hb hr (fun t ht hW => qk hP hD hS [0, 1] rfl (fun k => k, fun _ _ => none) rfl rfl rfl ht) hS.2.2 d_2_5_36
set_option maxRecDepth 100000 in
set_option maxHeartbeats 4000000 in
theorem c_as1 (l : Launch) (z : Zz) (a1 a2 : Nat) (w4 w5 w6 w7 w8 w9 : Value) (f : Nat → Int32) (j : Nat) (hj : j < 30) (x : Int32) (h0 : ¬ x = 0) : CT l z ⟨"Ballothall$BallotBox", "appendSign", "(I)V"⟩ prog_2_method_5_code 2 none [.ref a1, .int x] [(a1, .inr (0, [.ref a2, .int (nI j), .int 0, .int 0, w4, w5, w6, w7, w8, w9])), (a2, .inl (z.2 0, 30, .inl f))] 0 20 0 0 (fun u => none) (fun u => [(a1, .inr (0, [.ref a2, .int (nI (j + 1)), .int 0, .int 0, w4, w5, w6, w7, w8, w9])), (a2, .inl (z.2 0, 30, .inl (upd f j x)))]) := by
  refine CT.of (own := "Ballothall$BallotBox") (by decide +kernel) (Nat.le_of_ble_eq_true rfl) rfl (fun p e s m below meth c A ls hx hb hml hr hts hown hlocks hin hA hG hZ hP hD hS hl => ?_)
  have hl : lv_has ls 2 [(0, .ref a1), (1, .int x)] := hl
  refine lv_iload_n hx hb d_2_5_0 rfl (lv_at hl 1 rfl) ?_
  refine lv_if_eq (tgt := 36) hx hb d_2_5_1 (by decide) (fun c9 => absurd c9 h0) (fun _ => ?_)
  refine lv_aload_n hx hb d_2_5_4 rfl (lv_at hl 0 rfl) ?_
  refine va_get (D := z.1) (ci := 0) (v := .int (nI j)) (C := "Ballothall$BallotBox") (T := TX0) (N := 10) hx hb hts iX0 hown hG.1 hP 0 rfl rfl 1 (by decide) (hts _ w_55) (fun _ h9 => h9) rfl d_2_5_5 ?_
  refine lv_aload_n hx hb d_2_5_8 rfl (lv_at hl 0 rfl) ?_
  refine va_get (D := z.1) (ci := 0) (v := .ref a2) (C := "Ballothall$BallotBox") (T := TX0) (N := 10) hx hb hts iX0 hown hG.1 hP 0 rfl rfl 0 (by decide) (hts _ w_53) (fun _ h9 => h9) rfl d_2_5_9 ?_
  refine va_alen (v := 30) hx hb hG.1 hP 1 0 rfl rfl rfl d_2_5_12 ?_
  refine lv_icmp_ge (tgt := 36) hx hb d_2_5_13 (by decide) (fun c9 => absurd c9 (nI_ge hj (by decide))) (fun _ => ?_)
  refine lv_aload_n hx hb d_2_5_16 rfl (lv_at hl 0 rfl) ?_
  refine va_get (D := z.1) (ci := 0) (v := .ref a2) (C := "Ballothall$BallotBox") (T := TX0) (N := 10) hx hb hts iX0 hown hG.1 hP 0 rfl rfl 0 (by decide) (hts _ w_53) (fun _ h9 => h9) rfl d_2_5_17 ?_
  refine lv_aload_n hx hb d_2_5_20 rfl (lv_at hl 0 rfl) ?_
  refine va_get (D := z.1) (ci := 0) (v := .int (nI j)) (C := "Ballothall$BallotBox") (T := TX0) (N := 10) hx hb hts iX0 hown hG.1 hP 0 rfl rfl 1 (by decide) (hts _ w_55) (fun _ h9 => h9) rfl d_2_5_21 ?_
  refine lv_iload_n hx hb d_2_5_24 rfl (lv_at hl 1 rfl) ?_
  refine va_iast hx hb hG.1 hP hD hS 1 0 rfl rfl (vp_in_nI hj (by decide)) d_2_5_25 (fun H locs hP hD hS => ?_)
  rw [nI_clamp (show j < 2 ^ 31 by omega)] at hP hD
  have hP : va_P z.1 classes [(a1, .inr (0, [.ref a2, .int (nI j), .int 0, .int 0, w4, w5, w6, w7, w8, w9])), (a2, .inl (z.2 0, 30, .inl (upd f j x)))] H := hP
  have hD : va_D A [(a1, .inr (0, [.ref a2, .int (nI j), .int 0, .int 0, w4, w5, w6, w7, w8, w9])), (a2, .inl (z.2 0, 30, .inl (upd f j x)))] := hD
  refine lv_aload_n hx hb d_2_5_26 rfl (lv_at hl 0 rfl) ?_
  refine lv_dup hx hb d_2_5_27 rfl ?_
  refine va_get (D := z.1) (ci := 0) (v := .int (nI j)) (C := "Ballothall$BallotBox") (T := TX0) (N := 10) hx hb hts iX0 hown hG.1 hP 0 rfl rfl 1 (by decide) (hts _ w_55) (fun _ h9 => h9) rfl d_2_5_28 ?_
  refine lv_iconst (v := 1) hx hb d_2_5_31 (by decide +kernel) ?_
  refine lv_iadd hx hb d_2_5_32 ?_
  refine nrm (x1 := nI (j + 1)) (nI_1 j) ?_
  refine va_put (D := z.1) (ci := 0) (v := .int (nI (j + 1))) (ty := .int) (C := "Ballothall$BallotBox") (T := TX0) (N := 10) hx hb hts iX0 tyX0 tyX0_ok nmX0 hown hG.1 hP hD hS 0 rfl rfl 1 (by decide) (hts _ w_55) (fun _ h9 => h9) rfl (by decide +kernel) rfl rfl (Nat.le_of_ble_eq_true rfl) d_2_5_33 (fun H locs hP hD hS => ?_)
  have hP : va_P z.1 classes [(a1, .inr (0, [.ref a2, .int (nI (j + 1)), .int 0, .int 0, w4, w5, w6, w7, w8, w9])), (a2, .inl (z.2 0, 30, .inl (upd f j x)))] H := hP
  have hD : va_D A [(a1, .inr (0, [.ref a2, .int (nI (j + 1)), .int 0, .int 0, w4, w5, w6, w7, w8, w9])), (a2, .inl (z.2 0, 30, .inl (upd f j x)))] := hD
  exact W.vret hx hb hr (fun t ht hW => qk hP hD hS [0, 1] rfl (fun k => k, fun _ _ => none) rfl rfl rfl ht) hS.2.2 d_2_5_36
set_option maxRecDepth 100000 in
set_option maxHeartbeats 4000000 in
theorem ty_l1 (l : Launch) (z : Zz) (a0 : Nat) (x : Int64) (k : Nat) (sh sh1 : Int32) (hsh : ¬ sh < 0) (hsh1 : sh + Int32.ofInt (-8) = sh1) (hz : (x >>> (sh.toInt64 &&& 63)) &&& 255 = 0 ↔ tyz x k = true) {p : Program} {e : Env} {R : Room} {s : State} {m : MethodId} {below : List Frame} {meth : Method} {c : Code} {A : Nat → Prop} {Q : State → Prop} {args : Array Value} (hx : p.tables.exec = Jvm.exec) (hb : c.code = prog_1_method_4_code) (hml : c.maxLocals = 5) (hts : ∀ w ∈ WG, w.before args s = true) (hown : s.vm.findClass "Ballothall" = some m.cls) (hA : ∀ q, s.heap.size ≤ q → A q) (hG : KG z s) (hZ : XZ A s) {H : Heap} {locs : List Loc} (hk : ∀ ls, lv_has ls 5 [(4, .int sh1), (3, .int (nI (cz (tyz x) (k + 1)))), (0, .ref a0), (1, .long x)] → W p l e R s m args below meth c H locs 0 0 Q (F0 m 6 ls [])) (ls : Array Slot) (hl : lv_has ls 5 [(4, .int sh), (3, .int (nI (cz (tyz x) k))), (0, .ref a0), (1, .long x)]) : W p l e R s m args below meth c H locs 0 0 Q (F0 m 6 ls []) := by
  refine lv_iload hx hb d_1_4_6 (lv_at hl 0 rfl) ?_
  refine lv_if_lt (tgt := 33) hx hb d_1_4_8 (by decide) (fun c9 => absurd c9 hsh) (fun _ => ?_)
  refine lv_lload_n hx hb d_1_4_11 rfl (lv_at hl 3 rfl) ?_
  refine lv_iload hx hb d_1_4_12 (lv_at hl 0 rfl) ?_
  refine lv_lshr (v := x >>> (sh.toInt64 &&& 63)) hx hb d_1_4_14 rfl ?_
  refine lv_ldc2 hx hb hown (hts _ w_900) d_1_4_15 ?_
  refine lv_land hx hb d_1_4_18 ?_
  refine lv_lconst (v := 0) hx hb d_1_4_19 (by decide +kernel) ?_
  refine W.lcmp hx hb d_1_4_20 ?_
  refine lv_if_eq (tgt := 27) hx hb d_1_4_21 (by decide) (fun c9 => ?_) (fun c9 => ?_)
  · have h0 := hz.mp ((lg_cmp_eq _ _).mp c9)
    refine lv_iinc (v := sh1) (lv' := [(4, .int sh1), (3, .int (nI (cz (tyz x) k))), (0, .ref a0), (1, .long x)]) hx hb d_1_4_27 hl (k := 0) rfl hsh1 (by decide) rfl (fun ls hl => ?_)
    refine lv_goto (tgt := 6) hx hb d_1_4_30 (by decide) ?_
    exact hk ls (by rw [cz_t h0]; exact hl)
  · have h0 := ty_not hz (fun q => c9 ((lg_cmp_eq _ _).mpr q))
    refine lv_iinc (v := nI (cz (tyz x) k + 1)) (lv' := [(3, .int (nI (cz (tyz x) k + 1))), (4, .int sh), (0, .ref a0), (1, .long x)]) hx hb d_1_4_24 hl (k := 1) rfl (by rw [nI_succ]; rfl) (by decide) rfl (fun ls hl => ?_)
    refine lv_iinc (v := sh1) (lv' := [(4, .int sh1), (3, .int (nI (cz (tyz x) k + 1))), (0, .ref a0), (1, .long x)]) hx hb d_1_4_27 hl (k := 1) rfl hsh1 (by decide) rfl (fun ls hl => ?_)
    refine lv_goto (tgt := 6) hx hb d_1_4_30 (by decide) ?_
    exact hk ls (by rw [cz_f h0]; exact hl)
set_option maxRecDepth 100000 in
set_option maxHeartbeats 4000000 in
theorem ty_l2 (l : Launch) (z : Zz) (a0 a1 a2 : Nat) (w4 w5 w6 w7 w8 w9 : Value) (v1 v2 v3 v4 v5 v6 v7 v8 v9 v10 v11 v12 v13 : Value) (x : Int64) (k : Nat) (hk8 : k < 8) (M : Int32) (sh sh1 : Int32) (hsh : ¬ sh < 0) (hsh1 : sh + Int32.ofInt (-8) = sh1) (hz : (x >>> (sh.toInt64 &&& 63)) &&& 255 = 0 ↔ tyz x k = true) {p : Program} {e : Env} {R : Room} {s : State} {m : MethodId} {below : List Frame} {meth : Method} {c : Code} {A : Nat → Prop} {Q : State → Prop} {args : Array Value} (hx : p.tables.exec = Jvm.exec) (hb : c.code = prog_1_method_4_code) (hml : c.maxLocals = 5) (hts : ∀ w ∈ WG, w.before args s = true) (hown : s.vm.findClass "Ballothall" = some m.cls) (hA : ∀ q, s.heap.size ≤ q → A q) (hG : KG z s) (hZ : XZ A s) (hR : 0 + 1 ≤ R.frames ∧ 8 + (2 + 11) + 20 ≤ R.locals)
    (hk : ∀ (f : Nat → Int32) (H : Heap) (locs : List Loc) (ls : Array Slot), va_P z.1 classes [(a0, .inr (11, [.ref a1, v1, v2, v3, v4, v5, v6, v7, v8, v9, v10, v11, v12, v13])), (a1, .inr (0, [.ref a2, .int (nI (cz (tyz x) (k + 1))), .int 0, .int 0, w4, w5, w6, w7, w8, w9])), (a2, .inl (z.2 0, 30, .inl f))] H → va_D A [(a0, .inr (11, [.ref a1, v1, v2, v3, v4, v5, v6, v7, v8, v9, v10, v11, v12, v13])), (a1, .inr (0, [.ref a2, .int (nI (cz (tyz x) (k + 1))), .int 0, .int 0, w4, w5, w6, w7, w8, w9])), (a2, .inl (z.2 0, 30, .inl f))] → va_S A s.heap H locs → lv_has ls 5 [(4, .int sh1), (3, .int M), (0, .ref a0), (1, .long x)] → W p l e R s m args below meth c H locs 0 0 Q (F0 m 51 ls [])) (f : Nat → Int32) (H : Heap) (locs : List Loc) (ls : Array Slot) (hP : va_P z.1 classes [(a0, .inr (11, [.ref a1, v1, v2, v3, v4, v5, v6, v7, v8, v9, v10, v11, v12, v13])), (a1, .inr (0, [.ref a2, .int (nI (cz (tyz x) k)), .int 0, .int 0, w4, w5, w6, w7, w8, w9])), (a2, .inl (z.2 0, 30, .inl f))] H) (hD : va_D A [(a0, .inr (11, [.ref a1, v1, v2, v3, v4, v5, v6, v7, v8, v9, v10, v11, v12, v13])), (a1, .inr (0, [.ref a2, .int (nI (cz (tyz x) k)), .int 0, .int 0, w4, w5, w6, w7, w8, w9])), (a2, .inl (z.2 0, 30, .inl f))]) (hS : va_S A s.heap H locs) (hl : lv_has ls 5 [(4, .int sh), (3, .int M), (0, .ref a0), (1, .long x)]) : W p l e R s m args below meth c H locs 0 0 Q (F0 m 51 ls []) := by
  refine lv_iload hx hb d_1_4_51 (lv_at hl 0 rfl) ?_
  refine lv_if_lt (tgt := 78) hx hb d_1_4_53 (by decide) (fun c9 => absurd c9 hsh) (fun _ => ?_)
  refine lv_aload_n hx hb d_1_4_56 rfl (lv_at hl 2 rfl) ?_
  refine va_get (D := z.1) (ci := 11) (v := .ref a1) (C := "Ballothall") (T := TX11) (N := 14) hx hb hts iX11 hown hG.1 hP 0 rfl rfl 0 (by decide) (hts _ w_406) (fun _ h9 => h9) rfl d_1_4_57 ?_
  refine lv_lload_n hx hb d_1_4_60 rfl (lv_at hl 3 rfl) ?_
  refine lv_iload hx hb d_1_4_61 (lv_at hl 0 rfl) ?_
  refine lv_lshr (v := x >>> (sh.toInt64 &&& 63)) hx hb d_1_4_63 rfl ?_
  refine lv_ldc2 hx hb hown (hts _ w_900) d_1_4_64 ?_
  refine lv_land hx hb d_1_4_67 ?_
  refine lv_l2i (v := ((x >>> (sh.toInt64 &&& 63)) &&& 255).toInt32) hx hb d_1_4_68 rfl ?_
  have hcl := cz_le (tyz x) k
  by_cases c9 : (x >>> (sh.toInt64 &&& 63)) &&& 255 = 0
  · have h0 := hz.mp c9
    refine kVN (As := [.int ((x >>> (sh.toInt64 &&& 63)) &&& 255).toInt32]) (rest := []) (wr := [(a0, .inr (11, [.ref a1, v1, v2, v3, v4, v5, v6, v7, v8, v9, v10, v11, v12, v13]))]) (c_as0 l z a1 a2 w4 w5 w6 w7 w8 w9 f (cz (tyz x) k) _ ((ty_z _).mpr c9)) hx hb hml hown hts w_904 n_901 w_903 w_s_aa5e63 w_2 md_dc90bd hR hG hZ hP hD hS hA 1 rfl rfl rfl [1, 2] [0] rfl rfl rfl rfl rfl hl.1 rfl (Nat.le_of_ble_eq_true rfl) d_1_4_69 ⟨Nat.zero_le _, Nat.zero_le _⟩ (fun u H locs hP hD hS => ?_)
    have hP : va_P z.1 classes [(a0, .inr (11, [.ref a1, v1, v2, v3, v4, v5, v6, v7, v8, v9, v10, v11, v12, v13])), (a1, .inr (0, [.ref a2, .int (nI (cz (tyz x) k)), .int 0, .int 0, w4, w5, w6, w7, w8, w9])), (a2, .inl (z.2 0, 30, .inl f))] H := hP
    have hD : va_D A [(a0, .inr (11, [.ref a1, v1, v2, v3, v4, v5, v6, v7, v8, v9, v10, v11, v12, v13])), (a1, .inr (0, [.ref a2, .int (nI (cz (tyz x) k)), .int 0, .int 0, w4, w5, w6, w7, w8, w9])), (a2, .inl (z.2 0, 30, .inl f))] := hD
    refine W.eq (g2 := F0 m 72 ls []) rfl ?_
    refine lv_iinc (v := sh1) (lv' := [(4, .int sh1), (3, .int M), (0, .ref a0), (1, .long x)]) hx hb d_1_4_72 hl (k := 0) rfl hsh1 (by decide) rfl (fun ls hl => ?_)
    refine lv_goto (tgt := 51) hx hb d_1_4_75 (by decide) ?_
    exact hk f H locs ls (by rw [cz_t h0]; exact hP) (by rw [cz_t h0]; exact hD) hS hl
  · have h0 := ty_not hz c9
    refine kVN (As := [.int ((x >>> (sh.toInt64 &&& 63)) &&& 255).toInt32]) (rest := []) (wr := [(a0, .inr (11, [.ref a1, v1, v2, v3, v4, v5, v6, v7, v8, v9, v10, v11, v12, v13]))]) (c_as1 l z a1 a2 w4 w5 w6 w7 w8 w9 f (cz (tyz x) k) (by omega) _ (fun q => c9 ((ty_z _).mp q))) hx hb hml hown hts w_904 n_901 w_903 w_s_aa5e63 w_2 md_dc90bd hR hG hZ hP hD hS hA 1 rfl rfl rfl [1, 2] [0] rfl rfl rfl rfl rfl hl.1 rfl (Nat.le_of_ble_eq_true rfl) d_1_4_69 ⟨Nat.zero_le _, Nat.zero_le _⟩ (fun u H locs hP hD hS => ?_)
    have hP : va_P z.1 classes [(a0, .inr (11, [.ref a1, v1, v2, v3, v4, v5, v6, v7, v8, v9, v10, v11, v12, v13])), (a1, .inr (0, [.ref a2, .int (nI (cz (tyz x) k + 1)), .int 0, .int 0, w4, w5, w6, w7, w8, w9])), (a2, .inl (z.2 0, 30, .inl (upd f (cz (tyz x) k) ((x >>> (sh.toInt64 &&& 63)) &&& 255).toInt32)))] H := hP
    have hD : va_D A [(a0, .inr (11, [.ref a1, v1, v2, v3, v4, v5, v6, v7, v8, v9, v10, v11, v12, v13])), (a1, .inr (0, [.ref a2, .int (nI (cz (tyz x) k + 1)), .int 0, .int 0, w4, w5, w6, w7, w8, w9])), (a2, .inl (z.2 0, 30, .inl (upd f (cz (tyz x) k) ((x >>> (sh.toInt64 &&& 63)) &&& 255).toInt32)))] := hD
    refine W.eq (g2 := F0 m 72 ls []) rfl ?_
    refine lv_iinc (v := sh1) (lv' := [(4, .int sh1), (3, .int M), (0, .ref a0), (1, .long x)]) hx hb d_1_4_72 hl (k := 0) rfl hsh1 (by decide) rfl (fun ls hl => ?_)
    refine lv_goto (tgt := 51) hx hb d_1_4_75 (by decide) ?_
    exact hk _ H locs ls (by rw [cz_f h0]; exact hP) (by rw [cz_f h0]; exact hD) hS hl
set_option maxRecDepth 100000 in
set_option maxHeartbeats 4000000 in
theorem c_ty (l : Launch) (z : Zz) (a0 a1 a2 : Nat) (w4 w5 w6 w7 w8 w9 : Value) (v1 v2 v3 v4 v5 v6 v7 v8 v9 v10 v11 v12 v13 : Value) (x : Int64) : CT l z ⟨"Ballothall", "type", "(J)I"⟩ prog_1_method_4_code 5 (some .int) [.ref a0, .long x] [(a0, .inr (11, [.ref a1, v1, v2, v3, v4, v5, v6, v7, v8, v9, v10, v11, v12, v13])), (a1, .inr (0, [.ref a2, .int 0, .int 0, .int 0, w4, w5, w6, w7, w8, w9])), (a2, .inl (z.2 0, 30, .inl (fun _ => 0)))] 4 160 0 0 (fun u => some (.int (tyc x))) (fun u => []) := by
  refine CT.of (own := "Ballothall") (by decide +kernel) (Nat.le_of_ble_eq_true rfl) rfl (fun p e s m below meth c A ls hx hb hml hr hts hown hlocks hin hA hG hZ hP hD hS hl => ?_)
  have hl : lv_has ls 5 [(0, .ref a0), (1, .long x)] := hl
  refine lv_iconst (v := 0) hx hb d_1_4_0 (by decide +kernel) ?_
  refine lv_istore_n (lv' := [(3, .int 0), (0, .ref a0), (1, .long x)]) hx hb d_1_4_1 rfl hl (by decide) rfl (fun ls hl => ?_)
  refine lv_bipush (v := 56) hx hb d_1_4_2 (by decide +kernel) ?_
  refine lv_istore (lv' := [(4, .int 56), (3, .int (nI (cz (tyz x) 0))), (0, .ref a0), (1, .long x)]) hx hb d_1_4_4 hl (by decide) rfl (fun ls hl => ?_)
  refine ty_l1 l z a0 x 0 56 48 (by decide +kernel) (by decide +kernel) (ty_s x 56 0 56 rfl (by decide) (by decide +kernel) (by decide +kernel)) hx hb hml hts hown hA hG hZ (fun ls hl => ?_) ls hl
  refine ty_l1 l z a0 x 1 48 40 (by decide +kernel) (by decide +kernel) (ty_s x 48 1 48 rfl (by decide) (by decide +kernel) (by decide +kernel)) hx hb hml hts hown hA hG hZ (fun ls hl => ?_) ls hl
  refine ty_l1 l z a0 x 2 40 32 (by decide +kernel) (by decide +kernel) (ty_s x 40 2 40 rfl (by decide) (by decide +kernel) (by decide +kernel)) hx hb hml hts hown hA hG hZ (fun ls hl => ?_) ls hl
  refine ty_l1 l z a0 x 3 32 24 (by decide +kernel) (by decide +kernel) (ty_s x 32 3 32 rfl (by decide) (by decide +kernel) (by decide +kernel)) hx hb hml hts hown hA hG hZ (fun ls hl => ?_) ls hl
  refine ty_l1 l z a0 x 4 24 16 (by decide +kernel) (by decide +kernel) (ty_s x 24 4 24 rfl (by decide) (by decide +kernel) (by decide +kernel)) hx hb hml hts hown hA hG hZ (fun ls hl => ?_) ls hl
  refine ty_l1 l z a0 x 5 16 8 (by decide +kernel) (by decide +kernel) (ty_s x 16 5 16 rfl (by decide) (by decide +kernel) (by decide +kernel)) hx hb hml hts hown hA hG hZ (fun ls hl => ?_) ls hl
  refine ty_l1 l z a0 x 6 8 0 (by decide +kernel) (by decide +kernel) (ty_s x 8 6 8 rfl (by decide) (by decide +kernel) (by decide +kernel)) hx hb hml hts hown hA hG hZ (fun ls hl => ?_) ls hl
  refine ty_l1 l z a0 x 7 0 (-8) (by decide +kernel) (by decide +kernel) (ty_s x 0 7 0 rfl (by decide) (by decide +kernel) (by decide +kernel)) hx hb hml hts hown hA hG hZ (fun ls hl => ?_) ls hl
  refine lv_iload hx hb d_1_4_6 (lv_at hl 0 rfl) ?_
  refine lv_if_lt (tgt := 33) hx hb d_1_4_8 (by decide) (fun _ => ?_) (fun c9 => absurd (by decide +kernel) c9)
  refine lv_aload_n hx hb d_1_4_33 rfl (lv_at hl 2 rfl) ?_
  refine va_get (D := z.1) (ci := 11) (v := .ref a1) (C := "Ballothall") (T := TX11) (N := 14) hx hb hts iX11 hown hG.1 hP 0 rfl rfl 0 (by decide) (hts _ w_406) (fun _ h9 => h9) rfl d_1_4_34 ?_
  refine va_getN (D := z.1) (ci := 0) (v := .int 0) (C := "Ballothall$BallotBox") (T := TX0) (N := 10) hx hb hts iX0 hown hG.1 hP 1 rfl rfl 1 (by decide) (va_Nw.use rfl (hG.2.1 _ n_54 rfl)) (fun _ h9 => h9) rfl d_1_4_37 ?_
  refine lv_iload_n hx hb d_1_4_40 rfl (lv_at hl 1 rfl) ?_
  refine lv_iadd hx hb d_1_4_41 ?_
  refine nrm (x1 := nI (cz (tyz x) (7 + 1))) (Int32.zero_add _) ?_
  refine lv_bipush (v := 30) hx hb d_1_4_42 (by decide +kernel) ?_
  have h8 := cz_le (tyz x) 8
  have h30 : ¬ 30 < nI (cz (tyz x) (7 + 1)) := nI_nlt (a := 30) (show cz (tyz x) 8 ≤ 30 by omega) (by decide)
  refine kS (As := [.int (nI (cz (tyz x) (7 + 1))), .int 30]) (rest := []) (wr := [(a0, .inr (11, [.ref a1, v1, v2, v3, v4, v5, v6, v7, v8, v9, v10, v11, v12, v13])), (a1, .inr (0, [.ref a2, .int 0, .int 0, .int 0, w4, w5, w6, w7, w8, w9])), (a2, .inl (z.2 0, 30, .inl (fun _ => 0)))]) (c15_B_needRoom l z (nI (cz (tyz x) (7 + 1))) h30) hx hb hml hown hts w_771 w_769 w_770 w_1 md_ec9fa9 ⟨Nat.le_of_ble_eq_true rfl, Nat.le_of_ble_eq_true rfl⟩ hG hZ hP hD hS hA [] [0, 1, 2] rfl rfl rfl rfl rfl hl.1 rfl (Nat.le_of_ble_eq_true rfl) d_1_4_44 ⟨Nat.le_of_ble_eq_true rfl, Nat.le_of_ble_eq_true rfl⟩ (fun u H locs hP hD hS => ?_)
  have hP : va_P z.1 classes [(a0, .inr (11, [.ref a1, v1, v2, v3, v4, v5, v6, v7, v8, v9, v10, v11, v12, v13])), (a1, .inr (0, [.ref a2, .int (nI (cz (tyz x) 0)), .int 0, .int 0, w4, w5, w6, w7, w8, w9])), (a2, .inl (z.2 0, 30, .inl (fun _ => 0)))] H := hP
  have hD : va_D A [(a0, .inr (11, [.ref a1, v1, v2, v3, v4, v5, v6, v7, v8, v9, v10, v11, v12, v13])), (a1, .inr (0, [.ref a2, .int (nI (cz (tyz x) 0)), .int 0, .int 0, w4, w5, w6, w7, w8, w9])), (a2, .inl (z.2 0, 30, .inl (fun _ => 0)))] := hD
  refine W.eq (g2 := F0 m 47 ls []) rfl ?_
  refine lv_bipush (v := 56) hx hb d_1_4_47 (by decide +kernel) ?_
  refine lv_istore (lv' := [(4, .int 56), (3, .int (nI (cz (tyz x) (7 + 1)))), (0, .ref a0), (1, .long x)]) hx hb d_1_4_49 hl (by decide) rfl (fun ls hl => ?_)
  refine W.widen (k := 0) (n := 0) (Nat.le_of_ble_eq_true rfl) (Nat.le_of_ble_eq_true rfl) ?_
  refine ty_l2 l z a0 a1 a2 w4 w5 w6 w7 w8 w9 v1 v2 v3 v4 v5 v6 v7 v8 v9 v10 v11 v12 v13 x 0 (by decide) (nI (cz (tyz x) (7 + 1))) 56 48 (by decide +kernel) (by decide +kernel) (ty_s x 56 0 56 rfl (by decide) (by decide +kernel) (by decide +kernel)) hx hb hml hts hown hA hG hZ ⟨Nat.le_of_ble_eq_true rfl, Nat.le_of_ble_eq_true rfl⟩ (fun f0 H locs ls hP hD hS hl => ?_) (fun _ => 0) H locs ls hP hD hS hl
  refine ty_l2 l z a0 a1 a2 w4 w5 w6 w7 w8 w9 v1 v2 v3 v4 v5 v6 v7 v8 v9 v10 v11 v12 v13 x 1 (by decide) (nI (cz (tyz x) (7 + 1))) 48 40 (by decide +kernel) (by decide +kernel) (ty_s x 48 1 48 rfl (by decide) (by decide +kernel) (by decide +kernel)) hx hb hml hts hown hA hG hZ ⟨Nat.le_of_ble_eq_true rfl, Nat.le_of_ble_eq_true rfl⟩ (fun f1 H locs ls hP hD hS hl => ?_) f0 H locs ls hP hD hS hl
  refine ty_l2 l z a0 a1 a2 w4 w5 w6 w7 w8 w9 v1 v2 v3 v4 v5 v6 v7 v8 v9 v10 v11 v12 v13 x 2 (by decide) (nI (cz (tyz x) (7 + 1))) 40 32 (by decide +kernel) (by decide +kernel) (ty_s x 40 2 40 rfl (by decide) (by decide +kernel) (by decide +kernel)) hx hb hml hts hown hA hG hZ ⟨Nat.le_of_ble_eq_true rfl, Nat.le_of_ble_eq_true rfl⟩ (fun f2 H locs ls hP hD hS hl => ?_) f1 H locs ls hP hD hS hl
  refine ty_l2 l z a0 a1 a2 w4 w5 w6 w7 w8 w9 v1 v2 v3 v4 v5 v6 v7 v8 v9 v10 v11 v12 v13 x 3 (by decide) (nI (cz (tyz x) (7 + 1))) 32 24 (by decide +kernel) (by decide +kernel) (ty_s x 32 3 32 rfl (by decide) (by decide +kernel) (by decide +kernel)) hx hb hml hts hown hA hG hZ ⟨Nat.le_of_ble_eq_true rfl, Nat.le_of_ble_eq_true rfl⟩ (fun f3 H locs ls hP hD hS hl => ?_) f2 H locs ls hP hD hS hl
  refine ty_l2 l z a0 a1 a2 w4 w5 w6 w7 w8 w9 v1 v2 v3 v4 v5 v6 v7 v8 v9 v10 v11 v12 v13 x 4 (by decide) (nI (cz (tyz x) (7 + 1))) 24 16 (by decide +kernel) (by decide +kernel) (ty_s x 24 4 24 rfl (by decide) (by decide +kernel) (by decide +kernel)) hx hb hml hts hown hA hG hZ ⟨Nat.le_of_ble_eq_true rfl, Nat.le_of_ble_eq_true rfl⟩ (fun f4 H locs ls hP hD hS hl => ?_) f3 H locs ls hP hD hS hl
  refine ty_l2 l z a0 a1 a2 w4 w5 w6 w7 w8 w9 v1 v2 v3 v4 v5 v6 v7 v8 v9 v10 v11 v12 v13 x 5 (by decide) (nI (cz (tyz x) (7 + 1))) 16 8 (by decide +kernel) (by decide +kernel) (ty_s x 16 5 16 rfl (by decide) (by decide +kernel) (by decide +kernel)) hx hb hml hts hown hA hG hZ ⟨Nat.le_of_ble_eq_true rfl, Nat.le_of_ble_eq_true rfl⟩ (fun f5 H locs ls hP hD hS hl => ?_) f4 H locs ls hP hD hS hl
  refine ty_l2 l z a0 a1 a2 w4 w5 w6 w7 w8 w9 v1 v2 v3 v4 v5 v6 v7 v8 v9 v10 v11 v12 v13 x 6 (by decide) (nI (cz (tyz x) (7 + 1))) 8 0 (by decide +kernel) (by decide +kernel) (ty_s x 8 6 8 rfl (by decide) (by decide +kernel) (by decide +kernel)) hx hb hml hts hown hA hG hZ ⟨Nat.le_of_ble_eq_true rfl, Nat.le_of_ble_eq_true rfl⟩ (fun f6 H locs ls hP hD hS hl => ?_) f5 H locs ls hP hD hS hl
  refine ty_l2 l z a0 a1 a2 w4 w5 w6 w7 w8 w9 v1 v2 v3 v4 v5 v6 v7 v8 v9 v10 v11 v12 v13 x 7 (by decide) (nI (cz (tyz x) (7 + 1))) 0 (-8) (by decide +kernel) (by decide +kernel) (ty_s x 0 7 0 rfl (by decide) (by decide +kernel) (by decide +kernel)) hx hb hml hts hown hA hG hZ ⟨Nat.le_of_ble_eq_true rfl, Nat.le_of_ble_eq_true rfl⟩ (fun f7 H locs ls hP hD hS hl => ?_) f6 H locs ls hP hD hS hl
  refine lv_iload hx hb d_1_4_51 (lv_at hl 0 rfl) ?_
  refine lv_if_lt (tgt := 78) hx hb d_1_4_53 (by decide) (fun _ => ?_) (fun c9 => absurd (by decide +kernel) c9)
  refine lv_aload_n hx hb d_1_4_78 rfl (lv_at hl 2 rfl) ?_
  refine va_get (D := z.1) (ci := 11) (v := .ref a1) (C := "Ballothall") (T := TX11) (N := 14) hx hb hts iX11 hown hG.1 hP 0 rfl rfl 0 (by decide) (hts _ w_406) (fun _ h9 => h9) rfl d_1_4_79 ?_
  refine va_getN (D := z.1) (ci := 0) (v := .int (tyc x)) (C := "Ballothall$BallotBox") (T := TX0) (N := 10) hx hb hts iX0 hown hG.1 hP 1 rfl rfl 1 (by decide) (va_Nw.use rfl (hG.2.1 _ n_54 rfl)) (fun _ h9 => h9) rfl d_1_4_82 ?_
  exact W.iret hx hb hr (fun t ht hW => qk hP hD hS [] rfl (fun k => k, fun _ _ => none) rfl rfl rfl ht) hS.2.2 d_1_4_85
set_option maxRecDepth 100000 in
set_option maxHeartbeats 4000000 in
theorem ty_m1 (l : Launch) (z : Zz) (a0 : Nat) (x : Int64) (k : Nat) (sh sh1 : Int32) (hsh : ¬ sh < 0) (hsh1 : sh + Int32.ofInt (-8) = sh1) (hz : (x.toUInt64 >>> (sh.toInt64.toUInt64 &&& Int64.toUInt64 63)).toInt64 &&& 255 = 0 ↔ tyz x k = true) {p : Program} {e : Env} {R : Room} {s : State} {m : MethodId} {below : List Frame} {meth : Method} {c : Code} {A : Nat → Prop} {Q : State → Prop} {args : Array Value} (hx : p.tables.exec = Jvm.exec) (hb : c.code = prog_14_method_28_code) (hml : c.maxLocals = 6) (hts : ∀ w ∈ WG, w.before args s = true) (hown : s.vm.findClass "BallothallModel" = some m.cls) (hA : ∀ q, s.heap.size ≤ q → A q) (hG : KG z s) (hZ : XZ A s) {H : Heap} {locs : List Loc} (hk : ∀ ls, lv_has ls 6 [(4, .int sh1), (3, .int (nI (cz (tyz x) (k + 1)))), (0, .ref a0), (1, .long x)] → W p l e R s m args below meth c H locs 0 0 Q (F0 m 6 ls [])) (ls : Array Slot) (hl : lv_has ls 6 [(4, .int sh), (3, .int (nI (cz (tyz x) k))), (0, .ref a0), (1, .long x)]) : W p l e R s m args below meth c H locs 0 0 Q (F0 m 6 ls []) := by
  refine lv_iload hx hb d_14_28_6 (lv_at hl 0 rfl) ?_
  refine lv_if_lt (tgt := 38) hx hb d_14_28_8 (by decide) (fun c9 => absurd c9 hsh) (fun _ => ?_)
  refine lv_iload_n hx hb d_14_28_11 rfl (lv_at hl 1 rfl) ?_
  refine lv_lload_n hx hb d_14_28_12 rfl (lv_at hl 3 rfl) ?_
  refine lv_iload hx hb d_14_28_13 (lv_at hl 0 rfl) ?_
  refine lv_lushr (v := (x.toUInt64 >>> (sh.toInt64.toUInt64 &&& Int64.toUInt64 63)).toInt64) hx hb d_14_28_15 rfl ?_
  refine lv_ldc2 hx hb hown (hts _ w_1727) d_14_28_16 ?_
  refine lv_land hx hb d_14_28_19 ?_
  refine lv_lconst (v := 0) hx hb d_14_28_20 (by decide +kernel) ?_
  refine W.lcmp hx hb d_14_28_21 ?_
  refine lv_if_eq (tgt := 29) hx hb d_14_28_22 (by decide) (fun c9 => ?_) (fun c9 => ?_)
  · have h0 := hz.mp ((lg_cmp_eq _ _).mp c9)
    refine lv_iconst (v := 0) hx hb d_14_28_29 (by decide +kernel) ?_
    refine lv_iadd hx hb d_14_28_30 ?_
    refine nrm (x1 := (nI (cz (tyz x) k))) (Int32.add_zero _) ?_
    refine lv_istore_n (lv' := [(3, .int (nI (cz (tyz x) k))), (4, .int sh), (0, .ref a0), (1, .long x)]) hx hb d_14_28_31 rfl hl (by decide) rfl (fun ls hl => ?_)
    refine lv_iinc (v := sh1) (lv' := [(4, .int sh1), (3, .int (nI (cz (tyz x) k))), (0, .ref a0), (1, .long x)]) hx hb d_14_28_32 hl (k := 1) rfl hsh1 (by decide) rfl (fun ls hl => ?_)
    refine lv_goto (tgt := 6) hx hb d_14_28_35 (by decide) ?_
    exact hk ls (by rw [cz_t h0]; exact hl)
  · have h0 := ty_not hz (fun q => c9 ((lg_cmp_eq _ _).mpr q))
    refine lv_iconst (v := 1) hx hb d_14_28_25 (by decide +kernel) ?_
    refine lv_goto (tgt := 30) hx hb d_14_28_26 (by decide) ?_
    refine lv_iadd hx hb d_14_28_30 ?_
    refine nrm (x1 := nI (cz (tyz x) k + 1)) (nI_1 _) ?_
    refine lv_istore_n (lv' := [(3, .int (nI (cz (tyz x) k + 1))), (4, .int sh), (0, .ref a0), (1, .long x)]) hx hb d_14_28_31 rfl hl (by decide) rfl (fun ls hl => ?_)
    refine lv_iinc (v := sh1) (lv' := [(4, .int sh1), (3, .int (nI (cz (tyz x) k + 1))), (0, .ref a0), (1, .long x)]) hx hb d_14_28_32 hl (k := 1) rfl hsh1 (by decide) rfl (fun ls hl => ?_)
    refine lv_goto (tgt := 6) hx hb d_14_28_35 (by decide) ?_
    exact hk ls (by rw [cz_f h0]; exact hl)
set_option maxRecDepth 100000 in
set_option maxHeartbeats 4000000 in
theorem ty_m2 (l : Launch) (z : Zz) (a0 a1 a2 a3 a4 : Nat) (x : Int64) (k : Nat) (hk8 : k < 8) (M : Int32) (sh sh1 : Int32) (hsh : ¬ sh < 0) (hsh1 : sh + Int32.ofInt (-8) = sh1) (hz : (x.toUInt64 >>> (sh.toInt64.toUInt64 &&& Int64.toUInt64 63)).toInt64 &&& 255 = 0 ↔ tyz x k = true) {p : Program} {e : Env} {R : Room} {s : State} {m : MethodId} {below : List Frame} {meth : Method} {c : Code} {A : Nat → Prop} {Q : State → Prop} {args : Array Value} (hx : p.tables.exec = Jvm.exec) (hb : c.code = prog_14_method_28_code) (hml : c.maxLocals = 6) (hts : ∀ w ∈ WG, w.before args s = true) (hown : s.vm.findClass "BallothallModel" = some m.cls) (hA : ∀ q, s.heap.size ≤ q → A q) (hG : KG z s) (hZ : XZ A s)
    (hk : ∀ (f : Nat → Int32) (H : Heap) (locs : List Loc) (ls : Array Slot), va_P z.1 classes [(a0, .inr (18, [.ref a1, .ref a2, .int 0, .ref a3, .int (nI (cz (tyz x) (k + 1))), .ref a4, .int 0, .null, .int 0, .null, .long 0, .int 0, .null])), (a3, .inl (z.2 0, 30, .inl f))] H → va_D A [(a0, .inr (18, [.ref a1, .ref a2, .int 0, .ref a3, .int (nI (cz (tyz x) (k + 1))), .ref a4, .int 0, .null, .int 0, .null, .long 0, .int 0, .null])), (a3, .inl (z.2 0, 30, .inl f))] → va_S A s.heap H locs → lv_has ls 6 [(4, .int sh1), (3, .int M), (0, .ref a0), (1, .long x)] → W p l e R s m args below meth c H locs 0 0 Q (F0 m 68 ls [])) (f : Nat → Int32) (H : Heap) (locs : List Loc) (ls : Array Slot) (hP : va_P z.1 classes [(a0, .inr (18, [.ref a1, .ref a2, .int 0, .ref a3, .int (nI (cz (tyz x) k)), .ref a4, .int 0, .null, .int 0, .null, .long 0, .int 0, .null])), (a3, .inl (z.2 0, 30, .inl f))] H) (hD : va_D A [(a0, .inr (18, [.ref a1, .ref a2, .int 0, .ref a3, .int (nI (cz (tyz x) k)), .ref a4, .int 0, .null, .int 0, .null, .long 0, .int 0, .null])), (a3, .inl (z.2 0, 30, .inl f))]) (hS : va_S A s.heap H locs) (hl : lv_has ls 6 [(4, .int sh), (3, .int M), (0, .ref a0), (1, .long x)]) : W p l e R s m args below meth c H locs 0 0 Q (F0 m 68 ls []) := by
  refine lv_iload hx hb d_14_28_68 (lv_at hl 0 rfl) ?_
  refine lv_if_lt (tgt := 116) hx hb d_14_28_70 (by decide) (fun c9 => absurd c9 hsh) (fun _ => ?_)
  refine lv_lload_n hx hb d_14_28_73 rfl (lv_at hl 3 rfl) ?_
  refine lv_iload hx hb d_14_28_74 (lv_at hl 0 rfl) ?_
  refine lv_lushr (v := (x.toUInt64 >>> (sh.toInt64.toUInt64 &&& Int64.toUInt64 63)).toInt64) hx hb d_14_28_76 rfl ?_
  refine lv_ldc2 hx hb hown (hts _ w_1727) d_14_28_77 ?_
  refine lv_land hx hb d_14_28_80 ?_
  refine lv_l2i (v := ((x.toUInt64 >>> (sh.toInt64.toUInt64 &&& Int64.toUInt64 63)).toInt64 &&& 255).toInt32) hx hb d_14_28_81 rfl ?_
  refine lv_istore (lv' := [(5, .int ((x.toUInt64 >>> (sh.toInt64.toUInt64 &&& Int64.toUInt64 63)).toInt64 &&& 255).toInt32), (4, .int sh), (3, .int M), (0, .ref a0), (1, .long x)]) hx hb d_14_28_82 hl (by decide) rfl (fun ls hl => ?_)
  refine lv_iload hx hb d_14_28_84 (lv_at hl 0 rfl) ?_
  have hcl := cz_le (tyz x) k
  refine lv_if_eq (tgt := 110) hx hb d_14_28_86 (by decide) (fun c9 => ?_) (fun c9 => ?_)
  · have h0 := hz.mp ((ty_z _).mp c9)
    refine lv_iinc (v := sh1) (lv' := [(4, .int sh1), (5, .int ((x.toUInt64 >>> (sh.toInt64.toUInt64 &&& Int64.toUInt64 63)).toInt64 &&& 255).toInt32), (3, .int M), (0, .ref a0), (1, .long x)]) hx hb d_14_28_110 hl (k := 1) rfl hsh1 (by decide) rfl (fun ls hl => ?_)
    refine lv_goto (tgt := 68) hx hb d_14_28_113 (by decide) ?_
    exact hk f H locs ls (by rw [cz_t h0]; exact hP) (by rw [cz_t h0]; exact hD) hS (lv_sub hl [0, 2, 3, 4] rfl)
  · have h0 := ty_not hz (fun q => c9 ((ty_z _).mpr q))
    refine lv_aload_n hx hb d_14_28_89 rfl (lv_at hl 3 rfl) ?_
    refine va_get (D := z.1) (ci := 18) (v := .ref a3) (C := "BallothallModel") (T := TX18) (N := 13) hx hb hts iX18 hown hG.1 hP 0 rfl rfl 3 (by decide) (hts _ w_1648) (fun _ h9 => h9) rfl d_14_28_90 ?_
    refine lv_aload_n hx hb d_14_28_93 rfl (lv_at hl 3 rfl) ?_
    refine va_get (D := z.1) (ci := 18) (v := .int (nI (cz (tyz x) k))) (C := "BallothallModel") (T := TX18) (N := 13) hx hb hts iX18 hown hG.1 hP 0 rfl rfl 4 (by decide) (hts _ w_1649) (fun _ h9 => h9) rfl d_14_28_94 ?_
    refine lv_iload hx hb d_14_28_97 (lv_at hl 0 rfl) ?_
    refine va_iast hx hb hG.1 hP hD hS 1 0 rfl rfl (vp_in_nI (by omega) (by decide)) d_14_28_99 (fun H locs hP hD hS => ?_)
    rw [nI_clamp (show cz (tyz x) k < 2 ^ 31 by omega)] at hP hD
    have hP : va_P z.1 classes [(a0, .inr (18, [.ref a1, .ref a2, .int 0, .ref a3, .int (nI (cz (tyz x) k)), .ref a4, .int 0, .null, .int 0, .null, .long 0, .int 0, .null])), (a3, .inl (z.2 0, 30, .inl (upd f (cz (tyz x) k) ((x.toUInt64 >>> (sh.toInt64.toUInt64 &&& Int64.toUInt64 63)).toInt64 &&& 255).toInt32)))] H := hP
    have hD : va_D A [(a0, .inr (18, [.ref a1, .ref a2, .int 0, .ref a3, .int (nI (cz (tyz x) k)), .ref a4, .int 0, .null, .int 0, .null, .long 0, .int 0, .null])), (a3, .inl (z.2 0, 30, .inl (upd f (cz (tyz x) k) ((x.toUInt64 >>> (sh.toInt64.toUInt64 &&& Int64.toUInt64 63)).toInt64 &&& 255).toInt32)))] := hD
    refine lv_aload_n hx hb d_14_28_100 rfl (lv_at hl 3 rfl) ?_
    refine lv_dup hx hb d_14_28_101 rfl ?_
    refine va_get (D := z.1) (ci := 18) (v := .int (nI (cz (tyz x) k))) (C := "BallothallModel") (T := TX18) (N := 13) hx hb hts iX18 hown hG.1 hP 0 rfl rfl 4 (by decide) (hts _ w_1649) (fun _ h9 => h9) rfl d_14_28_102 ?_
    refine lv_iconst (v := 1) hx hb d_14_28_105 (by decide +kernel) ?_
    refine lv_iadd hx hb d_14_28_106 ?_
    refine nrm (x1 := nI (cz (tyz x) k + 1)) (nI_1 _) ?_
    refine va_put (D := z.1) (ci := 18) (v := .int (nI (cz (tyz x) k + 1))) (ty := .int) (C := "BallothallModel") (T := TX18) (N := 13) hx hb hts iX18 tyX18 tyX18_ok nmX18 hown hG.1 hP hD hS 0 rfl rfl 4 (by decide) (hts _ w_1649) (fun _ h9 => h9) rfl (by decide +kernel) rfl rfl (Nat.le_of_ble_eq_true rfl) d_14_28_107 (fun H locs hP hD hS => ?_)
    have hP : va_P z.1 classes [(a0, .inr (18, [.ref a1, .ref a2, .int 0, .ref a3, .int (nI (cz (tyz x) k + 1)), .ref a4, .int 0, .null, .int 0, .null, .long 0, .int 0, .null])), (a3, .inl (z.2 0, 30, .inl (upd f (cz (tyz x) k) ((x.toUInt64 >>> (sh.toInt64.toUInt64 &&& Int64.toUInt64 63)).toInt64 &&& 255).toInt32)))] H := hP
    have hD : va_D A [(a0, .inr (18, [.ref a1, .ref a2, .int 0, .ref a3, .int (nI (cz (tyz x) k + 1)), .ref a4, .int 0, .null, .int 0, .null, .long 0, .int 0, .null])), (a3, .inl (z.2 0, 30, .inl (upd f (cz (tyz x) k) ((x.toUInt64 >>> (sh.toInt64.toUInt64 &&& Int64.toUInt64 63)).toInt64 &&& 255).toInt32)))] := hD
    refine lv_iinc (v := sh1) (lv' := [(4, .int sh1), (5, .int ((x.toUInt64 >>> (sh.toInt64.toUInt64 &&& Int64.toUInt64 63)).toInt64 &&& 255).toInt32), (3, .int M), (0, .ref a0), (1, .long x)]) hx hb d_14_28_110 hl (k := 1) rfl hsh1 (by decide) rfl (fun ls hl => ?_)
    refine lv_goto (tgt := 68) hx hb d_14_28_113 (by decide) ?_
    exact hk _ H locs ls (by rw [cz_f h0]; exact hP) (by rw [cz_f h0]; exact hD) hS (lv_sub hl [0, 2, 3, 4] rfl)
set_option maxRecDepth 100000 in
set_option maxHeartbeats 4000000 in
theorem c_mty (l : Launch) (z : Zz) (a0 a1 a2 a3 a4 : Nat) (x : Int64) : CT l z ⟨"BallothallModel", "type", "(J)I"⟩ prog_14_method_28_code 6 (some .int) [.ref a0, .long x] [(a0, .inr (18, [.ref a1, .ref a2, .int 0, .ref a3, .int 0, .ref a4, .int 0, .null, .int 0, .null, .long 0, .int 0, .null])), (a3, .inl (z.2 0, 30, .inl (fun _ => 0)))] 4 160 0 0 (fun u => some (.int (tyc x))) (fun u => [(a0, .inr (18, [.ref a1, .ref a2, .int 0, .ref a3, .int (tyc x), .ref a4, .int 0, .null, .int 0, .null, .long 0, .int 0, .null]))]) := by
  refine CT.of (own := "BallothallModel") (by decide +kernel) (Nat.le_of_ble_eq_true rfl) rfl (fun p e s m below meth c A ls hx hb hml hr hts hown hlocks hin hA hG hZ hP hD hS hl => ?_)
  have hl : lv_has ls 6 [(0, .ref a0), (1, .long x)] := hl
  refine lv_iconst (v := 0) hx hb d_14_28_0 (by decide +kernel) ?_
  refine lv_istore_n (lv' := [(3, .int 0), (0, .ref a0), (1, .long x)]) hx hb d_14_28_1 rfl hl (by decide) rfl (fun ls hl => ?_)
  refine lv_bipush (v := 56) hx hb d_14_28_2 (by decide +kernel) ?_
  refine lv_istore (lv' := [(4, .int 56), (3, .int (nI (cz (tyz x) 0))), (0, .ref a0), (1, .long x)]) hx hb d_14_28_4 hl (by decide) rfl (fun ls hl => ?_)
  refine ty_m1 l z a0 x 0 56 48 (by decide +kernel) (by decide +kernel) (ty_u x 56 0 rfl) hx hb hml hts hown hA hG hZ (fun ls hl => ?_) ls hl
  refine ty_m1 l z a0 x 1 48 40 (by decide +kernel) (by decide +kernel) (ty_u x 48 1 rfl) hx hb hml hts hown hA hG hZ (fun ls hl => ?_) ls hl
  refine ty_m1 l z a0 x 2 40 32 (by decide +kernel) (by decide +kernel) (ty_u x 40 2 rfl) hx hb hml hts hown hA hG hZ (fun ls hl => ?_) ls hl
  refine ty_m1 l z a0 x 3 32 24 (by decide +kernel) (by decide +kernel) (ty_u x 32 3 rfl) hx hb hml hts hown hA hG hZ (fun ls hl => ?_) ls hl
  refine ty_m1 l z a0 x 4 24 16 (by decide +kernel) (by decide +kernel) (ty_u x 24 4 rfl) hx hb hml hts hown hA hG hZ (fun ls hl => ?_) ls hl
  refine ty_m1 l z a0 x 5 16 8 (by decide +kernel) (by decide +kernel) (ty_u x 16 5 rfl) hx hb hml hts hown hA hG hZ (fun ls hl => ?_) ls hl
  refine ty_m1 l z a0 x 6 8 0 (by decide +kernel) (by decide +kernel) (ty_u x 8 6 rfl) hx hb hml hts hown hA hG hZ (fun ls hl => ?_) ls hl
  refine ty_m1 l z a0 x 7 0 (-8) (by decide +kernel) (by decide +kernel) (ty_u x 0 7 rfl) hx hb hml hts hown hA hG hZ (fun ls hl => ?_) ls hl
  refine lv_iload hx hb d_14_28_6 (lv_at hl 0 rfl) ?_
  refine lv_if_lt (tgt := 38) hx hb d_14_28_8 (by decide) (fun _ => ?_) (fun c9 => absurd (by decide +kernel) c9)
  have h8 := cz_le (tyz x) 8
  have h30 : ¬ 30 < nI (cz (tyz x) (7 + 1)) := nI_nlt (a := 30) (show cz (tyz x) 8 ≤ 30 by omega) (by decide)
  refine lv_aload_n hx hb d_14_28_38 rfl (lv_at hl 2 rfl) ?_
  refine lv_aload_n hx hb d_14_28_39 rfl (lv_at hl 2 rfl) ?_
  refine va_get (D := z.1) (ci := 18) (v := .int 0) (C := "BallothallModel") (T := TX18) (N := 13) hx hb hts iX18 hown hG.1 hP 0 rfl rfl 4 (by decide) (hts _ w_1649) (fun _ h9 => h9) rfl d_14_28_40 ?_
  refine lv_iload_n hx hb d_14_28_43 rfl (lv_at hl 1 rfl) ?_
  refine lv_iadd hx hb d_14_28_44 ?_
  refine nrm (x1 := (nI (cz (tyz x) (7 + 1)))) (Int32.zero_add _) ?_
  refine lv_bipush (v := 30) hx hb d_14_28_45 (by decide +kernel) ?_
  refine lv_icmp_gt (tgt := 54) hx hb d_14_28_47 (by decide) (fun c9 => absurd c9 h30) (fun _ => ?_)
  refine lv_iconst (v := 1) hx hb d_14_28_50 (by decide +kernel) ?_
  refine lv_goto (tgt := 55) hx hb d_14_28_51 (by decide) ?_
  refine lv_iconst (v := 1) hx hb d_14_28_55 (by decide +kernel) ?_
  refine kV (As := [.int 1, .int 1]) (rest := []) (wr := [(a3, .inl (z.2 0, 30, .inl (fun _ => 0)))]) (c16_BModel_ends l z a0 a1 a2 a3 a4) hx hb hml hown hts w_1696 w_1693 w_1695 w_s_f8f2b7 w_12 md_77b0f8 ⟨Nat.le_of_ble_eq_true rfl, Nat.le_of_ble_eq_true rfl⟩ hG hZ hP hD hS hA 0 rfl rfl rfl [0] [1] rfl rfl rfl rfl rfl hl.1 rfl (Nat.le_of_ble_eq_true rfl) d_14_28_56 ⟨Nat.le_of_ble_eq_true rfl, Nat.le_of_ble_eq_true rfl⟩ (fun u0 H locs hP hD hS => ?_)
  have hP : va_P z.1 classes [(a3, .inl (z.2 0, 30, .inl (fun _ => 0))), (a0, .inr (18, [.ref a1, .ref a2, .int 0, .ref a3, .int 0, .ref a4, .int 0, .null, .int 0, .null, .long 0, .int 0, .null]))] H := hP
  have hD : va_D A [(a3, .inl (z.2 0, 30, .inl (fun _ => 0))), (a0, .inr (18, [.ref a1, .ref a2, .int 0, .ref a3, .int 0, .ref a4, .int 0, .null, .int 0, .null, .long 0, .int 0, .null]))] := hD
  refine W.eq (g2 := F0 m 59 ls [.int 0]) rfl ?_
  refine lv_if_eq (tgt := 64) hx hb d_14_28_59 (by decide) (fun _ => ?_) (fun c9 => absurd (by decide +kernel) c9)
  refine lv_bipush (v := 56) hx hb d_14_28_64 (by decide +kernel) ?_
  refine lv_istore (lv' := [(4, .int 56), (3, .int (nI (cz (tyz x) (7 + 1)))), (0, .ref a0), (1, .long x)]) hx hb d_14_28_66 hl (by decide) rfl (fun ls hl => ?_)
  have hP := hP.sub (ws' := [(a0, .inr (18, [.ref a1, .ref a2, .int 0, .ref a3, .int (nI (cz (tyz x) 0)), .ref a4, .int 0, .null, .int 0, .null, .long 0, .int 0, .null])), (a3, .inl (z.2 0, 30, .inl (fun _ => 0)))]) [1, 0] rfl
  have hD := hD.sub (ws' := [(a0, .inr (18, [.ref a1, .ref a2, .int 0, .ref a3, .int (nI (cz (tyz x) 0)), .ref a4, .int 0, .null, .int 0, .null, .long 0, .int 0, .null])), (a3, .inl (z.2 0, 30, .inl (fun _ => 0)))]) [1, 0] rfl rfl
  have hl := lv_sub (l' := [(4, .int 56), (3, .int (nI (cz (tyz x) (7 + 1)))), (0, .ref a0), (1, .long x)]) hl [0, 1, 2, 3] rfl
  refine W.widen (k := 0) (n := 0) (Nat.le_of_ble_eq_true rfl) (Nat.le_of_ble_eq_true rfl) ?_
  refine ty_m2 l z a0 a1 a2 a3 a4 x 0 (by decide) (nI (cz (tyz x) (7 + 1))) 56 48 (by decide +kernel) (by decide +kernel) (ty_u x 56 0 rfl) hx hb hml hts hown hA hG hZ (fun f0 H locs ls hP hD hS hl => ?_) (fun _ => 0) H locs ls hP hD hS hl
  refine ty_m2 l z a0 a1 a2 a3 a4 x 1 (by decide) (nI (cz (tyz x) (7 + 1))) 48 40 (by decide +kernel) (by decide +kernel) (ty_u x 48 1 rfl) hx hb hml hts hown hA hG hZ (fun f1 H locs ls hP hD hS hl => ?_) f0 H locs ls hP hD hS hl
  refine ty_m2 l z a0 a1 a2 a3 a4 x 2 (by decide) (nI (cz (tyz x) (7 + 1))) 40 32 (by decide +kernel) (by decide +kernel) (ty_u x 40 2 rfl) hx hb hml hts hown hA hG hZ (fun f2 H locs ls hP hD hS hl => ?_) f1 H locs ls hP hD hS hl
  refine ty_m2 l z a0 a1 a2 a3 a4 x 3 (by decide) (nI (cz (tyz x) (7 + 1))) 32 24 (by decide +kernel) (by decide +kernel) (ty_u x 32 3 rfl) hx hb hml hts hown hA hG hZ (fun f3 H locs ls hP hD hS hl => ?_) f2 H locs ls hP hD hS hl
  refine ty_m2 l z a0 a1 a2 a3 a4 x 4 (by decide) (nI (cz (tyz x) (7 + 1))) 24 16 (by decide +kernel) (by decide +kernel) (ty_u x 24 4 rfl) hx hb hml hts hown hA hG hZ (fun f4 H locs ls hP hD hS hl => ?_) f3 H locs ls hP hD hS hl
  refine ty_m2 l z a0 a1 a2 a3 a4 x 5 (by decide) (nI (cz (tyz x) (7 + 1))) 16 8 (by decide +kernel) (by decide +kernel) (ty_u x 16 5 rfl) hx hb hml hts hown hA hG hZ (fun f5 H locs ls hP hD hS hl => ?_) f4 H locs ls hP hD hS hl
  refine ty_m2 l z a0 a1 a2 a3 a4 x 6 (by decide) (nI (cz (tyz x) (7 + 1))) 8 0 (by decide +kernel) (by decide +kernel) (ty_u x 8 6 rfl) hx hb hml hts hown hA hG hZ (fun f6 H locs ls hP hD hS hl => ?_) f5 H locs ls hP hD hS hl
  refine ty_m2 l z a0 a1 a2 a3 a4 x 7 (by decide) (nI (cz (tyz x) (7 + 1))) 0 (-8) (by decide +kernel) (by decide +kernel) (ty_u x 0 7 rfl) hx hb hml hts hown hA hG hZ (fun f7 H locs ls hP hD hS hl => ?_) f6 H locs ls hP hD hS hl
  refine lv_iload hx hb d_14_28_68 (lv_at hl 0 rfl) ?_
  refine lv_if_lt (tgt := 116) hx hb d_14_28_70 (by decide) (fun _ => ?_) (fun c9 => absurd (by decide +kernel) c9)
  refine lv_aload_n hx hb d_14_28_116 rfl (lv_at hl 2 rfl) ?_
  refine va_get (D := z.1) (ci := 18) (v := .int (tyc x)) (C := "BallothallModel") (T := TX18) (N := 13) hx hb hts iX18 hown hG.1 hP 0 rfl rfl 4 (by decide) (hts _ w_1649) (fun _ h9 => h9) rfl d_14_28_117 ?_
  exact W.iret hx hb hr (fun t ht hW => qk hP hD hS [0] rfl (fun k => k, fun _ _ => none) rfl rfl rfl ht) hS.2.2 d_14_28_120
