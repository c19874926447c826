set_option maxRecDepth 100000 in
set_option maxHeartbeats 4000000 in
theorem s_La_seats (l : Launch) (z : Zz) (ad : Nat → Nat) (E : Ev) (M : Mm) (p0 : Nat) (r : Int) (F : Ev) (N : Mm) (h : f_La_seats E M p0 = some (r, F, N)) : CT l z ⟨"BallothallLaw", "seats", "([I)Z"⟩ method_11_code 20 (some .boolean) [.ref (ad p0)] (wv z ad E M) 7 190 352 10167 (fun u => some (.int (oI r))) (fun u => wv z (adj E ad u) F N) := by
  refine CT.of (own := "BallothallLaw") (by decide +kernel) (Nat.le_of_ble_eq_true rfl) rfl (fun p e s m below meth c A ls hx hb hml hr hts hown hlocks hin hA hG hZ hP hD hS hl => ?_)
  have hl : lv_has ls 20 [(0, .ref (ad p0))] := hl
  have key : ∀ (E0 : Ev) (ad0 : Nat → Nat) (mc ms c0 s0 c1 s1 : Nat) (H : Heap) (locs : List Loc) (args : Array Value), c0 + 352 ≤ c1 → s0 + 10167 ≤ s1 → c1 ≤ mc → s1 ≤ ms → (∀ i, i < nE E0 → ad i = ad0 i) → nE E0 ≤ nE E → (∀ w ∈ WG, w.before args s = true) → va_P z.1 classes (wv z ad E M) H → va_S A s.heap H locs → W p l e (rmK 7 190 mc ms) s m args below meth c H locs c0 s0 (MQ below (QK z A (fun u => some (.int (oI r))) (fun u => wv z (adj E0 ad0 u) F N)) args s c1 s1 A) (F0 m 0 ls []) := by
    intro E0 ad0 mc ms c0 s0 c1 s1 H locs args hc hs hm hm2 hag0 hE0 hts hP hS
    unfold f_La_seats at h
    obtain ⟨h_p0, h⟩ := ck_e h
    obtain ⟨p100, ep100, h⟩ := nb_e h
    obtain ⟨E100, eE100, h⟩ := nb_e h
    obtain ⟨M100, eM100, h⟩ := nb_e h
    refine m_newO (ci := 11) (C := "Ballothall") (T := TX11) (n := 14) hx hb hts iX11 tyX11_ok hown w_32 w_33 w_1 rfl (fun _ => fsX11) hG hP hD hS hA (show _ ≤ mc by omega) (show _ ≤ ms by omega) d_L11_0 (fun ad100 H hag100 hP hD hS => ?_)
    have hP : va_P z.1 classes (wv z ad100 E100 M100) H := by rw [eE100, eM100]; exact hP
    have hD : va_D A (wv z ad100 E100 M100) := by rw [eE100, eM100]; exact hD
    refine W.eq (g2 := F0 m 3 ls (.ref (ad100 p100) :: [])) (by rw [ep100] <;> rfl) ?_
    have hl : lv_has ls 20 [(0, .ref (ad100 p0))] := by rw [hag100 p0 h_p0.1]; exact hl
    have hgw100 : Gw E E100 := by rw [eE100]; exact gw_new _ _
    have hag0 : ∀ i, i < nE E0 → ad100 i = ad0 i := fun i hi => (hag100 i (Nat.lt_of_lt_of_le hi hE0)).trans (hag0 i hi)
    have hE0 : nE E0 ≤ nE E100 := Nat.le_trans hE0 hgw100.1
    have h_p0 : isIA E100 p0 := isA_up hgw100 h_p0
    have h_p100 : isO 11 E100 p100 := by rw [ep100, eE100]; exact ⟨new_i _ _, new_T _ _⟩
    refine lv_dup hx hb d_L11_3 rfl ?_
    obtain ⟨⟨E101, M101⟩, g101, h⟩ := bd_e h
    obtain ⟨hgw101, h⟩ := ck_e h
    refine kI (As := []) (rest := [.ref (ad100 p100)]) (s_B_init l z ad100 E100 M100 p100 E101 M101 g101) hx hb hml hown hts w_36 w_34 w_35 rfl w_1 md_22f6df ⟨Nat.le_of_ble_eq_true rfl, Nat.le_of_ble_eq_true rfl⟩ hG hZ hP hD hS hA rfl hl.1 rfl (Nat.le_of_ble_eq_true rfl) d_L11_4 ⟨(show _ ≤ mc by omega), (show _ ≤ ms by omega)⟩ (fun u101 H locs hP hD hS => ?_)
    obtain ⟨ad101, had101⟩ : ∃ q, q = adj E100 ad100 u101 := ⟨_, rfl⟩
    have hP : va_P z.1 classes (wv z ad101 E101 M101) H := by rw [had101]; exact hP
    have hD : va_D A (wv z ad101 E101 M101) := by rw [had101]; exact hD
    have hag101 : ∀ i, i < nE E100 → ad101 i = ad100 i := fun i hi => by rw [had101]; exact adj_lt hi
    have hl : lv_has ls 20 [(0, .ref (ad101 p0))] := by rw [hag101 p0 h_p0.1]; exact hl
    refine W.eq (g2 := F0 m 7 ls [.ref (ad101 p100)]) (by rw [hag101 p100 h_p100.1] <;> rfl) ?_
    have hag0 : ∀ i, i < nE E0 → ad101 i = ad0 i := fun i hi => (hag101 i (Nat.lt_of_lt_of_le hi hE0)).trans (hag0 i hi)
    have hE0 : nE E0 ≤ nE E101 := Nat.le_trans hE0 hgw101.1
    have h_p0 : isIA E101 p0 := isA_up hgw101 h_p0
    have h_p100 : isO 11 E101 p100 := isO_up hgw101 h_p100
    obtain ⟨⟨hL, ep1⟩, h⟩ := ck_e h
    refine W.eq (g2 := F0 m 7 ls [.ref (ad101 1)]) (by rw [ep1] <;> rfl) ?_
    refine lv_astore_n (lv' := [(1, .ref (ad101 1)), (0, .ref (ad101 p0))]) hx hb d_L11_7 rfl hl (by decide) rfl (fun ls hl => ?_)
    refine lv_iconst (v := oI 1) hx hb d_L11_8 (by decide +kernel) ?_
    refine lv_aload_n hx hb d_L11_9 rfl (lv_at hl 1 rfl) ?_
    refine lv_bipush (v := oI 8) hx hb d_L11_10 (by decide +kernel) ?_
    obtain ⟨⟨r102, M102⟩, g102, h⟩ := bd_e h
    refine kS (As := [.ref (ad101 p0), .int (oI 8)]) (rest := [.int (oI 1)]) (s_La_next l z ad101 E101 M101 p0 8 r102 M102 hL g102) hx hb hml hown hts w_797 w_795 w_796 w_0 md_199d8f ⟨Nat.le_of_ble_eq_true rfl, Nat.le_of_ble_eq_true rfl⟩ hG hZ hP hD hS hA rfl hl.1 rfl (Nat.le_of_ble_eq_true rfl) d_L11_12 ⟨(show _ ≤ mc by omega), (show _ ≤ ms by omega)⟩ (fun _ H locs hP hD hS => ?_)
    have hP : va_P z.1 classes (wv z ad101 E101 M102) H := hP
    have hD : va_D A (wv z ad101 E101 M102) := hD
    refine W.eq (g2 := F0 m 15 ls [.int (oI r102), .int (oI 1)]) rfl ?_
    refine lv_iadd hx hb d_L11_15 ?_
    refine nrm (oI_add _ _) ?_
    refine lv_istore_n (lv' := [(2, .int (oI (1 + r102))), (1, .ref (ad101 1)), (0, .ref (ad101 p0))]) hx hb d_L11_16 rfl hl (by decide) rfl (fun ls hl => ?_)
    refine lv_iload_n hx hb d_L11_17 rfl (lv_at hl 0 rfl) ?_
    obtain ⟨ok103, h⟩ := ck_e h
    obtain ⟨p104, ep104, h⟩ := nb_e h
    obtain ⟨E104, eE104, h⟩ := nb_e h
    obtain ⟨M104, eM104, h⟩ := nb_e h
    refine m_newI (x := (1 + r102)) (N := 64) hx hb ok103.1 ok103.2 (by decide) (hts _ w_100) hG hP hD hS hA (show _ ≤ mc by omega) (show _ ≤ ms by omega) d_L11_18 (fun ad104 H hag104 hP hD hS => ?_)
    have hP : va_P z.1 classes (wv z ad104 E104 M104) H := by rw [eE104, eM104]; exact hP
    have hD : va_D A (wv z ad104 E104 M104) := by rw [eE104, eM104]; exact hD
    refine W.eq (g2 := F0 m 20 ls (.ref (ad104 p104) :: [])) (by rw [ep104] <;> rfl) ?_
    have hl : lv_has ls 20 [(2, .int (oI (1 + r102))), (1, .ref (ad104 1)), (0, .ref (ad104 p0))] := by rw [hag104 1 (yi_1 hL), hag104 p0 h_p0.1]; exact hl
    have hgw104 : Gw E101 E104 := by rw [eE104]; exact gw_new _ _
    have hL104 : Lay E104 := by rw [eE104]; exact lay_new hL
    have hag0 : ∀ i, i < nE E0 → ad104 i = ad0 i := fun i hi => (hag104 i (Nat.lt_of_lt_of_le hi hE0)).trans (hag0 i hi)
    have hE0 : nE E0 ≤ nE E104 := Nat.le_trans hE0 hgw104.1
    have hL : Lay E104 := hL104
    have h_p0 : isIA E104 p0 := isA_up hgw104 h_p0
    have h_p104 : isIA E104 p104 := by rw [ep104, eE104]; exact ⟨new_i _ _, by rw [new_T]⟩
    refine lv_astore_n (lv' := [(3, .ref (ad104 p104)), (2, .int (oI (1 + r102))), (1, .ref (ad104 1)), (0, .ref (ad104 p0))]) hx hb d_L11_20 rfl hl (by decide) rfl (fun ls hl => ?_)
    refine lv_lconst (v := oJ 0) hx hb d_L11_21 (by decide +kernel) ?_
    refine lv_lstore (lv' := [(4, .long (oJ 0)), (3, .ref (ad104 p104)), (2, .int (oI (1 + r102))), (1, .ref (ad104 1)), (0, .ref (ad104 p0))]) hx hb d_L11_22 hl (by decide) rfl (fun ls hl => ?_)
    refine lv_iconst (v := oI 0) hx hb d_L11_24 (by decide +kernel) ?_
    refine lv_istore (lv' := [(6, .int (oI 0)), (4, .long (oJ 0)), (3, .ref (ad104 p104)), (2, .int (oI (1 + r102))), (1, .ref (ad104 1)), (0, .ref (ad104 p0))]) hx hb d_L11_25 hl (by decide) rfl (fun ls hl => ?_)
    obtain ⟨⟨t120, v120_4, v120_6, E120, M120⟩, g120, h⟩ := bd_e h
    obtain ⟨hgw120, h⟩ := ck_e h
    obtain ⟨hL120, h⟩ := ck_e h
    obtain ⟨ok120, h⟩ := ck_e h
    refine s_La_seats_27 l z E104 ad104 p0 (1 + r102) p104 hx hb hml hts hown hlocks hA hG hZ mc ms (c0 + 351) (s0 + 10103) (by omega) (by omega) 5000 _ _ ad104 E104 M104 0 0 t120 v120_4 v120_6 E120 M120 (by omega) (by omega) (fun _ _ => rfl) (Nat.le_refl _) g120 (fun ad120 hag120 hEE120 e120 H locs ls hP hD hS hl => ?_) H locs ls hP hD hS (lv_sub hl [5, 4, 3, 2, 1, 0] rfl)
    have hag0 : ∀ i, i < nE E0 → ad120 i = ad0 i := fun i hi => (hag120 i (Nat.lt_of_lt_of_le hi hE0)).trans (hag0 i hi)
    have hE0 : nE E0 ≤ nE E120 := Nat.le_trans hE0 hgw120.1
    have hL : Lay E120 := hL120
    have h_p0 : isIA E120 p0 := isA_up hgw120 h_p0
    have h_p104 : isIA E120 p104 := isA_up hgw120 h_p104
    refine lv_aload_n hx hb d_L11_113 rfl (lv_at hl 0 rfl) ?_
    refine lv_bipush (v := oI 6) hx hb d_L11_114 (by decide +kernel) ?_
    obtain ⟨⟨r121, M121⟩, g121, h⟩ := bd_e h
    refine kS (As := [.ref (ad120 p0), .int (oI 6)]) (rest := []) (s_La_next l z ad120 E120 M120 p0 6 r121 M121 hL g121) hx hb hml hown hts w_797 w_795 w_796 w_0 md_199d8f ⟨Nat.le_of_ble_eq_true rfl, Nat.le_of_ble_eq_true rfl⟩ hG hZ hP hD hS hA rfl hl.1 rfl (Nat.le_of_ble_eq_true rfl) d_L11_116 ⟨(show _ ≤ mc by omega), (show _ ≤ ms by omega)⟩ (fun _ H locs hP hD hS => ?_)
    have hP : va_P z.1 classes (wv z ad120 E120 M121) H := hP
    have hD : va_D A (wv z ad120 E120 M121) := hD
    refine W.eq (g2 := F0 m 119 ls [.int (oI r121)]) rfl ?_
    refine lv_istore (lv' := [(6, .int (oI r121)), (0, .ref (ad120 p0)), (1, .ref (ad120 1)), (2, .int (oI (1 + r102))), (3, .ref (ad120 p104)), (4, .long (oJ v120_4))]) hx hb d_L11_119 hl (by decide) rfl (fun ls hl => ?_)
    refine lv_iconst (v := oI 1) hx hb d_L11_121 (by decide +kernel) ?_
    refine lv_aload_n hx hb d_L11_122 rfl (lv_at hl 1 rfl) ?_
    refine lv_bipush (v := oI 60) hx hb d_L11_123 (by decide +kernel) ?_
    obtain ⟨⟨r122, M122⟩, g122, h⟩ := bd_e h
    refine kS (As := [.ref (ad120 p0), .int (oI 60)]) (rest := [.int (oI 1)]) (s_La_next l z ad120 E120 M121 p0 60 r122 M122 hL g122) hx hb hml hown hts w_797 w_795 w_796 w_0 md_199d8f ⟨Nat.le_of_ble_eq_true rfl, Nat.le_of_ble_eq_true rfl⟩ hG hZ hP hD hS hA rfl hl.1 rfl (Nat.le_of_ble_eq_true rfl) d_L11_125 ⟨(show _ ≤ mc by omega), (show _ ≤ ms by omega)⟩ (fun _ H locs hP hD hS => ?_)
    have hP : va_P z.1 classes (wv z ad120 E120 M122) H := hP
    have hD : va_D A (wv z ad120 E120 M122) := hD
    refine W.eq (g2 := F0 m 128 ls [.int (oI r122), .int (oI 1)]) rfl ?_
    refine lv_iadd hx hb d_L11_128 ?_
    refine nrm (oI_add _ _) ?_
    refine lv_istore (lv' := [(7, .int (oI (1 + r122))), (6, .int (oI r121)), (0, .ref (ad120 p0)), (1, .ref (ad120 1)), (2, .int (oI (1 + r102))), (3, .ref (ad120 p104)), (4, .long (oJ v120_4))]) hx hb d_L11_129 hl (by decide) rfl (fun ls hl => ?_)
    refine lv_aload_n hx hb d_L11_131 rfl (lv_at hl 3 rfl) ?_
    refine lv_iload hx hb d_L11_132 (lv_at hl 1 rfl) ?_
    refine lv_iload hx hb d_L11_134 (lv_at hl 0 rfl) ?_
    refine lv_iconst (v := oI 0) hx hb d_L11_136 (by decide +kernel) ?_
    obtain ⟨⟨r123, M123⟩, g123, h⟩ := bd_e h
    refine kV (As := [.int (oI r121), .int (oI (1 + r122)), .int (oI 0)]) (rest := []) (s_B_seats l z ad120 E120 M122 r121 (1 + r122) 0 r123 M123 hL g123) hx hb hml hown hts w_1520 w_1517 w_1518 w_1519 w_1 md_fbc403 ⟨Nat.le_of_ble_eq_true rfl, Nat.le_of_ble_eq_true rfl⟩ hG hZ hP hD hS hA 1 (wv_o (ci := 11) (yi_1 hL) (yt_1 hL)) rfl rfl rfl hl.1 rfl (Nat.le_of_ble_eq_true rfl) d_L11_137 ⟨(show _ ≤ mc by omega), (show _ ≤ ms by omega)⟩ (fun _ H locs hP hD hS => ?_)
    have hP : va_P z.1 classes (wv z ad120 E120 M123) H := hP
    have hD : va_D A (wv z ad120 E120 M123) := hD
    refine W.eq (g2 := F0 m 140 ls [.int (oI r123)]) rfl ?_
    refine lv_istore (lv' := [(8, .int (oI r123)), (7, .int (oI (1 + r122))), (6, .int (oI r121)), (0, .ref (ad120 p0)), (1, .ref (ad120 1)), (2, .int (oI (1 + r102))), (3, .ref (ad120 p104)), (4, .long (oJ v120_4))]) hx hb d_L11_140 hl (by decide) rfl (fun ls hl => ?_)
    refine lv_lconst (v := oJ 0) hx hb d_L11_142 (by decide +kernel) ?_
    refine lv_lstore (lv' := [(9, .long (oJ 0)), (8, .int (oI r123)), (7, .int (oI (1 + r122))), (6, .int (oI r121)), (0, .ref (ad120 p0)), (1, .ref (ad120 1)), (2, .int (oI (1 + r102))), (3, .ref (ad120 p104)), (4, .long (oJ v120_4))]) hx hb d_L11_143 hl (by decide) rfl (fun ls hl => ?_)
    refine lv_iconst (v := oI 1) hx hb d_L11_145 (by decide +kernel) ?_
    refine lv_istore (lv' := [(11, .int (oI 1)), (9, .long (oJ 0)), (8, .int (oI r123)), (7, .int (oI (1 + r122))), (6, .int (oI r121)), (0, .ref (ad120 p0)), (1, .ref (ad120 1)), (2, .int (oI (1 + r102))), (3, .ref (ad120 p104)), (4, .long (oJ v120_4))]) hx hb d_L11_146 hl (by decide) rfl (fun ls hl => ?_)
    refine lv_iconst (v := oI 0) hx hb d_L11_148 (by decide +kernel) ?_
    refine lv_istore (lv' := [(12, .int (oI 0)), (11, .int (oI 1)), (9, .long (oJ 0)), (8, .int (oI r123)), (7, .int (oI (1 + r122))), (6, .int (oI r121)), (0, .ref (ad120 p0)), (1, .ref (ad120 1)), (2, .int (oI (1 + r102))), (3, .ref (ad120 p104)), (4, .long (oJ v120_4))]) hx hb d_L11_149 hl (by decide) rfl (fun ls hl => ?_)
    obtain ⟨⟨t203, v203_9, v203_11, v203_12, E203, M203⟩, g203, h⟩ := bd_e h
    obtain ⟨hgw203, h⟩ := ck_e h
    obtain ⟨hL203, h⟩ := ck_e h
    obtain ⟨ok203, h⟩ := ck_e h
    refine s_La_seats_151 l z E120 ad120 p0 (1 + r102) p104 v120_4 r121 (1 + r122) r123 hx hb hml hts hown hlocks hA hG hZ mc ms (c0 + 351) (s0 + 10103) (by omega) (by omega) 5000 _ _ ad120 E120 M123 0 1 0 t203 v203_9 v203_11 v203_12 E203 M203 (by omega) (by omega) (fun _ _ => rfl) (Nat.le_refl _) g203 (fun ad203 hag203 hEE203 e203 H locs ls hP hD hS hl => ?_) H locs ls hP hD hS (lv_sub hl [6, 7, 8, 9, 10, 5, 4, 3, 2, 1, 0] rfl)
    have hag0 : ∀ i, i < nE E0 → ad203 i = ad0 i := fun i hi => (hag203 i (Nat.lt_of_lt_of_le hi hE0)).trans (hag0 i hi)
    have hE0 : nE E0 ≤ nE E203 := Nat.le_trans hE0 hgw203.1
    have hL : Lay E203 := hL203
    have h_p0 : isIA E203 p0 := isA_up hgw203 h_p0
    refine lv_iload hx hb d_L11_372 (lv_at hl 7 rfl) ?_
    obtain ⟨ok204, h⟩ := ck_e h
    refine lv_if_eq (tgt := 399) hx hb d_L11_374 (by decide) (fun c9 => ?_) (fun c9 => ?_)
    · have h := ite_t ((oI_eq0 ok204).mp c9) h
      refine lv_iconst (v := oI 0) hx hb d_L11_399 (by decide +kernel) ?_
      refine lv_istore (lv' := [(11, .int (oI 0)), (0, .ref (ad203 p0)), (1, .ref (ad203 1)), (2, .int (oI (1 + r102))), (6, .int (oI r121)), (7, .int (oI (1 + r122))), (8, .int (oI r123)), (9, .long (oJ v203_9))]) hx hb d_L11_400 hl (by decide) rfl (fun ls hl => ?_)
      refine lv_iload_n hx hb d_L11_402 rfl (lv_at hl 3 rfl) ?_
      obtain ⟨ok205, h⟩ := ck_e h
      obtain ⟨p206, ep206, h⟩ := nb_e h
      obtain ⟨E206, eE206, h⟩ := nb_e h
      obtain ⟨M206, eM206, h⟩ := nb_e h
      refine m_newI (x := (1 + r102)) (N := 64) hx hb ok205.1 ok205.2 (by decide) (hts _ w_100) hG hP hD hS hA (show _ ≤ mc by omega) (show _ ≤ ms by omega) d_L11_403 (fun ad206 H hag206 hP hD hS => ?_)
      have hP : va_P z.1 classes (wv z ad206 E206 M206) H := by rw [eE206, eM206]; exact hP
      have hD : va_D A (wv z ad206 E206 M206) := by rw [eE206, eM206]; exact hD
      refine W.eq (g2 := F0 m 405 ls (.ref (ad206 p206) :: [])) (by rw [ep206] <;> rfl) ?_
      have hl : lv_has ls 20 [(11, .int (oI 0)), (0, .ref (ad206 p0)), (1, .ref (ad206 1)), (2, .int (oI (1 + r102))), (6, .int (oI r121)), (7, .int (oI (1 + r122))), (8, .int (oI r123)), (9, .long (oJ v203_9))] := by rw [hag206 p0 h_p0.1, hag206 1 (yi_1 hL)]; exact hl
      have hgw206 : Gw E203 E206 := by rw [eE206]; exact gw_new _ _
      have hL206 : Lay E206 := by rw [eE206]; exact lay_new hL
      have hag0 : ∀ i, i < nE E0 → ad206 i = ad0 i := fun i hi => (hag206 i (Nat.lt_of_lt_of_le hi hE0)).trans (hag0 i hi)
      have hE0 : nE E0 ≤ nE E206 := Nat.le_trans hE0 hgw206.1
      have hL : Lay E206 := hL206
      have h_p0 : isIA E206 p0 := isA_up hgw206 h_p0
      have h_p206 : isIA E206 p206 := by rw [ep206, eE206]; exact ⟨new_i _ _, by rw [new_T]⟩
      refine lv_astore (lv' := [(12, .ref (ad206 p206)), (11, .int (oI 0)), (0, .ref (ad206 p0)), (1, .ref (ad206 1)), (2, .int (oI (1 + r102))), (6, .int (oI r121)), (7, .int (oI (1 + r122))), (8, .int (oI r123)), (9, .long (oJ v203_9))]) hx hb d_L11_405 hl (by decide) rfl (fun ls hl => ?_)
      refine lv_iconst (v := oI 0) hx hb d_L11_407 (by decide +kernel) ?_
      refine lv_istore (lv' := [(13, .int (oI 0)), (12, .ref (ad206 p206)), (11, .int (oI 0)), (0, .ref (ad206 p0)), (1, .ref (ad206 1)), (2, .int (oI (1 + r102))), (6, .int (oI r121)), (7, .int (oI (1 + r122))), (8, .int (oI r123)), (9, .long (oJ v203_9))]) hx hb d_L11_408 hl (by decide) rfl (fun ls hl => ?_)
      obtain ⟨⟨t211, v211_13, E211, M211⟩, g211, h⟩ := bd_e h
      obtain ⟨hgw211, h⟩ := ck_e h
      obtain ⟨hL211, h⟩ := ck_e h
      obtain ⟨ok211, h⟩ := ck_e h
      refine s_La_seats_410 l z E206 ad206 p0 (1 + r102) r121 (1 + r122) v203_9 0 p206 hx hb hml hts hown hlocks hA hG hZ mc ms (c0 + 352) (s0 + 10167) (by omega) (by omega) 5000 _ _ ad206 E206 M206 0 t211 v211_13 E211 M211 (by omega) (by omega) (fun _ _ => rfl) (Nat.le_refl _) g211 (fun ad211 hag211 hEE211 e211 H locs ls hP hD hS hl => ?_) H locs ls hP hD hS (lv_sub hl [3, 4, 5, 6, 7, 9, 2, 1, 0] rfl)
      have hag0 : ∀ i, i < nE E0 → ad211 i = ad0 i := fun i hi => (hag211 i (Nat.lt_of_lt_of_le hi hE0)).trans (hag0 i hi)
      have hE0 : nE E0 ≤ nE E211 := Nat.le_trans hE0 hgw211.1
      have hL : Lay E211 := hL211
      have h_p0 : isIA E211 p0 := isA_up hgw211 h_p0
      have h_p206 : isIA E211 p206 := isA_up hgw211 h_p206
      refine lv_iconst (v := oI 0) hx hb d_L11_438 (by decide +kernel) ?_
      refine lv_istore (lv' := [(13, .int (oI 0)), (0, .ref (ad211 p0)), (1, .ref (ad211 1)), (2, .int (oI (1 + r102))), (6, .int (oI r121)), (7, .int (oI (1 + r122))), (9, .long (oJ v203_9)), (11, .int (oI 0)), (12, .ref (ad211 p206))]) hx hb d_L11_439 hl (by decide) rfl (fun ls hl => ?_)
      obtain ⟨⟨t219, v219_11, v219_13, E219, M219⟩, g219, h⟩ := bd_e h
      obtain ⟨hgw219, h⟩ := ck_e h
      obtain ⟨hL219, h⟩ := ck_e h
      obtain ⟨ok219, h⟩ := ck_e h
      refine s_La_seats_441 l z E211 ad211 p0 (1 + r102) r121 (1 + r122) v203_9 p206 hx hb hml hts hown hlocks hA hG hZ mc ms (c0 + 352) (s0 + 10167) (by omega) (by omega) 5000 _ _ ad211 E211 M211 0 0 t219 v219_11 v219_13 E219 M219 (by omega) (by omega) (fun _ _ => rfl) (Nat.le_refl _) g219 (fun ad219 hag219 hEE219 e219 H locs ls hP hD hS hl => ?_) H locs ls hP hD hS (lv_sub hl [1, 2, 3, 4, 5, 6, 7, 8, 0] rfl)
      have hag0 : ∀ i, i < nE E0 → ad219 i = ad0 i := fun i hi => (hag219 i (Nat.lt_of_lt_of_le hi hE0)).trans (hag0 i hi)
      have hE0 : nE E0 ≤ nE E219 := Nat.le_trans hE0 hgw219.1
      have hL : Lay E219 := hL219
      have h_p0 : isIA E219 p0 := isA_up hgw219 h_p0
      refine lv_aload_n hx hb d_L11_479 rfl (lv_at hl 0 rfl) ?_
      refine lv_iload_n hx hb d_L11_480 rfl (lv_at hl 2 rfl) ?_
      obtain ⟨⟨r220, M220⟩, g220, h⟩ := bd_e h
      refine kS (As := [.ref (ad219 p0), .int (oI (1 + r102))]) (rest := []) (s_La_next l z ad219 E219 M219 p0 (1 + r102) r220 M220 hL g220) hx hb hml hown hts w_797 w_795 w_796 w_0 md_199d8f ⟨Nat.le_of_ble_eq_true rfl, Nat.le_of_ble_eq_true rfl⟩ hG hZ hP hD hS hA rfl hl.1 rfl (Nat.le_of_ble_eq_true rfl) d_L11_481 ⟨(show _ ≤ mc by omega), (show _ ≤ ms by omega)⟩ (fun _ H locs hP hD hS => ?_)
      have hP : va_P z.1 classes (wv z ad219 E219 M220) H := hP
      have hD : va_D A (wv z ad219 E219 M220) := hD
      refine W.eq (g2 := F0 m 484 ls [.int (oI r220)]) rfl ?_
      refine lv_istore (lv' := [(13, .int (oI r220)), (0, .ref (ad219 p0)), (1, .ref (ad219 1)), (2, .int (oI (1 + r102))), (6, .int (oI r121)), (7, .int (oI (1 + r122))), (9, .long (oJ v203_9)), (11, .int (oI v219_11))]) hx hb d_L11_484 hl (by decide) rfl (fun ls hl => ?_)
      refine lv_aload_n hx hb d_L11_486 rfl (lv_at hl 1 rfl) ?_
      refine lv_iload_n hx hb d_L11_487 rfl (lv_at hl 3 rfl) ?_
      obtain ⟨⟨r221, M221⟩, g221, h⟩ := bd_e h
      refine kS (As := [.ref (ad219 p0), .int (oI (1 + r102))]) (rest := []) (s_La_next l z ad219 E219 M220 p0 (1 + r102) r221 M221 hL g221) hx hb hml hown hts w_797 w_795 w_796 w_0 md_199d8f ⟨Nat.le_of_ble_eq_true rfl, Nat.le_of_ble_eq_true rfl⟩ hG hZ hP hD hS hA rfl hl.1 rfl (Nat.le_of_ble_eq_true rfl) d_L11_488 ⟨(show _ ≤ mc by omega), (show _ ≤ ms by omega)⟩ (fun _ H locs hP hD hS => ?_)
      have hP : va_P z.1 classes (wv z ad219 E219 M221) H := hP
      have hD : va_D A (wv z ad219 E219 M221) := hD
      refine W.eq (g2 := F0 m 491 ls [.int (oI r221)]) rfl ?_
      refine lv_istore (lv' := [(14, .int (oI r221)), (13, .int (oI r220)), (0, .ref (ad219 p0)), (1, .ref (ad219 1)), (2, .int (oI (1 + r102))), (6, .int (oI r121)), (7, .int (oI (1 + r122))), (9, .long (oJ v203_9)), (11, .int (oI v219_11))]) hx hb d_L11_491 hl (by decide) rfl (fun ls hl => ?_)
      refine lv_aload_n hx hb d_L11_493 rfl (lv_at hl 3 rfl) ?_
      refine lv_iload hx hb d_L11_494 (lv_at hl 1 rfl) ?_
      refine lv_iconst (v := oI 1) hx hb d_L11_496 (by decide +kernel) ?_
      obtain ⟨⟨r222, M222⟩, g222, h⟩ := bd_e h
      refine kV (As := [.int (oI r220), .int (oI 1)]) (rest := []) (s_B_ally l z ad219 E219 M221 r220 1 r222 M222 hL g222) hx hb hml hown hts w_1602 w_1599 w_1600 w_1601 w_1 md_1f245a ⟨Nat.le_of_ble_eq_true rfl, Nat.le_of_ble_eq_true rfl⟩ hG hZ hP hD hS hA 1 (wv_o (ci := 11) (yi_1 hL) (yt_1 hL)) rfl rfl rfl hl.1 rfl (Nat.le_of_ble_eq_true rfl) d_L11_497 ⟨(show _ ≤ mc by omega), (show _ ≤ ms by omega)⟩ (fun _ H locs hP hD hS => ?_)
      have hP : va_P z.1 classes (wv z ad219 E219 M222) H := hP
      have hD : va_D A (wv z ad219 E219 M222) := hD
      refine W.eq (g2 := F0 m 500 ls [.int (oI r222)]) rfl ?_
      refine lv_aload_n hx hb d_L11_500 rfl (lv_at hl 3 rfl) ?_
      refine lv_iload hx hb d_L11_501 (lv_at hl 0 rfl) ?_
      refine lv_iconst (v := oI 1) hx hb d_L11_503 (by decide +kernel) ?_
      obtain ⟨⟨r223, M223⟩, g223, h⟩ := bd_e h
      refine kV (As := [.int (oI r221), .int (oI 1)]) (rest := [.int (oI r222)]) (s_B_ally l z ad219 E219 M222 r221 1 r223 M223 hL g223) hx hb hml hown hts w_1602 w_1599 w_1600 w_1601 w_1 md_1f245a ⟨Nat.le_of_ble_eq_true rfl, Nat.le_of_ble_eq_true rfl⟩ hG hZ hP hD hS hA 1 (wv_o (ci := 11) (yi_1 hL) (yt_1 hL)) rfl rfl rfl hl.1 rfl (Nat.le_of_ble_eq_true rfl) d_L11_504 ⟨(show _ ≤ mc by omega), (show _ ≤ ms by omega)⟩ (fun _ H locs hP hD hS => ?_)
      have hP : va_P z.1 classes (wv z ad219 E219 M223) H := hP
      have hD : va_D A (wv z ad219 E219 M223) := hD
      refine W.eq (g2 := F0 m 507 ls [.int (oI r223), .int (oI r222)]) rfl ?_
      refine lv_iadd hx hb d_L11_507 ?_
      refine nrm (oI_add _ _) ?_
      refine lv_istore (lv' := [(15, .int (oI (r222 + r223))), (14, .int (oI r221)), (13, .int (oI r220)), (0, .ref (ad219 p0)), (1, .ref (ad219 1)), (2, .int (oI (1 + r102))), (6, .int (oI r121)), (7, .int (oI (1 + r122))), (9, .long (oJ v203_9)), (11, .int (oI v219_11))]) hx hb d_L11_508 hl (by decide) rfl (fun ls hl => ?_)
      refine lv_aload_n hx hb d_L11_510 rfl (lv_at hl 4 rfl) ?_
      refine lv_iload hx hb d_L11_511 (lv_at hl 6 rfl) ?_
      refine lv_iload hx hb d_L11_513 (lv_at hl 7 rfl) ?_
      refine lv_iconst (v := oI 0) hx hb d_L11_515 (by decide +kernel) ?_
      obtain ⟨⟨r224, M224⟩, g224, h⟩ := bd_e h
      refine kV (As := [.int (oI r121), .int (oI (1 + r122)), .int (oI 0)]) (rest := []) (s_B_seats l z ad219 E219 M223 r121 (1 + r122) 0 r224 M224 hL g224) hx hb hml hown hts w_1520 w_1517 w_1518 w_1519 w_1 md_fbc403 ⟨Nat.le_of_ble_eq_true rfl, Nat.le_of_ble_eq_true rfl⟩ hG hZ hP hD hS hA 1 (wv_o (ci := 11) (yi_1 hL) (yt_1 hL)) rfl rfl rfl hl.1 rfl (Nat.le_of_ble_eq_true rfl) d_L11_516 ⟨(show _ ≤ mc by omega), (show _ ≤ ms by omega)⟩ (fun _ H locs hP hD hS => ?_)
      have hP : va_P z.1 classes (wv z ad219 E219 M224) H := hP
      have hD : va_D A (wv z ad219 E219 M224) := hD
      refine W.eq (g2 := F0 m 519 ls [.int (oI r224)]) rfl ?_
      refine lv_istore (lv' := [(16, .int (oI r224)), (15, .int (oI (r222 + r223))), (14, .int (oI r221)), (13, .int (oI r220)), (0, .ref (ad219 p0)), (1, .ref (ad219 1)), (2, .int (oI (1 + r102))), (6, .int (oI r121)), (7, .int (oI (1 + r122))), (9, .long (oJ v203_9)), (11, .int (oI v219_11))]) hx hb d_L11_519 hl (by decide) rfl (fun ls hl => ?_)
      refine lv_lconst (v := oJ 0) hx hb d_L11_521 (by decide +kernel) ?_
      refine lv_lstore (lv' := [(17, .long (oJ 0)), (16, .int (oI r224)), (15, .int (oI (r222 + r223))), (14, .int (oI r221)), (13, .int (oI r220)), (0, .ref (ad219 p0)), (1, .ref (ad219 1)), (2, .int (oI (1 + r102))), (6, .int (oI r121)), (7, .int (oI (1 + r122))), (9, .long (oJ v203_9)), (11, .int (oI v219_11))]) hx hb d_L11_522 hl (by decide) rfl (fun ls hl => ?_)
      refine lv_iconst (v := oI 0) hx hb d_L11_524 (by decide +kernel) ?_
      refine lv_istore (lv' := [(19, .int (oI 0)), (17, .long (oJ 0)), (16, .int (oI r224)), (15, .int (oI (r222 + r223))), (14, .int (oI r221)), (13, .int (oI r220)), (0, .ref (ad219 p0)), (1, .ref (ad219 1)), (2, .int (oI (1 + r102))), (6, .int (oI r121)), (7, .int (oI (1 + r122))), (9, .long (oJ v203_9)), (11, .int (oI v219_11))]) hx hb d_L11_525 hl (by decide) rfl (fun ls hl => ?_)
      obtain ⟨⟨t229, v229_17, v229_19, E229, M229⟩, g229, h⟩ := bd_e h
      obtain ⟨hgw229, h⟩ := ck_e h
      obtain ⟨hL229, h⟩ := ck_e h
      obtain ⟨ok229, h⟩ := ck_e h
      refine s_La_seats_527 l z E219 ad219 (1 + r102) v203_9 v219_11 hx hb hml hts hown hlocks hA hG hZ mc ms (c0 + 352) (s0 + 10167) (by omega) (by omega) 5000 _ _ ad219 E219 M224 0 0 t229 v229_17 v229_19 E229 M229 (by omega) (by omega) (fun _ _ => rfl) (Nat.le_refl _) g229 (fun ad229 hag229 hEE229 e229 H locs ls hP hD hS hl => ?_) H locs ls hP hD hS (lv_sub hl [7, 8, 11, 12, 1, 0] rfl)
      have hag0 : ∀ i, i < nE E0 → ad229 i = ad0 i := fun i hi => (hag229 i (Nat.lt_of_lt_of_le hi hE0)).trans (hag0 i hi)
      have hE0 : nE E0 ≤ nE E229 := Nat.le_trans hE0 hgw229.1
      have hL : Lay E229 := hL229
      refine lv_iload hx hb d_L11_551 (lv_at hl 2 rfl) ?_
      obtain ⟨ok230, h⟩ := ck_e h
      refine lv_if_eq (tgt := 575) hx hb d_L11_553 (by decide) (fun c9 => ?_) (fun c9 => ?_)
      · have h := ite_t ((oI_eq0 ok230).mp c9) h
        refine lv_iconst (v := oI 0) hx hb d_L11_575 (by decide +kernel) ?_
        refine W.wide (k := c1) (n := s1) (by omega) (by omega) ?_
        obtain ⟨rfl, rfl, rfl⟩ := in3 h
        exact W.zret hx hb hr rfl (fun t ht hW => qkA hP hD hS ad229 (congrArg (fun q => wv z q E229 M229) (adj_self hag0).symm) rfl ht) hS.2.2 d_L11_576
      · have h := ite_f (fun q => c9 ((oI_eq0 ok230).mpr q)) h
        refine lv_lload hx hb d_L11_556 (lv_at hl 3 rfl) ?_
        refine lv_lload hx hb d_L11_558 (lv_at hl 1 rfl) ?_
        obtain ⟨ok231, h⟩ := ck_e h
        obtain ⟨ok232, h⟩ := ck_e h
        refine W.lcmp hx hb d_L11_560 ?_
        refine nrm (cmp_val (a := v229_17) (b := v203_9) ok231 ok232) ?_
        refine lv_if_ne (tgt := 575) hx hb d_L11_561 (by decide) (fun c9 => ?_) (fun c9 => ?_)
        · have h := ite_f (fun q => c9 ((cmp_eq v229_17 v203_9).mpr q)) h
          refine lv_iconst (v := oI 0) hx hb d_L11_575 (by decide +kernel) ?_
          refine W.wide (k := c1) (n := s1) (by omega) (by omega) ?_
          obtain ⟨rfl, rfl, rfl⟩ := in3 h
          exact W.zret hx hb hr rfl (fun t ht hW => qkA hP hD hS ad229 (congrArg (fun q => wv z q E229 M229) (adj_self hag0).symm) rfl ht) hS.2.2 d_L11_576
        · have h := ite_t ((cmp_eq v229_17 v203_9).mp c9) h
          refine lv_aload_n hx hb d_L11_564 rfl (lv_at hl 0 rfl) ?_
          obtain ⟨⟨r233, M233⟩, g233, h⟩ := bd_e h
          refine kV (As := []) (rest := []) (s_B_errors l z ad229 E229 M229 r233 M233 hL g233) hx hb hml hown hts w_576 w_573 w_574 w_575 w_1 md_d65014 ⟨Nat.le_of_ble_eq_true rfl, Nat.le_of_ble_eq_true rfl⟩ hG hZ hP hD hS hA 1 (wv_o (ci := 11) (yi_1 hL) (yt_1 hL)) rfl rfl rfl hl.1 rfl (Nat.le_of_ble_eq_true rfl) d_L11_565 ⟨(show _ ≤ mc by omega), (show _ ≤ ms by omega)⟩ (fun _ H locs hP hD hS => ?_)
          have hP : va_P z.1 classes (wv z ad229 E229 M233) H := hP
          have hD : va_D A (wv z ad229 E229 M233) := hD
          refine W.eq (g2 := F0 m 568 ls [.int (oI r233)]) rfl ?_
          obtain ⟨ok234, h⟩ := ck_e h
          refine lv_if_ne (tgt := 575) hx hb d_L11_568 (by decide) (fun c9 => ?_) (fun c9 => ?_)
          · have h := ite_f (fun q => c9 ((oI_eq0 ok234).mpr q)) h
            refine lv_iconst (v := oI 0) hx hb d_L11_575 (by decide +kernel) ?_
            refine W.wide (k := c1) (n := s1) (by omega) (by omega) ?_
            obtain ⟨rfl, rfl, rfl⟩ := in3 h
            exact W.zret hx hb hr rfl (fun t ht hW => qkA hP hD hS ad229 (congrArg (fun q => wv z q E229 M233) (adj_self hag0).symm) rfl ht) hS.2.2 d_L11_576
          · have h := ite_t ((oI_eq0 ok234).mp c9) h
            refine lv_iconst (v := oI 1) hx hb d_L11_571 (by decide +kernel) ?_
            refine lv_goto (tgt := 576) hx hb d_L11_572 (by decide) ?_
            refine W.wide (k := c1) (n := s1) (by omega) (by omega) ?_
            obtain ⟨rfl, rfl, rfl⟩ := in3 h
            exact W.zret hx hb hr rfl (fun t ht hW => qkA hP hD hS ad229 (congrArg (fun q => wv z q E229 M233) (adj_self hag0).symm) rfl ht) hS.2.2 d_L11_576
    · have h := ite_f (fun q => c9 ((oI_eq0 ok204).mpr q)) h
      refine lv_lload hx hb d_L11_377 (lv_at hl 6 rfl) ?_
      refine lv_iload hx hb d_L11_379 (lv_at hl 5 rfl) ?_
      obtain ⟨ok235, h⟩ := ck_e h
      refine lv_if_ne (tgt := 388) hx hb d_L11_381 (by decide) (fun c9 => ?_) (fun c9 => ?_)
      · have h := ite_f (fun q => c9 ((oI_eq0 ok235).mpr q)) h
        refine lv_iload hx hb d_L11_388 (lv_at hl 4 rfl) ?_
        exact b_La_seats_j390 l z E0 ad0 ad203 E203 M203 p0 (1 + r102) r121 (1 + r122) v203_9 (1 + r122) v203_9 r F N hx hb hml hts hown hlocks hA hG hZ hr mc ms _ _ c1 s1 (by omega) (by omega) hm hm2 hag0 hE0 h H locs ls hP hD hS (lv_sub hl [0, 1, 2, 3, 4, 6] rfl)
      · have h := ite_t ((oI_eq0 ok235).mp c9) h
        refine lv_iconst (v := oI 0) hx hb d_L11_384 (by decide +kernel) ?_
        refine lv_goto (tgt := 390) hx hb d_L11_385 (by decide) ?_
        exact b_La_seats_j390 l z E0 ad0 ad203 E203 M203 p0 (1 + r102) r121 (1 + r122) v203_9 0 v203_9 r F N hx hb hml hts hown hlocks hA hG hZ hr mc ms _ _ c1 s1 (by omega) (by omega) hm hm2 hag0 hE0 h H locs ls hP hD hS (lv_sub hl [0, 1, 2, 3, 4, 6] rfl)
  exact key E ad 352 10167 0 0 352 10167 _ _ _ (by decide) (by decide) (by decide) (by decide) (fun _ _ => rfl) (Nat.le_refl _) hts hP hS
set_option maxRecDepth 100000 in
set_option maxHeartbeats 4000000 in
theorem s_Wa_append (l : Launch) (z : Zz) (ad : Nat → Nat) (E : Ev) (M : Mm) (x1 : Int) (x2 : Int) (x3 : Int) (r : Int) (N : Mm) (hL : Lay E) (h : f_Wa_append E M x1 x2 x3 = some (r, N)) : CT l z ⟨"Ballothall$Wards", "append", "(III)I"⟩ prog_12_method_2_code 5 (some .int) [.ref (ad 219), .int (oI x1), .int (oI x2), .int (oI x3)] (wv z ad E M) 0 20 0 0 (fun _ => some (.int (oI r))) (fun _ => (wv z ad E N)) := by
  refine CT.of (own := "Ballothall$Wards") (by decide +kernel) (Nat.le_of_ble_eq_true rfl) rfl (fun p e s m below meth c A ls hx hb hml hr hts hown hlocks hin hA hG hZ hP hD hS hl => ?_)
  have hl : lv_has ls 5 [(0, .ref (ad 219)), (1, .int (oI x1)), (2, .int (oI x2)), (3, .int (oI x3))] := hl
  have key : ∀ (H : Heap) (locs : List Loc) (args : Array Value), (∀ w ∈ WG, w.before args s = true) → va_P z.1 classes (wv z ad E M) H → va_S A s.heap H locs → W p l e (rmK 0 20 0 0) s m args below meth c H locs 0 0 (MQ below (QK z A (fun _ => some (.int (oI r))) (fun _ => (wv z ad E N))) args s 0 0 A) (F0 m 0 ls []) := by
    intro H locs args hts hP hS
    unfold f_Wa_append at h
    refine lv_aload_n hx hb d_12_2_0 rfl (lv_at hl 0 rfl) ?_
    refine m_gi (C := "Ballothall$Wards") (T := TX10) (N := 5) (ci := 10) (k := 0) hx hb hts iX10 hown hG hP (yi_219 hL) (yt_219 hL) rfl (by decide) w_358 (fun _ h9 => h9) rfl rfl d_12_2_1 ?_
    refine lv_istore (lv' := [(4, .int (oI (M 219 0))), (0, .ref (ad 219)), (1, .int (oI x1)), (2, .int (oI x2)), (3, .int (oI x3))]) hx hb d_12_2_4 hl (by decide) rfl (fun ls hl => ?_)
    refine lv_aload_n hx hb d_12_2_6 rfl (lv_at hl 1 rfl) ?_
    refine m_gr (j := 220) (C := "Ballothall$Wards") (T := TX10) (N := 5) (ci := 10) (k := 1) hx hb hts iX10 hown hG hP (yi_219 hL) (yt_219 hL) rfl (by decide) w_360 (fun _ h9 => h9) rfl rfl (yr_219_1 hL) d_12_2_7 ?_
    refine lv_iload hx hb d_12_2_10 (lv_at hl 0 rfl) ?_
    refine lv_iload_n hx hb d_12_2_12 rfl (lv_at hl 2 rfl) ?_
    obtain ⟨ok100, h⟩ := ck_e h
    refine m_is hx hb hG hP hD hS (yi_220 hL) (yt_220 hL) ok100 d_12_2_13 (fun H locs hP hD hS => ?_)
    have hP : va_P z.1 classes (wv z ad E (u2 M 220 (M 219 0).toNat x1)) H := hP
    have hD : va_D A (wv z ad E (u2 M 220 (M 219 0).toNat x1)) := hD
    refine lv_aload_n hx hb d_12_2_14 rfl (lv_at hl 1 rfl) ?_
    refine m_gr (j := 221) (C := "Ballothall$Wards") (T := TX10) (N := 5) (ci := 10) (k := 2) hx hb hts iX10 hown hG hP (yi_219 hL) (yt_219 hL) rfl (by decide) w_361 (fun _ h9 => h9) rfl rfl (yr_219_2 hL) d_12_2_15 ?_
    refine lv_iconst (v := oI 0) hx hb d_12_2_18 (by decide +kernel) ?_
    refine m_ar (k := 222) hx hb hG hP (yi_221 hL) (yt_221 hL) (by decide +kernel) ((ya_221 hL (by decide +kernel)).trans (by decide +kernel)) d_12_2_19 ?_
    refine lv_iload hx hb d_12_2_20 (lv_at hl 0 rfl) ?_
    refine lv_iload_n hx hb d_12_2_22 rfl (lv_at hl 3 rfl) ?_
    refine m_is hx hb hG hP hD hS (yi_222 hL) (yt_222 hL) ok100 d_12_2_23 (fun H locs hP hD hS => ?_)
    have hP : va_P z.1 classes (wv z ad E (u2 (u2 M 220 (M 219 0).toNat x1) 222 (M 219 0).toNat x2)) H := hP
    have hD : va_D A (wv z ad E (u2 (u2 M 220 (M 219 0).toNat x1) 222 (M 219 0).toNat x2)) := hD
    refine lv_aload_n hx hb d_12_2_24 rfl (lv_at hl 1 rfl) ?_
    refine m_gr (j := 221) (C := "Ballothall$Wards") (T := TX10) (N := 5) (ci := 10) (k := 2) hx hb hts iX10 hown hG hP (yi_219 hL) (yt_219 hL) rfl (by decide) w_361 (fun _ h9 => h9) rfl rfl (yr_219_2 hL) d_12_2_25 ?_
    refine lv_iconst (v := oI 1) hx hb d_12_2_28 (by decide +kernel) ?_
    refine m_ar (k := 223) hx hb hG hP (yi_221 hL) (yt_221 hL) (by decide +kernel) ((ya_221 hL (by decide +kernel)).trans (by decide +kernel)) d_12_2_29 ?_
    refine lv_iload hx hb d_12_2_30 (lv_at hl 0 rfl) ?_
    refine lv_iload_n hx hb d_12_2_32 rfl (lv_at hl 4 rfl) ?_
    refine m_is hx hb hG hP hD hS (yi_223 hL) (yt_223 hL) ok100 d_12_2_33 (fun H locs hP hD hS => ?_)
    have hP : va_P z.1 classes (wv z ad E (u2 (u2 (u2 M 220 (M 219 0).toNat x1) 222 (M 219 0).toNat x2) 223 (M 219 0).toNat x3)) H := hP
    have hD : va_D A (wv z ad E (u2 (u2 (u2 M 220 (M 219 0).toNat x1) 222 (M 219 0).toNat x2) 223 (M 219 0).toNat x3)) := hD
    refine lv_aload_n hx hb d_12_2_34 rfl (lv_at hl 1 rfl) ?_
    refine lv_dup hx hb d_12_2_35 rfl ?_
    refine m_gi (C := "Ballothall$Wards") (T := TX10) (N := 5) (ci := 10) (k := 0) hx hb hts iX10 hown hG hP (yi_219 hL) (yt_219 hL) rfl (by decide) w_358 (fun _ h9 => h9) rfl rfl d_12_2_36 ?_
    refine lv_iconst (v := oI 1) hx hb d_12_2_39 (by decide +kernel) ?_
    refine lv_iadd hx hb d_12_2_40 ?_
    refine nrm (oI_add _ _) ?_
    refine m_pi (C := "Ballothall$Wards") (T := TX10) (N := 5) (ci := 10) (k := 0) (ty := .int) hx hb hts iX10 hown hG hP hD hS (yi_219 hL) (yt_219 hL) rfl (by decide) w_358 (fun _ h9 => h9) rfl rfl tyX10_ok nmX10 rfl (by decide +kernel) rfl rfl d_12_2_41 (fun H locs hP hD hS => ?_)
    have hP : va_P z.1 classes (wv z ad E (u2 (u2 (u2 (u2 M 220 (M 219 0).toNat x1) 222 (M 219 0).toNat x2) 223 (M 219 0).toNat x3) 219 0 (((u2 (u2 (u2 M 220 (M 219 0).toNat x1) 222 (M 219 0).toNat x2) 223 (M 219 0).toNat x3) 219 0) + 1))) H := hP
    have hD : va_D A (wv z ad E (u2 (u2 (u2 (u2 M 220 (M 219 0).toNat x1) 222 (M 219 0).toNat x2) 223 (M 219 0).toNat x3) 219 0 (((u2 (u2 (u2 M 220 (M 219 0).toNat x1) 222 (M 219 0).toNat x2) 223 (M 219 0).toNat x3) 219 0) + 1))) := hD
    obtain ⟨M101, e101, h⟩ := nb_e h
    rw [← e101] at hP hD
    refine lv_iload hx hb d_12_2_44 (lv_at hl 0 rfl) ?_
    obtain ⟨rfl, rfl⟩ := in2 h
    exact W.iret hx hb hr (fun t ht hW => qkA hP hD hS (fun k => k) rfl rfl ht) hS.2.2 d_12_2_46
  exact key _ _ _ hts hP hS
set_option maxRecDepth 100000 in
set_option maxHeartbeats 4000000 in
theorem s_B_ward (l : Launch) (z : Zz) (ad : Nat → Nat) (E : Ev) (M : Mm) (x1 : Int) (x2 : Int) (x3 : Int) (r : Int) (N : Mm) (hL : Lay E) (h : f_B_ward E M x1 x2 x3 = some (r, N)) : CT l z ⟨"Ballothall", "ward", "(III)I"⟩ prog_1_method_41_code 5 (some .int) [.ref (ad 1), .int (oI x1), .int (oI x2), .int (oI x3)] (wv z ad E M) 2 63 0 0 (fun _ => some (.int (oI r))) (fun _ => (wv z ad E N)) := by
  refine CT.of (own := "Ballothall") (by decide +kernel) (Nat.le_of_ble_eq_true rfl) rfl (fun p e s m below meth c A ls hx hb hml hr hts hown hlocks hin hA hG hZ hP hD hS hl => ?_)
  have hl : lv_has ls 5 [(0, .ref (ad 1)), (1, .int (oI x1)), (2, .int (oI x2)), (3, .int (oI x3))] := hl
  have key : ∀ (H : Heap) (locs : List Loc) (args : Array Value), (∀ w ∈ WG, w.before args s = true) → va_P z.1 classes (wv z ad E M) H → va_S A s.heap H locs → W p l e (rmK 2 63 0 0) s m args below meth c H locs 0 0 (MQ below (QK z A (fun _ => some (.int (oI r))) (fun _ => (wv z ad E N))) args s 0 0 A) (F0 m 0 ls []) := by
    intro H locs args hts hP hS
    unfold f_B_ward at h
    refine lv_iload_n hx hb d_1_41_0 rfl (lv_at hl 1 rfl) ?_
    refine lv_iconst (v := oI 1) hx hb d_1_41_1 (by decide +kernel) ?_
    refine lv_ldc hx hb hown (hts _ w_1022) d_1_41_2 ?_
    refine nrm (x1 := oI 100000) (by decide +kernel) ?_
    obtain ⟨_, g100, h⟩ := bd_e h
    refine kS (As := [.int (oI x1), .int (oI 1), .int (oI 100000)]) (rest := []) (s_B_needRange l z ad E M x1 1 100000 hL g100) hx hb hml hown hts w_548 w_546 w_547 w_1 md_519134 ⟨Nat.le_of_ble_eq_true rfl, Nat.le_of_ble_eq_true rfl⟩ hG hZ hP hD hS hA rfl hl.1 rfl (Nat.le_of_ble_eq_true rfl) d_1_41_4 ⟨Nat.le_of_ble_eq_true rfl, Nat.le_of_ble_eq_true rfl⟩ (fun _ H locs hP hD hS => ?_)
    have hP : va_P z.1 classes (wv z ad E M) H := hP
    have hD : va_D A (wv z ad E M) := hD
    refine W.eq (g2 := F0 m 7 ls []) rfl ?_
    refine lv_iload_n hx hb d_1_41_7 rfl (lv_at hl 2 rfl) ?_
    refine lv_iconst (v := oI 0) hx hb d_1_41_8 (by decide +kernel) ?_
    refine lv_ldc hx hb hown (hts _ w_1022) d_1_41_9 ?_
    refine nrm (x1 := oI 100000) (by decide +kernel) ?_
    obtain ⟨_, g101, h⟩ := bd_e h
    refine kS (As := [.int (oI x2), .int (oI 0), .int (oI 100000)]) (rest := []) (s_B_needRange l z ad E M x2 0 100000 hL g101) hx hb hml hown hts w_548 w_546 w_547 w_1 md_519134 ⟨Nat.le_of_ble_eq_true rfl, Nat.le_of_ble_eq_true rfl⟩ hG hZ hP hD hS hA rfl hl.1 rfl (Nat.le_of_ble_eq_true rfl) d_1_41_11 ⟨Nat.le_of_ble_eq_true rfl, Nat.le_of_ble_eq_true rfl⟩ (fun _ H locs hP hD hS => ?_)
    have hP : va_P z.1 classes (wv z ad E M) H := hP
    have hD : va_D A (wv z ad E M) := hD
    refine W.eq (g2 := F0 m 14 ls []) rfl ?_
    refine lv_iload_n hx hb d_1_41_14 rfl (lv_at hl 3 rfl) ?_
    refine lv_iconst (v := oI 0) hx hb d_1_41_15 (by decide +kernel) ?_
    refine lv_ldc hx hb hown (hts _ w_1022) d_1_41_16 ?_
    refine nrm (x1 := oI 100000) (by decide +kernel) ?_
    obtain ⟨_, g102, h⟩ := bd_e h
    refine kS (As := [.int (oI x3), .int (oI 0), .int (oI 100000)]) (rest := []) (s_B_needRange l z ad E M x3 0 100000 hL g102) hx hb hml hown hts w_548 w_546 w_547 w_1 md_519134 ⟨Nat.le_of_ble_eq_true rfl, Nat.le_of_ble_eq_true rfl⟩ hG hZ hP hD hS hA rfl hl.1 rfl (Nat.le_of_ble_eq_true rfl) d_1_41_18 ⟨Nat.le_of_ble_eq_true rfl, Nat.le_of_ble_eq_true rfl⟩ (fun _ H locs hP hD hS => ?_)
    have hP : va_P z.1 classes (wv z ad E M) H := hP
    have hD : va_D A (wv z ad E M) := hD
    refine W.eq (g2 := F0 m 21 ls []) rfl ?_
    refine lv_aload_n hx hb d_1_41_21 rfl (lv_at hl 0 rfl) ?_
    refine m_gr (j := 219) (C := "Ballothall") (T := TX11) (N := 14) (ci := 11) (k := 5) hx hb hts iX11 hown hG hP (yi_1 hL) (yt_1 hL) rfl (by decide) w_402 (fun _ h9 => h9) rfl rfl (yr_1_5 hL) d_1_41_22 ?_
    refine m_giN (C := "Ballothall$Wards") (T := TX10) (N := 5) (ci := 10) (k := 0) hx hb hts iX10 hown hG hP (yi_219 hL) (yt_219 hL) rfl (by decide) n_359 rfl (fun _ h9 => h9) rfl rfl d_1_41_25 ?_
    refine lv_iconst (v := oI 1) hx hb d_1_41_28 (by decide +kernel) ?_
    refine lv_iadd hx hb d_1_41_29 ?_
    refine nrm (oI_add _ _) ?_
    refine lv_bipush (v := oI 16) hx hb d_1_41_30 (by decide +kernel) ?_
    obtain ⟨_, g103, h⟩ := bd_e h
    refine kS (As := [.int (oI ((M 219 0) + 1)), .int (oI 16)]) (rest := []) (s_B_needRoom l z ad E M ((M 219 0) + 1) 16 hL g103) hx hb hml hown hts w_446 w_444 w_445 w_1 md_ec9fa9 ⟨Nat.le_of_ble_eq_true rfl, Nat.le_of_ble_eq_true rfl⟩ hG hZ hP hD hS hA rfl hl.1 rfl (Nat.le_of_ble_eq_true rfl) d_1_41_32 ⟨Nat.le_of_ble_eq_true rfl, Nat.le_of_ble_eq_true rfl⟩ (fun _ H locs hP hD hS => ?_)
    have hP : va_P z.1 classes (wv z ad E M) H := hP
    have hD : va_D A (wv z ad E M) := hD
    refine W.eq (g2 := F0 m 35 ls []) rfl ?_
    refine lv_aload_n hx hb d_1_41_35 rfl (lv_at hl 0 rfl) ?_
    refine m_gr (j := 219) (C := "Ballothall") (T := TX11) (N := 14) (ci := 11) (k := 5) hx hb hts iX11 hown hG hP (yi_1 hL) (yt_1 hL) rfl (by decide) w_402 (fun _ h9 => h9) rfl rfl (yr_1_5 hL) d_1_41_36 ?_
    refine lv_iload_n hx hb d_1_41_39 rfl (lv_at hl 1 rfl) ?_
    refine lv_iload_n hx hb d_1_41_40 rfl (lv_at hl 2 rfl) ?_
    refine lv_iload_n hx hb d_1_41_41 rfl (lv_at hl 3 rfl) ?_
    obtain ⟨⟨r104, M104⟩, g104, h⟩ := bd_e h
    refine kVN (As := [.int (oI x1), .int (oI x2), .int (oI x3)]) (rest := []) (s_Wa_append l z ad E M x1 x2 x3 r104 M104 hL g104) hx hb hml hown hts w_1613 n_1610 w_1612 w_s_c4bf49 w_10 md_d51d3b ⟨Nat.le_of_ble_eq_true rfl, Nat.le_of_ble_eq_true rfl⟩ hG hZ hP hD hS hA 219 (wv_o (ci := 10) (yi_219 hL) (yt_219 hL)) rfl rfl rfl hl.1 rfl (Nat.le_of_ble_eq_true rfl) d_1_41_42 ⟨Nat.le_of_ble_eq_true rfl, Nat.le_of_ble_eq_true rfl⟩ (fun _ H locs hP hD hS => ?_)
    have hP : va_P z.1 classes (wv z ad E M104) H := hP
    have hD : va_D A (wv z ad E M104) := hD
    refine W.eq (g2 := F0 m 45 ls [.int (oI r104)]) rfl ?_
    refine lv_istore (lv' := [(4, .int (oI r104)), (0, .ref (ad 1)), (1, .int (oI x1)), (2, .int (oI x2)), (3, .int (oI x3))]) hx hb d_1_41_45 hl (by decide) rfl (fun ls hl => ?_)
    refine lv_aload_n hx hb d_1_41_47 rfl (lv_at hl 1 rfl) ?_
    refine lv_bipush (v := oI 10) hx hb d_1_41_48 (by decide +kernel) ?_
    refine lv_iload hx hb d_1_41_50 (lv_at hl 0 rfl) ?_
    refine lv_iconst (v := oI 0) hx hb d_1_41_52 (by decide +kernel) ?_
    obtain ⟨M105, g105, h⟩ := bd_e h
    refine kV (As := [.int (oI 10), .int (oI r104), .int (oI 0)]) (rest := []) (s_B_remember l z ad E M104 10 r104 0 M105 hL g105) hx hb hml hown hts w_519 w_516 w_518 w_s_b872b3 w_1 md_7af0bb ⟨Nat.le_of_ble_eq_true rfl, Nat.le_of_ble_eq_true rfl⟩ hG hZ hP hD hS hA 1 (wv_o (ci := 11) (yi_1 hL) (yt_1 hL)) rfl rfl rfl hl.1 rfl (Nat.le_of_ble_eq_true rfl) d_1_41_53 ⟨Nat.le_of_ble_eq_true rfl, Nat.le_of_ble_eq_true rfl⟩ (fun _ H locs hP hD hS => ?_)
    have hP : va_P z.1 classes (wv z ad E M105) H := hP
    have hD : va_D A (wv z ad E M105) := hD
    refine W.eq (g2 := F0 m 56 ls []) rfl ?_
    refine lv_iload hx hb d_1_41_56 (lv_at hl 0 rfl) ?_
    obtain ⟨rfl, rfl⟩ := in2 h
    exact W.iret hx hb hr (fun t ht hW => qkA hP hD hS (fun k => k) rfl rfl ht) hS.2.2 d_1_41_58
  exact key _ _ _ hts hP hS
set_option maxRecDepth 100000 in
set_option maxHeartbeats 4000000 in
theorem s_Wa_greatestBehind (l : Launch) (z : Zz) (ad : Nat → Nat) (E : Ev) (M : Mm) (x1 : Int) (x2 : Int) (r : Int)  (hL : Lay E) (h : f_Wa_greatestBehind E M x1 x2 = some r) : CT l z ⟨"Ballothall$Wards", "greatestBehind", "(II)I"⟩ prog_12_method_5_code 3 (some .int) [.ref (ad 219), .int (oI x1), .int (oI x2)] (wv z ad E M) 0 20 0 0 (fun _ => some (.int (oI r))) (fun _ => (wv z ad E M)) := by
  refine CT.of (own := "Ballothall$Wards") (by decide +kernel) (Nat.le_of_ble_eq_true rfl) rfl (fun p e s m below meth c A ls hx hb hml hr hts hown hlocks hin hA hG hZ hP hD hS hl => ?_)
  have hl : lv_has ls 3 [(0, .ref (ad 219)), (1, .int (oI x1)), (2, .int (oI x2))] := hl
  have key : ∀ (H : Heap) (locs : List Loc) (args : Array Value), (∀ w ∈ WG, w.before args s = true) → va_P z.1 classes (wv z ad E M) H → va_S A s.heap H locs → W p l e (rmK 0 20 0 0) s m args below meth c H locs 0 0 (MQ below (QK z A (fun _ => some (.int (oI r))) (fun _ => (wv z ad E M))) args s 0 0 A) (F0 m 0 ls []) := by
    intro H locs args hts hP hS
    unfold f_Wa_greatestBehind at h
    refine lv_iload_n hx hb d_12_5_0 rfl (lv_at hl 1 rfl) ?_
    refine lv_iconst (v := oI 1) hx hb d_12_5_1 (by decide +kernel) ?_
    refine lv_iadd hx hb d_12_5_2 ?_
    refine nrm (oI_add _ _) ?_
    refine lv_aload_n hx hb d_12_5_3 rfl (lv_at hl 0 rfl) ?_
    refine m_gi (C := "Ballothall$Wards") (T := TX10) (N := 5) (ci := 10) (k := 0) hx hb hts iX10 hown hG hP (yi_219 hL) (yt_219 hL) rfl (by decide) w_358 (fun _ h9 => h9) rfl rfl d_12_5_4 ?_
    obtain ⟨ok100, h⟩ := ck_e h
    obtain ⟨ok101, h⟩ := ck_e h
    refine lv_icmp_ge (tgt := 33) hx hb d_12_5_7 (by decide) (fun c9 => ?_) (fun c9 => ?_)
    · have h := ite_t ((oI_le (a := (M 219 0)) (b := (x1 + 1)) ok101 ok100).mp c9) h
      refine lv_iconst (v := oI 0) hx hb d_12_5_33 (by decide +kernel) ?_
      obtain rfl := in1 h
      exact W.iret hx hb hr (fun t ht hW => qkA hP hD hS (fun k => k) rfl rfl ht) hS.2.2 d_12_5_34
    · have h := ite_f (fun q => c9 ((oI_le (a := (M 219 0)) (b := (x1 + 1)) ok101 ok100).mpr q)) h
      refine lv_iload_n hx hb d_12_5_10 rfl (lv_at hl 2 rfl) ?_
      refine lv_iconst (v := oI 1) hx hb d_12_5_11 (by decide +kernel) ?_
      obtain ⟨ok102, h⟩ := ck_e h
      refine lv_icmp_le (tgt := 30) hx hb d_12_5_12 (by decide) (fun c9 => ?_) (fun c9 => ?_)
      · have h := ite_t ((oI_le (a := x2) (b := (1 : Int)) ok102 (by decide)).mp c9) h
        refine lv_ldc hx hb hown (hts _ w_1626) d_12_5_30 ?_
        refine nrm (x1 := oI 1600001) (by decide +kernel) ?_
        obtain rfl := in1 h
        exact W.iret hx hb hr (fun t ht hW => qkA hP hD hS (fun k => k) rfl rfl ht) hS.2.2 d_12_5_32
      · have h := ite_f (fun q => c9 ((oI_le (a := x2) (b := (1 : Int)) ok102 (by decide)).mpr q)) h
        refine lv_aload_n hx hb d_12_5_15 rfl (lv_at hl 0 rfl) ?_
        refine m_gr (j := 224) (C := "Ballothall$Wards") (T := TX10) (N := 5) (ci := 10) (k := 3) hx hb hts iX10 hown hG hP (yi_219 hL) (yt_219 hL) rfl (by decide) w_362 (fun _ h9 => h9) rfl rfl (yr_219_3 hL) d_12_5_16 ?_
        refine lv_iload_n hx hb d_12_5_19 rfl (lv_at hl 2 rfl) ?_
        refine lv_iconst (v := oI 1) hx hb d_12_5_20 (by decide +kernel) ?_
        refine lv_isub hx hb d_12_5_21 ?_
        refine nrm (oI_sub _ _) ?_
        obtain ⟨ok103, h⟩ := ck_e h
        refine m_ar (k := (225 + (x2 - 1).toNat)) hx hb hG hP (yi_224 hL) (yt_224 hL) ok103 (ya_224 hL (inb_lt ok103)) d_12_5_22 ?_
        refine lv_iload_n hx hb d_12_5_23 rfl (lv_at hl 1 rfl) ?_
        refine lv_iconst (v := oI 1) hx hb d_12_5_24 (by decide +kernel) ?_
        refine lv_iadd hx hb d_12_5_25 ?_
        refine nrm (oI_add _ _) ?_
        obtain ⟨ok104, h⟩ := ck_e h
        refine m_ia hx hb hG hP (yg_224 hL ok103).1 (yg_224 hL ok103).2 ok104 d_12_5_26 ?_
        refine lv_goto (tgt := 32) hx hb d_12_5_27 (by decide) ?_
        obtain rfl := in1 h
        exact W.iret hx hb hr (fun t ht hW => qkA hP hD hS (fun k => k) rfl rfl ht) hS.2.2 d_12_5_32
  exact key _ _ _ hts hP hS
set_option maxRecDepth 100000 in
set_option maxHeartbeats 4000000 in
theorem b_Wa_greatestOf_9b (l : Launch) (z : Zz) (ad : Nat → Nat) (E : Ev) (M : Mm) (x1 : Int) (x3 : Int) (x4 : Int) (x5 : Int) (t : Nat) (w3 : Int) (w4 : Int) (w5 : Int)  {Q : State → Prop} {p : Program} {e : Env} {s : State} {m : MethodId} {below : List Frame} {meth : Method} {c : Code} {A : Nat → Prop} {args : Array Value} (hx : p.tables.exec = Jvm.exec) (hb : c.code = prog_12_method_4_code) (hml : c.maxLocals = 6) (hts : ∀ w ∈ WG, w.before args s = true) (hown : s.vm.findClass "Ballothall$Wards" = some m.cls) (hlocks : meth.locks = false) (hA : ∀ q, s.heap.size ≤ q → A q) (hG : KG z s) (hZ : FZ z A s) (hL : Lay E) (h : Wa_greatestOf_9b E M x1 x3 x4 x5 = some (t, w3, w4, w5)) (k0 : t = 0 → ∀ (H : Heap) (locs : List Loc) (ls : Array Slot), va_P z.1 classes (wv z ad E M) H → va_D A (wv z ad E M) → va_S A s.heap H locs → lv_has ls 6 [(0, .ref (ad 219)), (1, .int (oI x1)), (3, .int (oI w3)), (4, .int (oI w4)), (5, .int (oI w5))] → W p l e (rmK 1 42 0 0) s m args below meth c H locs 0 0 Q (F0 m 9 ls [])) (k1 : t = 1 → ∀ (H : Heap) (locs : List Loc) (ls : Array Slot), va_P z.1 classes (wv z ad E M) H → va_D A (wv z ad E M) → va_S A s.heap H locs → lv_has ls 6 [(3, .int (oI w3))] → W p l e (rmK 1 42 0 0) s m args below meth c H locs 0 0 Q (F0 m 55 ls [])) : ∀ (H : Heap) (locs : List Loc) (ls : Array Slot), va_P z.1 classes (wv z ad E M) H → va_D A (wv z ad E M) → va_S A s.heap H locs → lv_has ls 6 [(0, .ref (ad 219)), (1, .int (oI x1)), (3, .int (oI x3)), (4, .int (oI x4)), (5, .int (oI x5))] → W p l e (rmK 1 42 0 0) s m args below meth c H locs 0 0 Q (F0 m 9 ls []) := by
  intro H locs ls hP hD hS hl
  unfold Wa_greatestOf_9b at h
  refine lv_iload hx hb d_12_4_9 (lv_at hl 4 rfl) ?_
  refine lv_aload_n hx hb d_12_4_11 rfl (lv_at hl 0 rfl) ?_
  refine m_gi (C := "Ballothall$Wards") (T := TX10) (N := 5) (ci := 10) (k := 0) hx hb hts iX10 hown hG hP (yi_219 hL) (yt_219 hL) rfl (by decide) w_358 (fun _ h9 => h9) rfl rfl d_12_4_12 ?_
  refine lv_iload_n hx hb d_12_4_15 rfl (lv_at hl 1 rfl) ?_
  refine lv_isub hx hb d_12_4_16 ?_
  refine nrm (oI_sub _ _) ?_
  obtain ⟨ok100, h⟩ := ck_e h
  obtain ⟨ok101, h⟩ := ck_e h
  refine lv_icmp_gt (tgt := 55) hx hb d_12_4_17 (by decide) (fun c9 => ?_) (fun c9 => ?_)
  · have h := ite_t ((oI_lt (a := ((M 219 0) - x1)) (b := x5) ok101 ok100).mp c9) h
    obtain ⟨rfl, rfl, rfl, rfl⟩ := in4 h
    exact k1 rfl H locs ls hP hD hS (lv_sub hl [2] rfl)
  · have h := ite_f (fun q => c9 ((oI_lt (a := ((M 219 0) - x1)) (b := x5) ok101 ok100).mpr q)) h
    refine lv_iload hx hb d_12_4_20 (lv_at hl 3 rfl) ?_
    refine lv_aload_n hx hb d_12_4_22 rfl (lv_at hl 0 rfl) ?_
    refine m_gr (j := 220) (C := "Ballothall$Wards") (T := TX10) (N := 5) (ci := 10) (k := 1) hx hb hts iX10 hown hG hP (yi_219 hL) (yt_219 hL) rfl (by decide) w_360 (fun _ h9 => h9) rfl rfl (yr_219_1 hL) d_12_4_23 ?_
    refine lv_iload hx hb d_12_4_26 (lv_at hl 4 rfl) ?_
    obtain ⟨ok102, h⟩ := ck_e h
    refine m_ia hx hb hG hP (yi_220 hL) (yt_220 hL) ok102 d_12_4_28 ?_
    refine lv_iadd hx hb d_12_4_29 ?_
    refine nrm (oI_add _ _) ?_
    refine lv_istore (lv' := [(4, .int (oI (x4 + (M 220 x5.toNat)))), (0, .ref (ad 219)), (1, .int (oI x1)), (3, .int (oI x3)), (5, .int (oI x5))]) hx hb d_12_4_30 hl (by decide) rfl (fun ls hl => ?_)
    refine lv_iload_n hx hb d_12_4_32 rfl (lv_at hl 3 rfl) ?_
    refine lv_iload hx hb d_12_4_33 (lv_at hl 0 rfl) ?_
    refine lv_aload_n hx hb d_12_4_35 rfl (lv_at hl 1 rfl) ?_
    refine lv_iload hx hb d_12_4_36 (lv_at hl 4 rfl) ?_
    refine lv_iload_n hx hb d_12_4_38 rfl (lv_at hl 2 rfl) ?_
    obtain ⟨r103, g103, h⟩ := bd_e h
    refine kV (As := [.int (oI x5), .int (oI x1)]) (rest := [.int (oI (x4 + (M 220 x5.toNat))), .int (oI x3)]) (s_Wa_greatestBehind l z ad E M x5 x1 r103 hL g103) hx hb hml hown hts w_1630 w_1627 w_1629 w_s_f89072 w_10 md_2a0790 ⟨Nat.le_of_ble_eq_true rfl, Nat.le_of_ble_eq_true rfl⟩ hG hZ hP hD hS hA 219 (wv_o (ci := 10) (yi_219 hL) (yt_219 hL)) rfl rfl rfl hl.1 rfl (Nat.le_of_ble_eq_true rfl) d_12_4_39 ⟨Nat.le_of_ble_eq_true rfl, Nat.le_of_ble_eq_true rfl⟩ (fun _ H locs hP hD hS => ?_)
    have hP : va_P z.1 classes (wv z ad E M) H := hP
    have hD : va_D A (wv z ad E M) := hD
    refine W.eq (g2 := F0 m 42 ls [.int (oI r103), .int (oI (x4 + (M 220 x5.toNat))), .int (oI x3)]) rfl ?_
    obtain ⟨ok104, h⟩ := ck_e h
    obtain ⟨ok105, h⟩ := ck_e h
    refine va_mmax hx hb (by rw [hml]; exact hl.1.symm) hown (hts _ w_1631) (hts _ w_632) (hts _ w_17) (hts _ w_max) (Nat.le_of_ble_eq_true rfl) (Nat.le_of_ble_eq_true rfl) (Nat.le_of_ble_eq_true rfl) (Nat.le_of_ble_eq_true rfl) d_12_4_42 ?_
    refine nrm (mx_oI (a := (x4 + (M 220 x5.toNat))) (b := r103) ok104 ok105) ?_
    obtain ⟨v106, e106, h⟩ := nb_e h
    refine nrm (congrArg oI e106.symm) ?_
    obtain ⟨ok107, h⟩ := ck_e h
    refine va_mmin hx hb (by rw [hml]; exact hl.1.symm) hown (hts _ w_1632) (hts _ w_521) (hts _ w_17) (hts _ w_min) (Nat.le_of_ble_eq_true rfl) (Nat.le_of_ble_eq_true rfl) (Nat.le_of_ble_eq_true rfl) (Nat.le_of_ble_eq_true rfl) d_12_4_45 ?_
    refine nrm (mn_oI (a := x3) (b := v106) ok107 (e106 ▸ (rg_max (x := (x4 + (M 220 x5.toNat))) (y := r103) ok104 ok105))) ?_
    refine lv_istore_n (lv' := [(3, .int (oI (min x3 v106))), (4, .int (oI (x4 + (M 220 x5.toNat)))), (0, .ref (ad 219)), (1, .int (oI x1)), (5, .int (oI x5))]) hx hb d_12_4_48 rfl hl (by decide) rfl (fun ls hl => ?_)
    refine lv_iinc (v := oI (x5 + 1)) (lv' := [(5, .int (oI (x5 + 1))), (3, .int (oI (min x3 v106))), (4, .int (oI (x4 + (M 220 x5.toNat)))), (0, .ref (ad 219)), (1, .int (oI x1))]) hx hb d_12_4_49 hl (k := 4) rfl (oI_add x5 1) (by decide) rfl (fun ls hl => ?_)
    refine lv_goto (tgt := 9) hx hb d_12_4_52 (by decide) ?_
    obtain ⟨rfl, rfl, rfl, rfl⟩ := in4 h
    exact k0 rfl H locs ls hP hD hS (lv_sub hl [3, 4, 1, 2, 0] rfl)
set_option maxRecDepth 100000 in
set_option maxHeartbeats 4000000 in
theorem s_Wa_greatestOf_9 (l : Launch) (z : Zz) (ad : Nat → Nat) (E : Ev) (x1 : Int) {Q : State → Prop} {p : Program} {e : Env} {s : State} {m : MethodId} {below : List Frame} {meth : Method} {c : Code} {A : Nat → Prop} {args : Array Value} (hx : p.tables.exec = Jvm.exec) (hb : c.code = prog_12_method_4_code) (hml : c.maxLocals = 6) (hts : ∀ w ∈ WG, w.before args s = true) (hown : s.vm.findClass "Ballothall$Wards" = some m.cls) (hlocks : meth.locks = false) (hA : ∀ q, s.heap.size ≤ q → A q) (hG : KG z s) (hZ : FZ z A s) (hL : Lay E) : ∀ (fu : Nat) (M : Mm) (x3 : Int) (x4 : Int) (x5 : Int) (t : Nat) (w3 : Int) (w4 : Int) (w5 : Int), l_Wa_greatestOf_9 E x1 fu M x3 x4 x5 = some (t, w3, w4, w5) → (t = 1 → ∀ (H : Heap) (locs : List Loc) (ls : Array Slot), va_P z.1 classes (wv z ad E M) H → va_D A (wv z ad E M) → va_S A s.heap H locs → lv_has ls 6 [(3, .int (oI w3))] → W p l e (rmK 1 42 0 0) s m args below meth c H locs 0 0 Q (F0 m 55 ls [])) → ∀ (H : Heap) (locs : List Loc) (ls : Array Slot), va_P z.1 classes (wv z ad E M) H → va_D A (wv z ad E M) → va_S A s.heap H locs → lv_has ls 6 [(0, .ref (ad 219)), (1, .int (oI x1)), (3, .int (oI x3)), (4, .int (oI x4)), (5, .int (oI x5))] → W p l e (rmK 1 42 0 0) s m args below meth c H locs 0 0 Q (F0 m 9 ls []) := by
  intro fu
  induction fu with
  | zero =>
    intro M x3 x4 x5 t w3 w4 w5 h
    have h : (none : Option (Nat × Int × Int × Int)) = some _ := h
    cases h
  | succ fu ih =>
    intro M x3 x4 x5 t w3 w4 w5 h k1 H locs ls hP hD hS hl
    obtain ⟨⟨t0, w30, w40, w50⟩, g0, h⟩ := bd_e h
    refine b_Wa_greatestOf_9b l z ad E M x1 x3 x4 x5 t0 w30 w40 w50 hx hb hml hts hown hlocks hA hG hZ hL g0 (fun e0 => ?_) (fun e0 => ?_) H locs ls hP hD hS hl
    · subst e0
      have h := ite_t rfl h
      exact ih M w30 w40 w50 t w3 w4 w5 h k1
    · subst e0
      have h := ite_f (by decide) h
      obtain ⟨rfl, rfl, rfl, rfl⟩ := in4 h
      exact k1 rfl
set_option maxRecDepth 100000 in
set_option maxHeartbeats 4000000 in
theorem s_Wa_greatestOf (l : Launch) (z : Zz) (ad : Nat → Nat) (E : Ev) (M : Mm) (x1 : Int) (x2 : Int) (r : Int)  (hL : Lay E) (h : f_Wa_greatestOf E M x1 x2 = some r) : CT l z ⟨"Ballothall$Wards", "greatestOf", "(II)I"⟩ prog_12_method_4_code 6 (some .int) [.ref (ad 219), .int (oI x1), .int (oI x2)] (wv z ad E M) 1 42 0 0 (fun _ => some (.int (oI r))) (fun _ => (wv z ad E M)) := by
  refine CT.of (own := "Ballothall$Wards") (by decide +kernel) (Nat.le_of_ble_eq_true rfl) rfl (fun p e s m below meth c A ls hx hb hml hr hts hown hlocks hin hA hG hZ hP hD hS hl => ?_)
  have hl : lv_has ls 6 [(0, .ref (ad 219)), (1, .int (oI x1)), (2, .int (oI x2))] := hl
  have key : ∀ (H : Heap) (locs : List Loc) (args : Array Value), (∀ w ∈ WG, w.before args s = true) → va_P z.1 classes (wv z ad E M) H → va_S A s.heap H locs → W p l e (rmK 1 42 0 0) s m args below meth c H locs 0 0 (MQ below (QK z A (fun _ => some (.int (oI r))) (fun _ => (wv z ad E M))) args s 0 0 A) (F0 m 0 ls []) := by
    intro H locs args hts hP hS
    unfold f_Wa_greatestOf at h
    refine lv_ldc hx hb hown (hts _ w_1626) d_12_4_0 ?_
    refine nrm (x1 := oI 1600001) (by decide +kernel) ?_
    refine lv_istore_n (lv' := [(3, .int (oI 1600001)), (0, .ref (ad 219)), (1, .int (oI x1)), (2, .int (oI x2))]) hx hb d_12_4_2 rfl hl (by decide) rfl (fun ls hl => ?_)
    refine lv_iconst (v := oI 0) hx hb d_12_4_3 (by decide +kernel) ?_
    refine lv_istore (lv' := [(4, .int (oI 0)), (3, .int (oI 1600001)), (0, .ref (ad 219)), (1, .int (oI x1)), (2, .int (oI x2))]) hx hb d_12_4_4 hl (by decide) rfl (fun ls hl => ?_)
    refine lv_iload_n hx hb d_12_4_6 rfl (lv_at hl 4 rfl) ?_
    refine lv_istore (lv' := [(5, .int (oI x2)), (4, .int (oI 0)), (3, .int (oI 1600001)), (0, .ref (ad 219)), (1, .int (oI x1)), (2, .int (oI x2))]) hx hb d_12_4_7 hl (by decide) rfl (fun ls hl => ?_)
    obtain ⟨⟨t108, v108_3, v108_4, v108_5⟩, g108, h⟩ := bd_e h
    obtain ⟨ok108, h⟩ := ck_e h
    refine s_Wa_greatestOf_9 l z ad E x1 hx hb hml hts hown hlocks hA hG hZ hL FU M 1600001 0 x2 t108 v108_3 v108_4 v108_5 g108 (fun e108 H locs ls hP hD hS hl => ?_) H locs ls hP hD hS (lv_sub hl [3, 4, 2, 1, 0] rfl)
    refine lv_iload_n hx hb d_12_4_55 rfl (lv_at hl 0 rfl) ?_
    obtain rfl := in1 h
    exact W.iret hx hb hr (fun t ht hW => qkA hP hD hS (fun k => k) rfl rfl ht) hS.2.2 d_12_4_56
  exact key _ _ _ hts hP hS
set_option maxRecDepth 100000 in
set_option maxHeartbeats 4000000 in
theorem b_Wa_firstEnd_3b (l : Launch) (z : Zz) (ad : Nat → Nat) (E : Ev) (M : Mm) (x2 : Int) (x3 : Int) (x4 : Int) (t : Nat) (w4 : Int)  {Q : State → Prop} {p : Program} {e : Env} {s : State} {m : MethodId} {below : List Frame} {meth : Method} {c : Code} {A : Nat → Prop} {args : Array Value} (hx : p.tables.exec = Jvm.exec) (hb : c.code = prog_12_method_6_code) (hml : c.maxLocals = 5) (hts : ∀ w ∈ WG, w.before args s = true) (hown : s.vm.findClass "Ballothall$Wards" = some m.cls) (hlocks : meth.locks = false) (hA : ∀ q, s.heap.size ≤ q → A q) (hG : KG z s) (hZ : FZ z A s) (hL : Lay E) (h : Wa_firstEnd_3b E M x2 x3 x4 = some (t, w4)) (k0 : t = 0 → ∀ (H : Heap) (locs : List Loc) (ls : Array Slot), va_P z.1 classes (wv z ad E M) H → va_D A (wv z ad E M) → va_S A s.heap H locs → lv_has ls 5 [(0, .ref (ad 219)), (2, .int (oI x2)), (3, .int (oI x3)), (4, .int (oI w4))] → W p l e (rmK 1 42 0 0) s m args below meth c H locs 0 0 Q (F0 m 3 ls [])) (k1 : t = 1 → ∀ (H : Heap) (locs : List Loc) (ls : Array Slot), va_P z.1 classes (wv z ad E M) H → va_D A (wv z ad E M) → va_S A s.heap H locs → lv_has ls 5 [(4, .int (oI w4))] → W p l e (rmK 1 42 0 0) s m args below meth c H locs 0 0 Q (F0 m 31 ls [])) : ∀ (H : Heap) (locs : List Loc) (ls : Array Slot), va_P z.1 classes (wv z ad E M) H → va_D A (wv z ad E M) → va_S A s.heap H locs → lv_has ls 5 [(0, .ref (ad 219)), (2, .int (oI x2)), (3, .int (oI x3)), (4, .int (oI x4))] → W p l e (rmK 1 42 0 0) s m args below meth c H locs 0 0 Q (F0 m 3 ls []) := by
  intro H locs ls hP hD hS hl
  unfold Wa_firstEnd_3b at h
  refine lv_iload hx hb d_12_6_3 (lv_at hl 3 rfl) ?_
  refine lv_aload_n hx hb d_12_6_5 rfl (lv_at hl 0 rfl) ?_
  refine m_gi (C := "Ballothall$Wards") (T := TX10) (N := 5) (ci := 10) (k := 0) hx hb hts iX10 hown hG hP (yi_219 hL) (yt_219 hL) rfl (by decide) w_358 (fun _ h9 => h9) rfl rfl d_12_6_6 ?_
  refine lv_iload_n hx hb d_12_6_9 rfl (lv_at hl 1 rfl) ?_
  refine lv_isub hx hb d_12_6_10 ?_
  refine nrm (oI_sub _ _) ?_
  obtain ⟨ok100, h⟩ := ck_e h
  obtain ⟨ok101, h⟩ := ck_e h
  refine lv_icmp_ge (tgt := 31) hx hb d_12_6_11 (by decide) (fun c9 => ?_) (fun c9 => ?_)
  · have h := ite_t ((oI_le (a := ((M 219 0) - x2)) (b := x4) ok101 ok100).mp c9) h
    obtain ⟨rfl, rfl⟩ := in2 h
    exact k1 rfl H locs ls hP hD hS (lv_sub hl [3] rfl)
  · have h := ite_f (fun q => c9 ((oI_le (a := ((M 219 0) - x2)) (b := x4) ok101 ok100).mpr q)) h
    refine lv_aload_n hx hb d_12_6_14 rfl (lv_at hl 0 rfl) ?_
    refine lv_iload hx hb d_12_6_15 (lv_at hl 3 rfl) ?_
    refine lv_iload_n hx hb d_12_6_17 rfl (lv_at hl 1 rfl) ?_
    obtain ⟨r102, g102, h⟩ := bd_e h
    refine kV (As := [.int (oI x4), .int (oI x2)]) (rest := []) (s_Wa_greatestBehind l z ad E M x4 x2 r102 hL g102) hx hb hml hown hts w_1630 w_1627 w_1629 w_s_f89072 w_10 md_2a0790 ⟨Nat.le_of_ble_eq_true rfl, Nat.le_of_ble_eq_true rfl⟩ hG hZ hP hD hS hA 219 (wv_o (ci := 10) (yi_219 hL) (yt_219 hL)) rfl rfl rfl hl.1 rfl (Nat.le_of_ble_eq_true rfl) d_12_6_18 ⟨Nat.le_of_ble_eq_true rfl, Nat.le_of_ble_eq_true rfl⟩ (fun _ H locs hP hD hS => ?_)
    have hP : va_P z.1 classes (wv z ad E M) H := hP
    have hD : va_D A (wv z ad E M) := hD
    refine W.eq (g2 := F0 m 21 ls [.int (oI r102)]) rfl ?_
    refine lv_iload_n hx hb d_12_6_21 rfl (lv_at hl 2 rfl) ?_
    obtain ⟨ok103, h⟩ := ck_e h
    obtain ⟨ok104, h⟩ := ck_e h
    refine lv_icmp_le (tgt := 31) hx hb d_12_6_22 (by decide) (fun c9 => ?_) (fun c9 => ?_)
    · have h := ite_t ((oI_le (a := r102) (b := x3) ok103 ok104).mp c9) h
      obtain ⟨rfl, rfl⟩ := in2 h
      exact k1 rfl H locs ls hP hD hS (lv_sub hl [3] rfl)
    · have h := ite_f (fun q => c9 ((oI_le (a := r102) (b := x3) ok103 ok104).mpr q)) h
      refine lv_iinc (v := oI (x4 + 1)) (lv' := [(4, .int (oI (x4 + 1))), (0, .ref (ad 219)), (2, .int (oI x2)), (3, .int (oI x3))]) hx hb d_12_6_25 hl (k := 3) rfl (oI_add x4 1) (by decide) rfl (fun ls hl => ?_)
      refine lv_goto (tgt := 3) hx hb d_12_6_28 (by decide) ?_
      obtain ⟨rfl, rfl⟩ := in2 h
      exact k0 rfl H locs ls hP hD hS (lv_sub hl [1, 2, 3, 0] rfl)
set_option maxRecDepth 100000 in
set_option maxHeartbeats 4000000 in
theorem s_Wa_firstEnd_3 (l : Launch) (z : Zz) (ad : Nat → Nat) (E : Ev) (x2 : Int) (x3 : Int) {Q : State → Prop} {p : Program} {e : Env} {s : State} {m : MethodId} {below : List Frame} {meth : Method} {c : Code} {A : Nat → Prop} {args : Array Value} (hx : p.tables.exec = Jvm.exec) (hb : c.code = prog_12_method_6_code) (hml : c.maxLocals = 5) (hts : ∀ w ∈ WG, w.before args s = true) (hown : s.vm.findClass "Ballothall$Wards" = some m.cls) (hlocks : meth.locks = false) (hA : ∀ q, s.heap.size ≤ q → A q) (hG : KG z s) (hZ : FZ z A s) (hL : Lay E) : ∀ (fu : Nat) (M : Mm) (x4 : Int) (t : Nat) (w4 : Int), l_Wa_firstEnd_3 E x2 x3 fu M x4 = some (t, w4) → (t = 1 → ∀ (H : Heap) (locs : List Loc) (ls : Array Slot), va_P z.1 classes (wv z ad E M) H → va_D A (wv z ad E M) → va_S A s.heap H locs → lv_has ls 5 [(4, .int (oI w4))] → W p l e (rmK 1 42 0 0) s m args below meth c H locs 0 0 Q (F0 m 31 ls [])) → ∀ (H : Heap) (locs : List Loc) (ls : Array Slot), va_P z.1 classes (wv z ad E M) H → va_D A (wv z ad E M) → va_S A s.heap H locs → lv_has ls 5 [(0, .ref (ad 219)), (2, .int (oI x2)), (3, .int (oI x3)), (4, .int (oI x4))] → W p l e (rmK 1 42 0 0) s m args below meth c H locs 0 0 Q (F0 m 3 ls []) := by
  intro fu
  induction fu with
  | zero =>
    intro M x4 t w4 h
    have h : (none : Option (Nat × Int)) = some _ := h
    cases h
  | succ fu ih =>
    intro M x4 t w4 h k1 H locs ls hP hD hS hl
    obtain ⟨⟨t0, w40⟩, g0, h⟩ := bd_e h
    refine b_Wa_firstEnd_3b l z ad E M x2 x3 x4 t0 w40 hx hb hml hts hown hlocks hA hG hZ hL g0 (fun e0 => ?_) (fun e0 => ?_) H locs ls hP hD hS hl
    · subst e0
      have h := ite_t rfl h
      exact ih M w40 t w4 h k1
    · subst e0
      have h := ite_f (by decide) h
      obtain ⟨rfl, rfl⟩ := in2 h
      exact k1 rfl
set_option maxRecDepth 100000 in
set_option maxHeartbeats 4000000 in
theorem s_Wa_firstEnd (l : Launch) (z : Zz) (ad : Nat → Nat) (E : Ev) (M : Mm) (x1 : Int) (x2 : Int) (x3 : Int) (r : Int)  (hL : Lay E) (h : f_Wa_firstEnd E M x1 x2 x3 = some r) : CT l z ⟨"Ballothall$Wards", "firstEnd", "(III)I"⟩ prog_12_method_6_code 5 (some .int) [.ref (ad 219), .int (oI x1), .int (oI x2), .int (oI x3)] (wv z ad E M) 1 42 0 0 (fun _ => some (.int (oI r))) (fun _ => (wv z ad E M)) := by
  refine CT.of (own := "Ballothall$Wards") (by decide +kernel) (Nat.le_of_ble_eq_true rfl) rfl (fun p e s m below meth c A ls hx hb hml hr hts hown hlocks hin hA hG hZ hP hD hS hl => ?_)
  have hl : lv_has ls 5 [(0, .ref (ad 219)), (1, .int (oI x1)), (2, .int (oI x2)), (3, .int (oI x3))] := hl
  have key : ∀ (H : Heap) (locs : List Loc) (args : Array Value), (∀ w ∈ WG, w.before args s = true) → va_P z.1 classes (wv z ad E M) H → va_S A s.heap H locs → W p l e (rmK 1 42 0 0) s m args below meth c H locs 0 0 (MQ below (QK z A (fun _ => some (.int (oI r))) (fun _ => (wv z ad E M))) args s 0 0 A) (F0 m 0 ls []) := by
    intro H locs args hts hP hS
    unfold f_Wa_firstEnd at h
    refine lv_iload_n hx hb d_12_6_0 rfl (lv_at hl 1 rfl) ?_
    refine lv_istore (lv' := [(4, .int (oI x1)), (0, .ref (ad 219)), (1, .int (oI x1)), (2, .int (oI x2)), (3, .int (oI x3))]) hx hb d_12_6_1 hl (by decide) rfl (fun ls hl => ?_)
    obtain ⟨⟨t105, v105_4⟩, g105, h⟩ := bd_e h
    obtain ⟨ok105, h⟩ := ck_e h
    refine s_Wa_firstEnd_3 l z ad E x2 x3 hx hb hml hts hown hlocks hA hG hZ hL FU M x1 t105 v105_4 g105 (fun e105 H locs ls hP hD hS hl => ?_) H locs ls hP hD hS (lv_sub hl [1, 3, 4, 0] rfl)
    refine lv_iload hx hb d_12_6_31 (lv_at hl 0 rfl) ?_
    obtain rfl := in1 h
    exact W.iret hx hb hr (fun t ht hW => qkA hP hD hS (fun k => k) rfl rfl ht) hS.2.2 d_12_6_33
  exact key _ _ _ hts hP hS
set_option maxRecDepth 100000 in
set_option maxHeartbeats 4000000 in
theorem b_Wa_divide_9b (l : Launch) (z : Zz) (ad : Nat → Nat) (E : Ev) (M : Mm) (x1 : Int) (x2 : Int) (x3 : Int) (t : Nat) (w3 : Int) (N : Mm) {Q : State → Prop} {p : Program} {e : Env} {s : State} {m : MethodId} {below : List Frame} {meth : Method} {c : Code} {A : Nat → Prop} {args : Array Value} (hx : p.tables.exec = Jvm.exec) (hb : c.code = prog_12_method_3_code) (hml : c.maxLocals = 5) (hts : ∀ w ∈ WG, w.before args s = true) (hown : s.vm.findClass "Ballothall$Wards" = some m.cls) (hlocks : meth.locks = false) (hA : ∀ q, s.heap.size ≤ q → A q) (hG : KG z s) (hZ : FZ z A s) (hL : Lay E) (h : Wa_divide_9b E M x1 x2 x3 = some (t, w3, N)) (k0 : t = 0 → ∀ (H : Heap) (locs : List Loc) (ls : Array Slot), va_P z.1 classes (wv z ad E N) H → va_D A (wv z ad E N) → va_S A s.heap H locs → lv_has ls 5 [(0, .ref (ad 219)), (1, .int (oI x1)), (2, .int (oI x2)), (3, .int (oI w3))] → W p l e (rmK 2 67 0 0) s m args below meth c H locs 0 0 Q (F0 m 9 ls [])) (k1 : t = 1 → ∀ (H : Heap) (locs : List Loc) (ls : Array Slot), va_P z.1 classes (wv z ad E N) H → va_D A (wv z ad E N) → va_S A s.heap H locs → lv_has ls 5 [(0, .ref (ad 219)), (1, .int (oI x1)), (2, .int (oI x2))] → W p l e (rmK 2 67 0 0) s m args below meth c H locs 0 0 Q (F0 m 39 ls [])) : ∀ (H : Heap) (locs : List Loc) (ls : Array Slot), va_P z.1 classes (wv z ad E M) H → va_D A (wv z ad E M) → va_S A s.heap H locs → lv_has ls 5 [(0, .ref (ad 219)), (1, .int (oI x1)), (2, .int (oI x2)), (3, .int (oI x3))] → W p l e (rmK 2 67 0 0) s m args below meth c H locs 0 0 Q (F0 m 9 ls []) := by
  intro H locs ls hP hD hS hl
  unfold Wa_divide_9b at h
  refine lv_iload_n hx hb d_12_3_9 rfl (lv_at hl 3 rfl) ?_
  refine lv_aload_n hx hb d_12_3_10 rfl (lv_at hl 0 rfl) ?_
  refine m_gi (C := "Ballothall$Wards") (T := TX10) (N := 5) (ci := 10) (k := 0) hx hb hts iX10 hown hG hP (yi_219 hL) (yt_219 hL) rfl (by decide) w_358 (fun _ h9 => h9) rfl rfl d_12_3_11 ?_
  refine lv_iload_n hx hb d_12_3_14 rfl (lv_at hl 2 rfl) ?_
  refine lv_isub hx hb d_12_3_15 ?_
  refine nrm (oI_sub _ _) ?_
  obtain ⟨ok102, h⟩ := ck_e h
  obtain ⟨ok103, h⟩ := ck_e h
  refine lv_icmp_gt (tgt := 39) hx hb d_12_3_16 (by decide) (fun c9 => ?_) (fun c9 => ?_)
  · have h := ite_t ((oI_lt (a := ((M 219 0) - x2)) (b := x3) ok103 ok102).mp c9) h
    obtain ⟨rfl, rfl, rfl⟩ := in3 h
    exact k1 rfl H locs ls hP hD hS (lv_sub hl [0, 1, 2] rfl)
  · have h := ite_f (fun q => c9 ((oI_lt (a := ((M 219 0) - x2)) (b := x3) ok103 ok102).mpr q)) h
    refine lv_aload_n hx hb d_12_3_19 rfl (lv_at hl 0 rfl) ?_
    refine m_gr (j := 224) (C := "Ballothall$Wards") (T := TX10) (N := 5) (ci := 10) (k := 3) hx hb hts iX10 hown hG hP (yi_219 hL) (yt_219 hL) rfl (by decide) w_362 (fun _ h9 => h9) rfl rfl (yr_219_3 hL) d_12_3_20 ?_
    refine lv_iload_n hx hb d_12_3_23 rfl (lv_at hl 2 rfl) ?_
    obtain ⟨ok104, h⟩ := ck_e h
    refine m_ar (k := (225 + x2.toNat)) hx hb hG hP (yi_224 hL) (yt_224 hL) ok104 (ya_224 hL (inb_lt ok104)) d_12_3_24 ?_
    refine lv_iload_n hx hb d_12_3_25 rfl (lv_at hl 3 rfl) ?_
    refine lv_aload_n hx hb d_12_3_26 rfl (lv_at hl 0 rfl) ?_
    refine lv_iload_n hx hb d_12_3_27 rfl (lv_at hl 2 rfl) ?_
    refine lv_iload_n hx hb d_12_3_28 rfl (lv_at hl 3 rfl) ?_
    obtain ⟨r105, g105, h⟩ := bd_e h
    refine kV (As := [.int (oI x2), .int (oI x3)]) (rest := [.int (oI x3), .ref (ad (225 + x2.toNat))]) (s_Wa_greatestOf l z ad E M x2 x3 r105 hL g105) hx hb hml hown hts w_1625 w_1622 w_1624 w_s_3f5817 w_10 md_a55e97 ⟨Nat.le_of_ble_eq_true rfl, Nat.le_of_ble_eq_true rfl⟩ hG hZ hP hD hS hA 219 (wv_o (ci := 10) (yi_219 hL) (yt_219 hL)) rfl rfl rfl hl.1 rfl (Nat.le_of_ble_eq_true rfl) d_12_3_29 ⟨Nat.le_of_ble_eq_true rfl, Nat.le_of_ble_eq_true rfl⟩ (fun _ H locs hP hD hS => ?_)
    have hP : va_P z.1 classes (wv z ad E M) H := hP
    have hD : va_D A (wv z ad E M) := hD
    refine W.eq (g2 := F0 m 32 ls [.int (oI r105), .int (oI x3), .ref (ad (225 + x2.toNat))]) rfl ?_
    obtain ⟨ok106, h⟩ := ck_e h
    refine m_is hx hb hG hP hD hS (yg_224 hL ok104).1 (yg_224 hL ok104).2 ok106 d_12_3_32 (fun H locs hP hD hS => ?_)
    have hP : va_P z.1 classes (wv z ad E (u2 M (225 + x2.toNat) x3.toNat r105)) H := hP
    have hD : va_D A (wv z ad E (u2 M (225 + x2.toNat) x3.toNat r105)) := hD
    refine lv_iinc (v := oI (x3 + 1)) (lv' := [(3, .int (oI (x3 + 1))), (0, .ref (ad 219)), (1, .int (oI x1)), (2, .int (oI x2))]) hx hb d_12_3_33 hl (k := 3) rfl (oI_add x3 1) (by decide) rfl (fun ls hl => ?_)
    refine lv_goto (tgt := 9) hx hb d_12_3_36 (by decide) ?_
    obtain ⟨rfl, rfl, rfl⟩ := in3 h
    exact k0 rfl H locs ls hP hD hS (lv_sub hl [1, 2, 3, 0] rfl)
set_option maxRecDepth 100000 in
set_option maxHeartbeats 4000000 in
theorem s_Wa_divide_9 (l : Launch) (z : Zz) (ad : Nat → Nat) (E : Ev) (x1 : Int) (x2 : Int) {Q : State → Prop} {p : Program} {e : Env} {s : State} {m : MethodId} {below : List Frame} {meth : Method} {c : Code} {A : Nat → Prop} {args : Array Value} (hx : p.tables.exec = Jvm.exec) (hb : c.code = prog_12_method_3_code) (hml : c.maxLocals = 5) (hts : ∀ w ∈ WG, w.before args s = true) (hown : s.vm.findClass "Ballothall$Wards" = some m.cls) (hlocks : meth.locks = false) (hA : ∀ q, s.heap.size ≤ q → A q) (hG : KG z s) (hZ : FZ z A s) (hL : Lay E) : ∀ (fu : Nat) (M : Mm) (x3 : Int) (t : Nat) (w3 : Int) (N : Mm), l_Wa_divide_9 E x1 x2 fu M x3 = some (t, w3, N) → (t = 1 → ∀ (H : Heap) (locs : List Loc) (ls : Array Slot), va_P z.1 classes (wv z ad E N) H → va_D A (wv z ad E N) → va_S A s.heap H locs → lv_has ls 5 [(0, .ref (ad 219)), (1, .int (oI x1)), (2, .int (oI x2))] → W p l e (rmK 2 67 0 0) s m args below meth c H locs 0 0 Q (F0 m 39 ls [])) → ∀ (H : Heap) (locs : List Loc) (ls : Array Slot), va_P z.1 classes (wv z ad E M) H → va_D A (wv z ad E M) → va_S A s.heap H locs → lv_has ls 5 [(0, .ref (ad 219)), (1, .int (oI x1)), (2, .int (oI x2)), (3, .int (oI x3))] → W p l e (rmK 2 67 0 0) s m args below meth c H locs 0 0 Q (F0 m 9 ls []) := by
  intro fu
  induction fu with
  | zero =>
    intro M x3 t w3 N h
    have h : (none : Option (Nat × Int × Mm)) = some _ := h
    cases h
  | succ fu ih =>
    intro M x3 t w3 N h k1 H locs ls hP hD hS hl
    obtain ⟨⟨t0, w30, N9⟩, g0, h⟩ := bd_e h
    refine b_Wa_divide_9b l z ad E M x1 x2 x3 t0 w30 N9 hx hb hml hts hown hlocks hA hG hZ hL g0 (fun e0 => ?_) (fun e0 => ?_) H locs ls hP hD hS hl
    · subst e0
      have h := ite_t rfl h
      exact ih N9 w30 t w3 N h k1
    · subst e0
      have h := ite_f (by decide) h
      obtain ⟨rfl, rfl, rfl⟩ := in3 h
      exact k1 rfl
set_option maxRecDepth 100000 in
set_option maxHeartbeats 4000000 in
theorem b_Wa_divide_2b (l : Launch) (z : Zz) (ad : Nat → Nat) (E : Ev) (M : Mm) (x1 : Int) (x2 : Int) (t : Nat) (w2 : Int) (N : Mm) {Q : State → Prop} {p : Program} {e : Env} {s : State} {m : MethodId} {below : List Frame} {meth : Method} {c : Code} {A : Nat → Prop} {args : Array Value} (hx : p.tables.exec = Jvm.exec) (hb : c.code = prog_12_method_3_code) (hml : c.maxLocals = 5) (hts : ∀ w ∈ WG, w.before args s = true) (hown : s.vm.findClass "Ballothall$Wards" = some m.cls) (hlocks : meth.locks = false) (hA : ∀ q, s.heap.size ≤ q → A q) (hG : KG z s) (hZ : FZ z A s) (hL : Lay E) (h : Wa_divide_2b E M x1 x2 = some (t, w2, N)) (k0 : t = 0 → ∀ (H : Heap) (locs : List Loc) (ls : Array Slot), va_P z.1 classes (wv z ad E N) H → va_D A (wv z ad E N) → va_S A s.heap H locs → lv_has ls 5 [(0, .ref (ad 219)), (1, .int (oI x1)), (2, .int (oI w2))] → W p l e (rmK 2 67 0 0) s m args below meth c H locs 0 0 Q (F0 m 2 ls [])) (k1 : t = 1 → ∀ (H : Heap) (locs : List Loc) (ls : Array Slot), va_P z.1 classes (wv z ad E N) H → va_D A (wv z ad E N) → va_S A s.heap H locs → lv_has ls 5 [(0, .ref (ad 219)), (1, .int (oI x1))] → W p l e (rmK 2 67 0 0) s m args below meth c H locs 0 0 Q (F0 m 45 ls [])) : ∀ (H : Heap) (locs : List Loc) (ls : Array Slot), va_P z.1 classes (wv z ad E M) H → va_D A (wv z ad E M) → va_S A s.heap H locs → lv_has ls 5 [(0, .ref (ad 219)), (1, .int (oI x1)), (2, .int (oI x2))] → W p l e (rmK 2 67 0 0) s m args below meth c H locs 0 0 Q (F0 m 2 ls []) := by
  intro H locs ls hP hD hS hl
  unfold Wa_divide_2b at h
  refine lv_iload_n hx hb d_12_3_2 rfl (lv_at hl 2 rfl) ?_
  refine lv_iload_n hx hb d_12_3_3 rfl (lv_at hl 1 rfl) ?_
  obtain ⟨ok100, h⟩ := ck_e h
  obtain ⟨ok101, h⟩ := ck_e h
  refine lv_icmp_gt (tgt := 45) hx hb d_12_3_4 (by decide) (fun c9 => ?_) (fun c9 => ?_)
  · have h := ite_t ((oI_lt (a := x1) (b := x2) ok101 ok100).mp c9) h
    obtain ⟨rfl, rfl, rfl⟩ := in3 h
    exact k1 rfl H locs ls hP hD hS (lv_sub hl [0, 1] rfl)
  · have h := ite_f (fun q => c9 ((oI_lt (a := x1) (b := x2) ok101 ok100).mpr q)) h
    refine lv_iconst (v := oI 0) hx hb d_12_3_7 (by decide +kernel) ?_
    refine lv_istore_n (lv' := [(3, .int (oI 0)), (0, .ref (ad 219)), (1, .int (oI x1)), (2, .int (oI x2))]) hx hb d_12_3_8 rfl hl (by decide) rfl (fun ls hl => ?_)
    obtain ⟨⟨t107, v107_3, M107⟩, g107, h⟩ := bd_e h
    obtain ⟨ok107, h⟩ := ck_e h
    refine s_Wa_divide_9 l z ad E x1 x2 hx hb hml hts hown hlocks hA hG hZ hL FU M 0 t107 v107_3 M107 g107 (fun e107 H locs ls hP hD hS hl => ?_) H locs ls hP hD hS (lv_sub hl [1, 2, 3, 0] rfl)
    refine lv_iinc (v := oI (x2 + 1)) (lv' := [(2, .int (oI (x2 + 1))), (0, .ref (ad 219)), (1, .int (oI x1))]) hx hb d_12_3_39 hl (k := 2) rfl (oI_add x2 1) (by decide) rfl (fun ls hl => ?_)
    refine lv_goto (tgt := 2) hx hb d_12_3_42 (by decide) ?_
    obtain ⟨rfl, rfl, rfl⟩ := in3 h
    exact k0 rfl H locs ls hP hD hS (lv_sub hl [1, 2, 0] rfl)
set_option maxRecDepth 100000 in
set_option maxHeartbeats 4000000 in
theorem s_Wa_divide_2 (l : Launch) (z : Zz) (ad : Nat → Nat) (E : Ev) (x1 : Int) {Q : State → Prop} {p : Program} {e : Env} {s : State} {m : MethodId} {below : List Frame} {meth : Method} {c : Code} {A : Nat → Prop} {args : Array Value} (hx : p.tables.exec = Jvm.exec) (hb : c.code = prog_12_method_3_code) (hml : c.maxLocals = 5) (hts : ∀ w ∈ WG, w.before args s = true) (hown : s.vm.findClass "Ballothall$Wards" = some m.cls) (hlocks : meth.locks = false) (hA : ∀ q, s.heap.size ≤ q → A q) (hG : KG z s) (hZ : FZ z A s) (hL : Lay E) : ∀ (fu : Nat) (M : Mm) (x2 : Int) (t : Nat) (w2 : Int) (N : Mm), l_Wa_divide_2 E x1 fu M x2 = some (t, w2, N) → (t = 1 → ∀ (H : Heap) (locs : List Loc) (ls : Array Slot), va_P z.1 classes (wv z ad E N) H → va_D A (wv z ad E N) → va_S A s.heap H locs → lv_has ls 5 [(0, .ref (ad 219)), (1, .int (oI x1))] → W p l e (rmK 2 67 0 0) s m args below meth c H locs 0 0 Q (F0 m 45 ls [])) → ∀ (H : Heap) (locs : List Loc) (ls : Array Slot), va_P z.1 classes (wv z ad E M) H → va_D A (wv z ad E M) → va_S A s.heap H locs → lv_has ls 5 [(0, .ref (ad 219)), (1, .int (oI x1)), (2, .int (oI x2))] → W p l e (rmK 2 67 0 0) s m args below meth c H locs 0 0 Q (F0 m 2 ls []) := by
  intro fu
  induction fu with
  | zero =>
    intro M x2 t w2 N h
    have h : (none : Option (Nat × Int × Mm)) = some _ := h
    cases h
  | succ fu ih =>
    intro M x2 t w2 N h k1 H locs ls hP hD hS hl
    obtain ⟨⟨t0, w20, N9⟩, g0, h⟩ := bd_e h
    refine b_Wa_divide_2b l z ad E M x1 x2 t0 w20 N9 hx hb hml hts hown hlocks hA hG hZ hL g0 (fun e0 => ?_) (fun e0 => ?_) H locs ls hP hD hS hl
    · subst e0
      have h := ite_t rfl h
      exact ih N9 w20 t w2 N h k1
    · subst e0
      have h := ite_f (by decide) h
      obtain ⟨rfl, rfl, rfl⟩ := in3 h
      exact k1 rfl
set_option maxRecDepth 100000 in
set_option maxHeartbeats 4000000 in
theorem b_Wa_divide_59b (l : Launch) (z : Zz) (ad : Nat → Nat) (E : Ev) (M : Mm) (x1 : Int) (x2 : Int) (x3 : Int) (x4 : Int) (t : Nat) (w3 : Int) (w4 : Int) (N : Mm) {Q : State → Prop} {p : Program} {e : Env} {s : State} {m : MethodId} {below : List Frame} {meth : Method} {c : Code} {A : Nat → Prop} {args : Array Value} (hx : p.tables.exec = Jvm.exec) (hb : c.code = prog_12_method_3_code) (hml : c.maxLocals = 5) (hts : ∀ w ∈ WG, w.before args s = true) (hown : s.vm.findClass "Ballothall$Wards" = some m.cls) (hlocks : meth.locks = false) (hA : ∀ q, s.heap.size ≤ q → A q) (hG : KG z s) (hZ : FZ z A s) (hL : Lay E) (h : Wa_divide_59b E M x1 x2 x3 x4 = some (t, w3, w4, N)) (k0 : t = 0 → ∀ (H : Heap) (locs : List Loc) (ls : Array Slot), va_P z.1 classes (wv z ad E N) H → va_D A (wv z ad E N) → va_S A s.heap H locs → lv_has ls 5 [(0, .ref (ad 219)), (1, .int (oI x1)), (2, .int (oI x2)), (3, .int (oI w3)), (4, .int (oI w4))] → W p l e (rmK 2 67 0 0) s m args below meth c H locs 0 0 Q (F0 m 59 ls [])) (k1 : t = 1 → ∀ (H : Heap) (locs : List Loc) (ls : Array Slot), va_P z.1 classes (wv z ad E N) H → va_D A (wv z ad E N) → va_S A s.heap H locs → lv_has ls 5 [(2, .int (oI x2))] → W p l e (rmK 2 67 0 0) s m args below meth c H locs 0 0 Q (F0 m 98 ls [])) : ∀ (H : Heap) (locs : List Loc) (ls : Array Slot), va_P z.1 classes (wv z ad E M) H → va_D A (wv z ad E M) → va_S A s.heap H locs → lv_has ls 5 [(0, .ref (ad 219)), (1, .int (oI x1)), (2, .int (oI x2)), (3, .int (oI x3)), (4, .int (oI x4))] → W p l e (rmK 2 67 0 0) s m args below meth c H locs 0 0 Q (F0 m 59 ls []) := by
  intro H locs ls hP hD hS hl
  unfold Wa_divide_59b at h
  refine lv_iload hx hb d_12_3_59 (lv_at hl 4 rfl) ?_
  refine lv_iload_n hx hb d_12_3_61 rfl (lv_at hl 1 rfl) ?_
  obtain ⟨ok110, h⟩ := ck_e h
  obtain ⟨ok111, h⟩ := ck_e h
  refine lv_icmp_ge (tgt := 98) hx hb d_12_3_62 (by decide) (fun c9 => ?_) (fun c9 => ?_)
  · have h := ite_t ((oI_le (a := x1) (b := x4) ok111 ok110).mp c9) h
    obtain ⟨rfl, rfl, rfl, rfl⟩ := in4 h
    exact k1 rfl H locs ls hP hD hS (lv_sub hl [2] rfl)
  · have h := ite_f (fun q => c9 ((oI_le (a := x1) (b := x4) ok111 ok110).mpr q)) h
    refine lv_aload_n hx hb d_12_3_65 rfl (lv_at hl 0 rfl) ?_
    refine m_gr (j := 242) (C := "Ballothall$Wards") (T := TX10) (N := 5) (ci := 10) (k := 4) hx hb hts iX10 hown hG hP (yi_219 hL) (yt_219 hL) rfl (by decide) w_363 (fun _ h9 => h9) rfl rfl (yr_219_4 hL) d_12_3_66 ?_
    refine lv_iload hx hb d_12_3_69 (lv_at hl 4 rfl) ?_
    refine lv_aload_n hx hb d_12_3_71 rfl (lv_at hl 0 rfl) ?_
    refine lv_iload_n hx hb d_12_3_72 rfl (lv_at hl 3 rfl) ?_
    refine lv_iload_n hx hb d_12_3_73 rfl (lv_at hl 1 rfl) ?_
    refine lv_iload hx hb d_12_3_74 (lv_at hl 4 rfl) ?_
    refine lv_isub hx hb d_12_3_76 ?_
    refine nrm (oI_sub _ _) ?_
    refine lv_iload_n hx hb d_12_3_77 rfl (lv_at hl 2 rfl) ?_
    obtain ⟨r112, g112, h⟩ := bd_e h
    refine kV (As := [.int (oI x3), .int (oI (x1 - x4)), .int (oI x2)]) (rest := [.int (oI x4), .ref (ad 242)]) (s_Wa_firstEnd l z ad E M x3 (x1 - x4) x2 r112 hL g112) hx hb hml hown hts w_1636 w_1633 w_1635 w_s_2e2987 w_10 md_f62da8 ⟨Nat.le_of_ble_eq_true rfl, Nat.le_of_ble_eq_true rfl⟩ hG hZ hP hD hS hA 219 (wv_o (ci := 10) (yi_219 hL) (yt_219 hL)) rfl rfl rfl hl.1 rfl (Nat.le_of_ble_eq_true rfl) d_12_3_78 ⟨Nat.le_of_ble_eq_true rfl, Nat.le_of_ble_eq_true rfl⟩ (fun _ H locs hP hD hS => ?_)
    have hP : va_P z.1 classes (wv z ad E M) H := hP
    have hD : va_D A (wv z ad E M) := hD
    refine W.eq (g2 := F0 m 81 ls [.int (oI r112), .int (oI x4), .ref (ad 242)]) rfl ?_
    obtain ⟨ok113, h⟩ := ck_e h
    refine m_is hx hb hG hP hD hS (yi_242 hL) (yt_242 hL) ok113 d_12_3_81 (fun H locs hP hD hS => ?_)
    have hP : va_P z.1 classes (wv z ad E (u2 M 242 x4.toNat r112)) H := hP
    have hD : va_D A (wv z ad E (u2 M 242 x4.toNat r112)) := hD
    refine lv_aload_n hx hb d_12_3_82 rfl (lv_at hl 0 rfl) ?_
    refine m_gr (j := 242) (C := "Ballothall$Wards") (T := TX10) (N := 5) (ci := 10) (k := 4) hx hb hts iX10 hown hG hP (yi_219 hL) (yt_219 hL) rfl (by decide) w_363 (fun _ h9 => h9) rfl rfl (yr_219_4 hL) d_12_3_83 ?_
    refine lv_iload hx hb d_12_3_86 (lv_at hl 4 rfl) ?_
    refine m_ia hx hb hG hP (yi_242 hL) (yt_242 hL) ok113 d_12_3_88 ?_
    refine lv_iconst (v := oI 1) hx hb d_12_3_89 (by decide +kernel) ?_
    refine lv_iadd hx hb d_12_3_90 ?_
    refine nrm (oI_add _ _) ?_
    obtain ⟨v114, e114, h⟩ := nb_e h
    refine nrm (congrArg oI e114.symm) ?_
    refine lv_istore_n (lv' := [(3, .int (oI v114)), (0, .ref (ad 219)), (1, .int (oI x1)), (2, .int (oI x2)), (4, .int (oI x4))]) hx hb d_12_3_91 rfl hl (by decide) rfl (fun ls hl => ?_)
    refine lv_iinc (v := oI (x4 + 1)) (lv' := [(4, .int (oI (x4 + 1))), (3, .int (oI v114)), (0, .ref (ad 219)), (1, .int (oI x1)), (2, .int (oI x2))]) hx hb d_12_3_92 hl (k := 4) rfl (oI_add x4 1) (by decide) rfl (fun ls hl => ?_)
    refine lv_goto (tgt := 59) hx hb d_12_3_95 (by decide) ?_
    obtain ⟨rfl, rfl, rfl, rfl⟩ := in4 h
    exact k0 rfl H locs ls hP hD hS (lv_sub hl [2, 3, 4, 1, 0] rfl)
set_option maxRecDepth 100000 in
set_option maxHeartbeats 4000000 in
theorem s_Wa_divide_59 (l : Launch) (z : Zz) (ad : Nat → Nat) (E : Ev) (x1 : Int) (x2 : Int) {Q : State → Prop} {p : Program} {e : Env} {s : State} {m : MethodId} {below : List Frame} {meth : Method} {c : Code} {A : Nat → Prop} {args : Array Value} (hx : p.tables.exec = Jvm.exec) (hb : c.code = prog_12_method_3_code) (hml : c.maxLocals = 5) (hts : ∀ w ∈ WG, w.before args s = true) (hown : s.vm.findClass "Ballothall$Wards" = some m.cls) (hlocks : meth.locks = false) (hA : ∀ q, s.heap.size ≤ q → A q) (hG : KG z s) (hZ : FZ z A s) (hL : Lay E) : ∀ (fu : Nat) (M : Mm) (x3 : Int) (x4 : Int) (t : Nat) (w3 : Int) (w4 : Int) (N : Mm), l_Wa_divide_59 E x1 x2 fu M x3 x4 = some (t, w3, w4, N) → (t = 1 → ∀ (H : Heap) (locs : List Loc) (ls : Array Slot), va_P z.1 classes (wv z ad E N) H → va_D A (wv z ad E N) → va_S A s.heap H locs → lv_has ls 5 [(2, .int (oI x2))] → W p l e (rmK 2 67 0 0) s m args below meth c H locs 0 0 Q (F0 m 98 ls [])) → ∀ (H : Heap) (locs : List Loc) (ls : Array Slot), va_P z.1 classes (wv z ad E M) H → va_D A (wv z ad E M) → va_S A s.heap H locs → lv_has ls 5 [(0, .ref (ad 219)), (1, .int (oI x1)), (2, .int (oI x2)), (3, .int (oI x3)), (4, .int (oI x4))] → W p l e (rmK 2 67 0 0) s m args below meth c H locs 0 0 Q (F0 m 59 ls []) := by
  intro fu
  induction fu with
  | zero =>
    intro M x3 x4 t w3 w4 N h
    have h : (none : Option (Nat × Int × Int × Mm)) = some _ := h
    cases h
  | succ fu ih =>
    intro M x3 x4 t w3 w4 N h k1 H locs ls hP hD hS hl
    obtain ⟨⟨t0, w30, w40, N9⟩, g0, h⟩ := bd_e h
    refine b_Wa_divide_59b l z ad E M x1 x2 x3 x4 t0 w30 w40 N9 hx hb hml hts hown hlocks hA hG hZ hL g0 (fun e0 => ?_) (fun e0 => ?_) H locs ls hP hD hS hl
    · subst e0
      have h := ite_t rfl h
      exact ih N9 w30 w40 t w3 w4 N h k1
    · subst e0
      have h := ite_f (by decide) h
      obtain ⟨rfl, rfl, rfl, rfl⟩ := in4 h
      exact k1 rfl
set_option maxRecDepth 100000 in
set_option maxHeartbeats 4000000 in
theorem s_Wa_divide (l : Launch) (z : Zz) (ad : Nat → Nat) (E : Ev) (M : Mm) (x1 : Int) (r : Int) (N : Mm) (hL : Lay E) (h : f_Wa_divide E M x1 = some (r, N)) : CT l z ⟨"Ballothall$Wards", "divide", "(I)I"⟩ prog_12_method_3_code 5 (some .int) [.ref (ad 219), .int (oI x1)] (wv z ad E M) 2 67 0 0 (fun _ => some (.int (oI r))) (fun _ => (wv z ad E N)) := by
  refine CT.of (own := "Ballothall$Wards") (by decide +kernel) (Nat.le_of_ble_eq_true rfl) rfl (fun p e s m below meth c A ls hx hb hml hr hts hown hlocks hin hA hG hZ hP hD hS hl => ?_)
  have hl : lv_has ls 5 [(0, .ref (ad 219)), (1, .int (oI x1))] := hl
  have key : ∀ (H : Heap) (locs : List Loc) (args : Array Value), (∀ w ∈ WG, w.before args s = true) → va_P z.1 classes (wv z ad E M) H → va_S A s.heap H locs → W p l e (rmK 2 67 0 0) s m args below meth c H locs 0 0 (MQ below (QK z A (fun _ => some (.int (oI r))) (fun _ => (wv z ad E N))) args s 0 0 A) (F0 m 0 ls []) := by
    intro H locs args hts hP hS
    unfold f_Wa_divide at h
    refine lv_iconst (v := oI 1) hx hb d_12_3_0 (by decide +kernel) ?_
    refine lv_istore_n (lv' := [(2, .int (oI 1)), (0, .ref (ad 219)), (1, .int (oI x1))]) hx hb d_12_3_1 rfl hl (by decide) rfl (fun ls hl => ?_)
    obtain ⟨⟨t108, v108_2, M108⟩, g108, h⟩ := bd_e h
    obtain ⟨ok108, h⟩ := ck_e h
    refine s_Wa_divide_2 l z ad E x1 hx hb hml hts hown hlocks hA hG hZ hL FU M 1 t108 v108_2 M108 g108 (fun e108 H locs ls hP hD hS hl => ?_) H locs ls hP hD hS (lv_sub hl [1, 2, 0] rfl)
    refine lv_aload_n hx hb d_12_3_45 rfl (lv_at hl 0 rfl) ?_
    refine m_gr (j := 224) (C := "Ballothall$Wards") (T := TX10) (N := 5) (ci := 10) (k := 3) hx hb hts iX10 hown hG hP (yi_219 hL) (yt_219 hL) rfl (by decide) w_362 (fun _ h9 => h9) rfl rfl (yr_219_3 hL) d_12_3_46 ?_
    refine lv_iload_n hx hb d_12_3_49 rfl (lv_at hl 1 rfl) ?_
    obtain ⟨ok109, h⟩ := ck_e h
    refine m_ar (k := (225 + x1.toNat)) hx hb hG hP (yi_224 hL) (yt_224 hL) ok109 (ya_224 hL (inb_lt ok109)) d_12_3_50 ?_
    refine lv_iconst (v := oI 0) hx hb d_12_3_51 (by decide +kernel) ?_
    refine m_ia hx hb hG hP (yg_224 hL ok109).1 (yg_224 hL ok109).2 (by decide +kernel) d_12_3_52 ?_
    refine nrm (x1 := oI (M108 (225 + x1.toNat) 0)) rfl ?_
    refine lv_istore_n (lv' := [(2, .int (oI (M108 (225 + x1.toNat) 0))), (0, .ref (ad 219)), (1, .int (oI x1))]) hx hb d_12_3_53 rfl hl (by decide) rfl (fun ls hl => ?_)
    refine lv_iconst (v := oI 0) hx hb d_12_3_54 (by decide +kernel) ?_
    refine lv_istore_n (lv' := [(3, .int (oI 0)), (2, .int (oI (M108 (225 + x1.toNat) 0))), (0, .ref (ad 219)), (1, .int (oI x1))]) hx hb d_12_3_55 rfl hl (by decide) rfl (fun ls hl => ?_)
    refine lv_iconst (v := oI 0) hx hb d_12_3_56 (by decide +kernel) ?_
    refine lv_istore (lv' := [(4, .int (oI 0)), (3, .int (oI 0)), (2, .int (oI (M108 (225 + x1.toNat) 0))), (0, .ref (ad 219)), (1, .int (oI x1))]) hx hb d_12_3_57 hl (by decide) rfl (fun ls hl => ?_)
    obtain ⟨⟨t115, v115_3, v115_4, M115⟩, g115, h⟩ := bd_e h
    obtain ⟨ok115, h⟩ := ck_e h
    refine s_Wa_divide_59 l z ad E x1 (M108 (225 + x1.toNat) 0) hx hb hml hts hown hlocks hA hG hZ hL FU M108 0 0 t115 v115_3 v115_4 M115 g115 (fun e115 H locs ls hP hD hS hl => ?_) H locs ls hP hD hS (lv_sub hl [3, 4, 2, 1, 0] rfl)
    refine lv_iload_n hx hb d_12_3_98 rfl (lv_at hl 0 rfl) ?_
    obtain ⟨rfl, rfl⟩ := in2 h
    exact W.iret hx hb hr (fun t ht hW => qkA hP hD hS (fun k => k) rfl rfl ht) hS.2.2 d_12_3_99
  exact key _ _ _ hts hP hS
set_option maxRecDepth 100000 in
set_option maxHeartbeats 4000000 in
theorem s_B_greatestDistrict (l : Launch) (z : Zz) (ad : Nat → Nat) (E : Ev) (M : Mm) (x1 : Int) (r : Int) (N : Mm) (hL : Lay E) (h : f_B_greatestDistrict E M x1 = some (r, N)) : CT l z ⟨"Ballothall", "greatestDistrict", "(I)I"⟩ prog_1_method_42_code 2 (some .int) [.ref (ad 1), .int (oI x1)] (wv z ad E M) 3 91 0 0 (fun _ => some (.int (oI r))) (fun _ => (wv z ad E N)) := by
  refine CT.of (own := "Ballothall") (by decide +kernel) (Nat.le_of_ble_eq_true rfl) rfl (fun p e s m below meth c A ls hx hb hml hr hts hown hlocks hin hA hG hZ hP hD hS hl => ?_)
  have hl : lv_has ls 2 [(0, .ref (ad 1)), (1, .int (oI x1))] := hl
  have key : ∀ (H : Heap) (locs : List Loc) (args : Array Value), (∀ w ∈ WG, w.before args s = true) → va_P z.1 classes (wv z ad E M) H → va_S A s.heap H locs → W p l e (rmK 3 91 0 0) s m args below meth c H locs 0 0 (MQ below (QK z A (fun _ => some (.int (oI r))) (fun _ => (wv z ad E N))) args s 0 0 A) (F0 m 0 ls []) := by
    intro H locs args hts hP hS
    unfold f_B_greatestDistrict at h
    refine lv_iload_n hx hb d_1_42_0 rfl (lv_at hl 1 rfl) ?_
    refine lv_iconst (v := oI 1) hx hb d_1_42_1 (by decide +kernel) ?_
    refine lv_aload_n hx hb d_1_42_2 rfl (lv_at hl 0 rfl) ?_
    refine m_gr (j := 219) (C := "Ballothall") (T := TX11) (N := 14) (ci := 11) (k := 5) hx hb hts iX11 hown hG hP (yi_1 hL) (yt_1 hL) rfl (by decide) w_402 (fun _ h9 => h9) rfl rfl (yr_1_5 hL) d_1_42_3 ?_
    refine m_giN (C := "Ballothall$Wards") (T := TX10) (N := 5) (ci := 10) (k := 0) hx hb hts iX10 hown hG hP (yi_219 hL) (yt_219 hL) rfl (by decide) n_359 rfl (fun _ h9 => h9) rfl rfl d_1_42_6 ?_
    obtain ⟨_, g100, h⟩ := bd_e h
    refine kS (As := [.int (oI x1), .int (oI 1), .int (oI (M 219 0))]) (rest := []) (s_B_needRange l z ad E M x1 1 (M 219 0) hL g100) hx hb hml hown hts w_548 w_546 w_547 w_1 md_519134 ⟨Nat.le_of_ble_eq_true rfl, Nat.le_of_ble_eq_true rfl⟩ hG hZ hP hD hS hA rfl hl.1 rfl (Nat.le_of_ble_eq_true rfl) d_1_42_9 ⟨Nat.le_of_ble_eq_true rfl, Nat.le_of_ble_eq_true rfl⟩ (fun _ H locs hP hD hS => ?_)
    have hP : va_P z.1 classes (wv z ad E M) H := hP
    have hD : va_D A (wv z ad E M) := hD
    refine W.eq (g2 := F0 m 12 ls []) rfl ?_
    refine lv_aload_n hx hb d_1_42_12 rfl (lv_at hl 0 rfl) ?_
    refine m_gr (j := 219) (C := "Ballothall") (T := TX11) (N := 14) (ci := 11) (k := 5) hx hb hts iX11 hown hG hP (yi_1 hL) (yt_1 hL) rfl (by decide) w_402 (fun _ h9 => h9) rfl rfl (yr_1_5 hL) d_1_42_13 ?_
    refine lv_iload_n hx hb d_1_42_16 rfl (lv_at hl 1 rfl) ?_
    obtain ⟨⟨r101, M101⟩, g101, h⟩ := bd_e h
    refine kVN (As := [.int (oI x1)]) (rest := []) (s_Wa_divide l z ad E M x1 r101 M101 hL g101) hx hb hml hown hts w_1621 n_1618 w_1620 w_s_af9e07 w_10 md_d7e64c ⟨Nat.le_of_ble_eq_true rfl, Nat.le_of_ble_eq_true rfl⟩ hG hZ hP hD hS hA 219 (wv_o (ci := 10) (yi_219 hL) (yt_219 hL)) rfl rfl rfl hl.1 rfl (Nat.le_of_ble_eq_true rfl) d_1_42_17 ⟨Nat.le_of_ble_eq_true rfl, Nat.le_of_ble_eq_true rfl⟩ (fun _ H locs hP hD hS => ?_)
    have hP : va_P z.1 classes (wv z ad E M101) H := hP
    have hD : va_D A (wv z ad E M101) := hD
    refine W.eq (g2 := F0 m 20 ls [.int (oI r101)]) rfl ?_
    obtain ⟨rfl, rfl⟩ := in2 h
    exact W.iret hx hb hr (fun t ht hW => qkA hP hD hS (fun k => k) rfl rfl ht) hS.2.2 d_1_42_20
  exact key _ _ _ hts hP hS
set_option maxRecDepth 100000 in
set_option maxHeartbeats 4000000 in
theorem s_B_districtEnd (l : Launch) (z : Zz) (ad : Nat → Nat) (E : Ev) (M : Mm) (x1 : Int) (x2 : Int) (r : Int) (N : Mm) (hL : Lay E) (h : f_B_districtEnd E M x1 x2 = some (r, N)) : CT l z ⟨"Ballothall", "districtEnd", "(II)I"⟩ prog_1_method_43_code 3 (some .int) [.ref (ad 1), .int (oI x1), .int (oI x2)] (wv z ad E M) 3 91 0 0 (fun _ => some (.int (oI r))) (fun _ => (wv z ad E N)) := by
  refine CT.of (own := "Ballothall") (by decide +kernel) (Nat.le_of_ble_eq_true rfl) rfl (fun p e s m below meth c A ls hx hb hml hr hts hown hlocks hin hA hG hZ hP hD hS hl => ?_)
  have hl : lv_has ls 3 [(0, .ref (ad 1)), (1, .int (oI x1)), (2, .int (oI x2))] := hl
  have key : ∀ (H : Heap) (locs : List Loc) (args : Array Value), (∀ w ∈ WG, w.before args s = true) → va_P z.1 classes (wv z ad E M) H → va_S A s.heap H locs → W p l e (rmK 3 91 0 0) s m args below meth c H locs 0 0 (MQ below (QK z A (fun _ => some (.int (oI r))) (fun _ => (wv z ad E N))) args s 0 0 A) (F0 m 0 ls []) := by
    intro H locs args hts hP hS
    unfold f_B_districtEnd at h
    refine lv_iload_n hx hb d_1_43_0 rfl (lv_at hl 1 rfl) ?_
    refine lv_iconst (v := oI 1) hx hb d_1_43_1 (by decide +kernel) ?_
    refine lv_aload_n hx hb d_1_43_2 rfl (lv_at hl 0 rfl) ?_
    refine m_gr (j := 219) (C := "Ballothall") (T := TX11) (N := 14) (ci := 11) (k := 5) hx hb hts iX11 hown hG hP (yi_1 hL) (yt_1 hL) rfl (by decide) w_402 (fun _ h9 => h9) rfl rfl (yr_1_5 hL) d_1_43_3 ?_
    refine m_giN (C := "Ballothall$Wards") (T := TX10) (N := 5) (ci := 10) (k := 0) hx hb hts iX10 hown hG hP (yi_219 hL) (yt_219 hL) rfl (by decide) n_359 rfl (fun _ h9 => h9) rfl rfl d_1_43_6 ?_
    obtain ⟨_, g100, h⟩ := bd_e h
    refine kS (As := [.int (oI x1), .int (oI 1), .int (oI (M 219 0))]) (rest := []) (s_B_needRange l z ad E M x1 1 (M 219 0) hL g100) hx hb hml hown hts w_548 w_546 w_547 w_1 md_519134 ⟨Nat.le_of_ble_eq_true rfl, Nat.le_of_ble_eq_true rfl⟩ hG hZ hP hD hS hA rfl hl.1 rfl (Nat.le_of_ble_eq_true rfl) d_1_43_9 ⟨Nat.le_of_ble_eq_true rfl, Nat.le_of_ble_eq_true rfl⟩ (fun _ H locs hP hD hS => ?_)
    have hP : va_P z.1 classes (wv z ad E M) H := hP
    have hD : va_D A (wv z ad E M) := hD
    refine W.eq (g2 := F0 m 12 ls []) rfl ?_
    refine lv_iload_n hx hb d_1_43_12 rfl (lv_at hl 2 rfl) ?_
    refine lv_iload_n hx hb d_1_43_13 rfl (lv_at hl 1 rfl) ?_
    obtain ⟨_, g101, h⟩ := bd_e h
    refine kS (As := [.int (oI x2), .int (oI x1)]) (rest := []) (s_B_needPlace l z ad E M x2 x1 hL g101) hx hb hml hown hts w_1343 w_1341 w_1342 w_1 md_541664 ⟨Nat.le_of_ble_eq_true rfl, Nat.le_of_ble_eq_true rfl⟩ hG hZ hP hD hS hA rfl hl.1 rfl (Nat.le_of_ble_eq_true rfl) d_1_43_14 ⟨Nat.le_of_ble_eq_true rfl, Nat.le_of_ble_eq_true rfl⟩ (fun _ H locs hP hD hS => ?_)
    have hP : va_P z.1 classes (wv z ad E M) H := hP
    have hD : va_D A (wv z ad E M) := hD
    refine W.eq (g2 := F0 m 17 ls []) rfl ?_
    refine lv_aload_n hx hb d_1_43_17 rfl (lv_at hl 0 rfl) ?_
    refine m_gr (j := 219) (C := "Ballothall") (T := TX11) (N := 14) (ci := 11) (k := 5) hx hb hts iX11 hown hG hP (yi_1 hL) (yt_1 hL) rfl (by decide) w_402 (fun _ h9 => h9) rfl rfl (yr_1_5 hL) d_1_43_18 ?_
    refine lv_iload_n hx hb d_1_43_21 rfl (lv_at hl 1 rfl) ?_
    obtain ⟨⟨r102, M102⟩, g102, h⟩ := bd_e h
    refine kVN (As := [.int (oI x1)]) (rest := []) (s_Wa_divide l z ad E M x1 r102 M102 hL g102) hx hb hml hown hts w_1621 n_1618 w_1620 w_s_af9e07 w_10 md_d7e64c ⟨Nat.le_of_ble_eq_true rfl, Nat.le_of_ble_eq_true rfl⟩ hG hZ hP hD hS hA 219 (wv_o (ci := 10) (yi_219 hL) (yt_219 hL)) rfl rfl rfl hl.1 rfl (Nat.le_of_ble_eq_true rfl) d_1_43_22 ⟨Nat.le_of_ble_eq_true rfl, Nat.le_of_ble_eq_true rfl⟩ (fun _ H locs hP hD hS => ?_)
    have hP : va_P z.1 classes (wv z ad E M102) H := hP
    have hD : va_D A (wv z ad E M102) := hD
    refine W.eq (g2 := F0 m 25 ls [.int (oI r102)]) rfl ?_
    refine lv_pop hx hb d_1_43_25 rfl ?_
    refine lv_aload_n hx hb d_1_43_26 rfl (lv_at hl 0 rfl) ?_
    refine m_gr (j := 219) (C := "Ballothall") (T := TX11) (N := 14) (ci := 11) (k := 5) hx hb hts iX11 hown hG hP (yi_1 hL) (yt_1 hL) rfl (by decide) w_402 (fun _ h9 => h9) rfl rfl (yr_1_5 hL) d_1_43_27 ?_
    refine m_grN (j := 242) (C := "Ballothall$Wards") (T := TX10) (N := 5) (ci := 10) (k := 4) hx hb hts iX10 hown hG hP (yi_219 hL) (yt_219 hL) rfl (by decide) n_364 rfl (fun _ h9 => h9) rfl rfl (yr_219_4 hL) d_1_43_30 ?_
    refine lv_iload_n hx hb d_1_43_33 rfl (lv_at hl 2 rfl) ?_
    obtain ⟨ok103, h⟩ := ck_e h
    refine m_ia hx hb hG hP (yi_242 hL) (yt_242 hL) ok103 d_1_43_34 ?_
    obtain ⟨rfl, rfl⟩ := in2 h
    exact W.iret hx hb hr (fun t ht hW => qkA hP hD hS (fun k => k) rfl rfl ht) hS.2.2 d_1_43_35
  exact key _ _ _ hts hP hS
set_option maxRecDepth 100000 in
set_option maxHeartbeats 4000000 in
theorem b_Wa_votesIn_22b (l : Launch) (z : Zz) (ad : Nat → Nat) (E : Ev) (M : Mm) (x1 : Int) (x2 : Int) (x3 : Int) (x4 : Int) (t : Nat) (w3 : Int) (w4 : Int)  {Q : State → Prop} {p : Program} {e : Env} {s : State} {m : MethodId} {below : List Frame} {meth : Method} {c : Code} {A : Nat → Prop} {args : Array Value} (hx : p.tables.exec = Jvm.exec) (hb : c.code = prog_12_method_7_code) (hml : c.maxLocals = 5) (hts : ∀ w ∈ WG, w.before args s = true) (hown : s.vm.findClass "Ballothall$Wards" = some m.cls) (hlocks : meth.locks = false) (hA : ∀ q, s.heap.size ≤ q → A q) (hG : KG z s) (hZ : FZ z A s) (hL : Lay E) (h : Wa_votesIn_22b E M x1 x2 x3 x4 = some (t, w3, w4)) (k0 : t = 0 → ∀ (H : Heap) (locs : List Loc) (ls : Array Slot), va_P z.1 classes (wv z ad E M) H → va_D A (wv z ad E M) → va_S A s.heap H locs → lv_has ls 5 [(0, .ref (ad 219)), (1, .int (oI x1)), (2, .int (oI x2)), (3, .int (oI w3)), (4, .int (oI w4))] → W p l e (rmK 0 20 0 0) s m args below meth c H locs 0 0 Q (F0 m 22 ls [])) (k1 : t = 1 → ∀ (H : Heap) (locs : List Loc) (ls : Array Slot), va_P z.1 classes (wv z ad E M) H → va_D A (wv z ad E M) → va_S A s.heap H locs → lv_has ls 5 [(3, .int (oI w3))] → W p l e (rmK 0 20 0 0) s m args below meth c H locs 0 0 Q (F0 m 51 ls [])) : ∀ (H : Heap) (locs : List Loc) (ls : Array Slot), va_P z.1 classes (wv z ad E M) H → va_D A (wv z ad E M) → va_S A s.heap H locs → lv_has ls 5 [(0, .ref (ad 219)), (1, .int (oI x1)), (2, .int (oI x2)), (3, .int (oI x3)), (4, .int (oI x4))] → W p l e (rmK 0 20 0 0) s m args below meth c H locs 0 0 Q (F0 m 22 ls []) := by
  intro H locs ls hP hD hS hl
  unfold Wa_votesIn_22b at h
  refine lv_iload hx hb d_12_7_22 (lv_at hl 4 rfl) ?_
  refine lv_aload_n hx hb d_12_7_24 rfl (lv_at hl 0 rfl) ?_
  refine m_gr (j := 242) (C := "Ballothall$Wards") (T := TX10) (N := 5) (ci := 10) (k := 4) hx hb hts iX10 hown hG hP (yi_219 hL) (yt_219 hL) rfl (by decide) w_363 (fun _ h9 => h9) rfl rfl (yr_219_4 hL) d_12_7_25 ?_
  refine lv_iload_n hx hb d_12_7_28 rfl (lv_at hl 1 rfl) ?_
  obtain ⟨ok102, h⟩ := ck_e h
  refine m_ia hx hb hG hP (yi_242 hL) (yt_242 hL) ok102 d_12_7_29 ?_
  obtain ⟨ok103, h⟩ := ck_e h
  obtain ⟨ok104, h⟩ := ck_e h
  refine lv_icmp_gt (tgt := 51) hx hb d_12_7_30 (by decide) (fun c9 => ?_) (fun c9 => ?_)
  · have h := ite_t ((oI_lt (a := (M 242 x1.toNat)) (b := x4) ok104 ok103).mp c9) h
    obtain ⟨rfl, rfl, rfl⟩ := in3 h
    exact k1 rfl H locs ls hP hD hS (lv_sub hl [3] rfl)
  · have h := ite_f (fun q => c9 ((oI_lt (a := (M 242 x1.toNat)) (b := x4) ok104 ok103).mpr q)) h
    refine lv_iload_n hx hb d_12_7_33 rfl (lv_at hl 3 rfl) ?_
    refine lv_aload_n hx hb d_12_7_34 rfl (lv_at hl 0 rfl) ?_
    refine m_gr (j := 221) (C := "Ballothall$Wards") (T := TX10) (N := 5) (ci := 10) (k := 2) hx hb hts iX10 hown hG hP (yi_219 hL) (yt_219 hL) rfl (by decide) w_361 (fun _ h9 => h9) rfl rfl (yr_219_2 hL) d_12_7_35 ?_
    refine lv_iload_n hx hb d_12_7_38 rfl (lv_at hl 2 rfl) ?_
    obtain ⟨ok105, h⟩ := ck_e h
    refine m_ar (k := (222 + x2.toNat)) hx hb hG hP (yi_221 hL) (yt_221 hL) ok105 (ya_221 hL (inb_lt ok105)) d_12_7_39 ?_
    refine lv_iload hx hb d_12_7_40 (lv_at hl 4 rfl) ?_
    obtain ⟨ok106, h⟩ := ck_e h
    refine m_ia hx hb hG hP (yg_221 hL ok105).1 (yg_221 hL ok105).2 ok106 d_12_7_42 ?_
    refine lv_iadd hx hb d_12_7_43 ?_
    refine nrm (oI_add _ _) ?_
    obtain ⟨v107, e107, h⟩ := nb_e h
    refine nrm (congrArg oI e107.symm) ?_
    refine lv_istore_n (lv' := [(3, .int (oI v107)), (0, .ref (ad 219)), (1, .int (oI x1)), (2, .int (oI x2)), (4, .int (oI x4))]) hx hb d_12_7_44 rfl hl (by decide) rfl (fun ls hl => ?_)
    refine lv_iinc (v := oI (x4 + 1)) (lv' := [(4, .int (oI (x4 + 1))), (3, .int (oI v107)), (0, .ref (ad 219)), (1, .int (oI x1)), (2, .int (oI x2))]) hx hb d_12_7_45 hl (k := 4) rfl (oI_add x4 1) (by decide) rfl (fun ls hl => ?_)
    refine lv_goto (tgt := 22) hx hb d_12_7_48 (by decide) ?_
    obtain ⟨rfl, rfl, rfl⟩ := in3 h
    exact k0 rfl H locs ls hP hD hS (lv_sub hl [2, 3, 4, 1, 0] rfl)
set_option maxRecDepth 100000 in
set_option maxHeartbeats 4000000 in
theorem s_Wa_votesIn_22 (l : Launch) (z : Zz) (ad : Nat → Nat) (E : Ev) (x1 : Int) (x2 : Int) {Q : State → Prop} {p : Program} {e : Env} {s : State} {m : MethodId} {below : List Frame} {meth : Method} {c : Code} {A : Nat → Prop} {args : Array Value} (hx : p.tables.exec = Jvm.exec) (hb : c.code = prog_12_method_7_code) (hml : c.maxLocals = 5) (hts : ∀ w ∈ WG, w.before args s = true) (hown : s.vm.findClass "Ballothall$Wards" = some m.cls) (hlocks : meth.locks = false) (hA : ∀ q, s.heap.size ≤ q → A q) (hG : KG z s) (hZ : FZ z A s) (hL : Lay E) : ∀ (fu : Nat) (M : Mm) (x3 : Int) (x4 : Int) (t : Nat) (w3 : Int) (w4 : Int), l_Wa_votesIn_22 E x1 x2 fu M x3 x4 = some (t, w3, w4) → (t = 1 → ∀ (H : Heap) (locs : List Loc) (ls : Array Slot), va_P z.1 classes (wv z ad E M) H → va_D A (wv z ad E M) → va_S A s.heap H locs → lv_has ls 5 [(3, .int (oI w3))] → W p l e (rmK 0 20 0 0) s m args below meth c H locs 0 0 Q (F0 m 51 ls [])) → ∀ (H : Heap) (locs : List Loc) (ls : Array Slot), va_P z.1 classes (wv z ad E M) H → va_D A (wv z ad E M) → va_S A s.heap H locs → lv_has ls 5 [(0, .ref (ad 219)), (1, .int (oI x1)), (2, .int (oI x2)), (3, .int (oI x3)), (4, .int (oI x4))] → W p l e (rmK 0 20 0 0) s m args below meth c H locs 0 0 Q (F0 m 22 ls []) := by
  intro fu
  induction fu with
  | zero =>
    intro M x3 x4 t w3 w4 h
    have h : (none : Option (Nat × Int × Int)) = some _ := h
    cases h
  | succ fu ih =>
    intro M x3 x4 t w3 w4 h k1 H locs ls hP hD hS hl
    obtain ⟨⟨t0, w30, w40⟩, g0, h⟩ := bd_e h
    refine b_Wa_votesIn_22b l z ad E M x1 x2 x3 x4 t0 w30 w40 hx hb hml hts hown hlocks hA hG hZ hL g0 (fun e0 => ?_) (fun e0 => ?_) H locs ls hP hD hS hl
    · subst e0
      have h := ite_t rfl h
      exact ih M w30 w40 t w3 w4 h k1
    · subst e0
      have h := ite_f (by decide) h
      obtain ⟨rfl, rfl, rfl⟩ := in3 h
      exact k1 rfl
set_option maxRecDepth 100000 in
set_option maxHeartbeats 4000000 in
theorem s_Wa_votesIn (l : Launch) (z : Zz) (ad : Nat → Nat) (E : Ev) (M : Mm) (x1 : Int) (x2 : Int) (r : Int)  (hL : Lay E) (h : f_Wa_votesIn E M x1 x2 = some r) : CT l z ⟨"Ballothall$Wards", "votesIn", "(II)I"⟩ prog_12_method_7_code 5 (some .int) [.ref (ad 219), .int (oI x1), .int (oI x2)] (wv z ad E M) 0 20 0 0 (fun _ => some (.int (oI r))) (fun _ => (wv z ad E M)) := by
  refine CT.of (own := "Ballothall$Wards") (by decide +kernel) (Nat.le_of_ble_eq_true rfl) rfl (fun p e s m below meth c A ls hx hb hml hr hts hown hlocks hin hA hG hZ hP hD hS hl => ?_)
  have hl : lv_has ls 5 [(0, .ref (ad 219)), (1, .int (oI x1)), (2, .int (oI x2))] := hl
  have key : ∀ (H : Heap) (locs : List Loc) (args : Array Value), (∀ w ∈ WG, w.before args s = true) → va_P z.1 classes (wv z ad E M) H → va_S A s.heap H locs → W p l e (rmK 0 20 0 0) s m args below meth c H locs 0 0 (MQ below (QK z A (fun _ => some (.int (oI r))) (fun _ => (wv z ad E M))) args s 0 0 A) (F0 m 0 ls []) := by
    intro H locs args hts hP hS
    unfold f_Wa_votesIn at h
    refine lv_iconst (v := oI 0) hx hb d_12_7_0 (by decide +kernel) ?_
    refine lv_istore_n (lv' := [(3, .int (oI 0)), (0, .ref (ad 219)), (1, .int (oI x1)), (2, .int (oI x2))]) hx hb d_12_7_1 rfl hl (by decide) rfl (fun ls hl => ?_)
    refine lv_iload_n hx hb d_12_7_2 rfl (lv_at hl 2 rfl) ?_
    obtain ⟨ok100, h⟩ := ck_e h
    refine lv_if_ne (tgt := 10) hx hb d_12_7_3 (by decide) (fun c9 => ?_) (fun c9 => ?_)
    · have h := ite_f (fun q => c9 ((oI_eq0 ok100).mpr q)) h
      refine lv_aload_n hx hb d_12_7_10 rfl (lv_at hl 1 rfl) ?_
      refine m_gr (j := 242) (C := "Ballothall$Wards") (T := TX10) (N := 5) (ci := 10) (k := 4) hx hb hts iX10 hown hG hP (yi_219 hL) (yt_219 hL) rfl (by decide) w_363 (fun _ h9 => h9) rfl rfl (yr_219_4 hL) d_12_7_11 ?_
      refine lv_iload_n hx hb d_12_7_14 rfl (lv_at hl 2 rfl) ?_
      refine lv_iconst (v := oI 1) hx hb d_12_7_15 (by decide +kernel) ?_
      refine lv_isub hx hb d_12_7_16 ?_
      refine nrm (oI_sub _ _) ?_
      obtain ⟨ok101, h⟩ := ck_e h
      refine m_ia hx hb hG hP (yi_242 hL) (yt_242 hL) ok101 d_12_7_17 ?_
      refine lv_iconst (v := oI 1) hx hb d_12_7_18 (by decide +kernel) ?_
      refine lv_iadd hx hb d_12_7_19 ?_
      refine nrm (oI_add _ _) ?_
      refine lv_istore (lv' := [(4, .int (oI ((M 242 (x1 - 1).toNat) + 1))), (3, .int (oI 0)), (0, .ref (ad 219)), (1, .int (oI x1)), (2, .int (oI x2))]) hx hb d_12_7_20 hl (by decide) rfl (fun ls hl => ?_)
      obtain ⟨⟨t108, v108_3, v108_4⟩, g108, h⟩ := bd_e h
      obtain ⟨ok108, h⟩ := ck_e h
      refine s_Wa_votesIn_22 l z ad E x1 x2 hx hb hml hts hown hlocks hA hG hZ hL FU M 0 ((M 242 (x1 - 1).toNat) + 1) t108 v108_3 v108_4 g108 (fun e108 H locs ls hP hD hS hl => ?_) H locs ls hP hD hS (lv_sub hl [2, 3, 4, 1, 0] rfl)
      refine lv_iload_n hx hb d_12_7_51 rfl (lv_at hl 0 rfl) ?_
      obtain rfl := in1 h
      exact W.iret hx hb hr (fun t ht hW => qkA hP hD hS (fun k => k) rfl rfl ht) hS.2.2 d_12_7_52
    · have h := ite_t ((oI_eq0 ok100).mp c9) h
      refine lv_iconst (v := oI 0) hx hb d_12_7_6 (by decide +kernel) ?_
      refine lv_goto (tgt := 20) hx hb d_12_7_7 (by decide) ?_
      refine lv_istore (lv' := [(4, .int (oI 0)), (3, .int (oI 0)), (0, .ref (ad 219)), (1, .int (oI x1)), (2, .int (oI x2))]) hx hb d_12_7_20 hl (by decide) rfl (fun ls hl => ?_)
      obtain ⟨⟨t109, v109_3, v109_4⟩, g109, h⟩ := bd_e h
      obtain ⟨ok109, h⟩ := ck_e h
      refine s_Wa_votesIn_22 l z ad E x1 x2 hx hb hml hts hown hlocks hA hG hZ hL FU M 0 0 t109 v109_3 v109_4 g109 (fun e109 H locs ls hP hD hS hl => ?_) H locs ls hP hD hS (lv_sub hl [2, 3, 4, 1, 0] rfl)
      refine lv_iload_n hx hb d_12_7_51 rfl (lv_at hl 0 rfl) ?_
      obtain rfl := in1 h
      exact W.iret hx hb hr (fun t ht hW => qkA hP hD hS (fun k => k) rfl rfl ht) hS.2.2 d_12_7_52
  exact key _ _ _ hts hP hS
set_option maxRecDepth 100000 in
set_option maxHeartbeats 4000000 in
theorem b_B_districtsWon_32b (l : Launch) (z : Zz) (ad : Nat → Nat) (E : Ev) (M : Mm) (x1 : Int) (x2 : Int) (x3 : Int) (x4 : Int) (t : Nat) (w3 : Int) (w4 : Int) (N : Mm) {Q : State → Prop} {p : Program} {e : Env} {s : State} {m : MethodId} {below : List Frame} {meth : Method} {c : Code} {A : Nat → Prop} {args : Array Value} (hx : p.tables.exec = Jvm.exec) (hb : c.code = prog_1_method_44_code) (hml : c.maxLocals = 5) (hts : ∀ w ∈ WG, w.before args s = true) (hown : s.vm.findClass "Ballothall" = some m.cls) (hlocks : meth.locks = false) (hA : ∀ q, s.heap.size ≤ q → A q) (hG : KG z s) (hZ : FZ z A s) (hL : Lay E) (h : B_districtsWon_32b E M x1 x2 x3 x4 = some (t, w3, w4, N)) (k0 : t = 0 → ∀ (H : Heap) (locs : List Loc) (ls : Array Slot), va_P z.1 classes (wv z ad E N) H → va_D A (wv z ad E N) → va_S A s.heap H locs → lv_has ls 5 [(0, .ref (ad 1)), (1, .int (oI x1)), (2, .int (oI x2)), (3, .int (oI w3)), (4, .int (oI w4))] → W p l e (rmK 3 91 0 0) s m args below meth c H locs 0 0 Q (F0 m 32 ls [])) (k1 : t = 1 → ∀ (H : Heap) (locs : List Loc) (ls : Array Slot), va_P z.1 classes (wv z ad E N) H → va_D A (wv z ad E N) → va_S A s.heap H locs → lv_has ls 5 [(3, .int (oI w3))] → W p l e (rmK 3 91 0 0) s m args below meth c H locs 0 0 Q (F0 m 72 ls [])) : ∀ (H : Heap) (locs : List Loc) (ls : Array Slot), va_P z.1 classes (wv z ad E M) H → va_D A (wv z ad E M) → va_S A s.heap H locs → lv_has ls 5 [(0, .ref (ad 1)), (1, .int (oI x1)), (2, .int (oI x2)), (3, .int (oI x3)), (4, .int (oI x4))] → W p l e (rmK 3 91 0 0) s m args below meth c H locs 0 0 Q (F0 m 32 ls []) := by
  intro H locs ls hP hD hS hl
  unfold B_districtsWon_32b at h
  refine lv_iload hx hb d_1_44_32 (lv_at hl 4 rfl) ?_
  refine lv_iload_n hx hb d_1_44_34 rfl (lv_at hl 1 rfl) ?_
  obtain ⟨ok103, h⟩ := ck_e h
  obtain ⟨ok104, h⟩ := ck_e h
  refine lv_icmp_ge (tgt := 72) hx hb d_1_44_35 (by decide) (fun c9 => ?_) (fun c9 => ?_)
  · have h := ite_t ((oI_le (a := x1) (b := x4) ok104 ok103).mp c9) h
    obtain ⟨rfl, rfl, rfl, rfl⟩ := in4 h
    exact k1 rfl H locs ls hP hD hS (lv_sub hl [3] rfl)
  · have h := ite_f (fun q => c9 ((oI_le (a := x1) (b := x4) ok104 ok103).mpr q)) h
    refine lv_aload_n hx hb d_1_44_38 rfl (lv_at hl 0 rfl) ?_
    refine m_gr (j := 219) (C := "Ballothall") (T := TX11) (N := 14) (ci := 11) (k := 5) hx hb hts iX11 hown hG hP (yi_1 hL) (yt_1 hL) rfl (by decide) w_402 (fun _ h9 => h9) rfl rfl (yr_1_5 hL) d_1_44_39 ?_
    refine lv_iload hx hb d_1_44_42 (lv_at hl 4 rfl) ?_
    refine lv_iload_n hx hb d_1_44_44 rfl (lv_at hl 2 rfl) ?_
    obtain ⟨r105, g105, h⟩ := bd_e h
    refine kVN (As := [.int (oI x4), .int (oI x2)]) (rest := []) (s_Wa_votesIn l z ad E M x4 x2 r105 hL g105) hx hb hml hown hts w_1648 n_1645 w_1647 w_s_a85b93 w_10 md_2866d7 ⟨Nat.le_of_ble_eq_true rfl, Nat.le_of_ble_eq_true rfl⟩ hG hZ hP hD hS hA 219 (wv_o (ci := 10) (yi_219 hL) (yt_219 hL)) rfl rfl rfl hl.1 rfl (Nat.le_of_ble_eq_true rfl) d_1_44_45 ⟨Nat.le_of_ble_eq_true rfl, Nat.le_of_ble_eq_true rfl⟩ (fun _ H locs hP hD hS => ?_)
    have hP : va_P z.1 classes (wv z ad E M) H := hP
    have hD : va_D A (wv z ad E M) := hD
    refine W.eq (g2 := F0 m 48 ls [.int (oI r105)]) rfl ?_
    refine lv_aload_n hx hb d_1_44_48 rfl (lv_at hl 0 rfl) ?_
    refine m_gr (j := 219) (C := "Ballothall") (T := TX11) (N := 14) (ci := 11) (k := 5) hx hb hts iX11 hown hG hP (yi_1 hL) (yt_1 hL) rfl (by decide) w_402 (fun _ h9 => h9) rfl rfl (yr_1_5 hL) d_1_44_49 ?_
    refine lv_iload hx hb d_1_44_52 (lv_at hl 4 rfl) ?_
    refine lv_iconst (v := oI 1) hx hb d_1_44_54 (by decide +kernel) ?_
    refine lv_iload_n hx hb d_1_44_55 rfl (lv_at hl 2 rfl) ?_
    refine lv_isub hx hb d_1_44_56 ?_
    refine nrm (oI_sub _ _) ?_
    obtain ⟨r106, g106, h⟩ := bd_e h
    refine kVN (As := [.int (oI x4), .int (oI (1 - x2))]) (rest := [.int (oI r105)]) (s_Wa_votesIn l z ad E M x4 (1 - x2) r106 hL g106) hx hb hml hown hts w_1648 n_1645 w_1647 w_s_a85b93 w_10 md_2866d7 ⟨Nat.le_of_ble_eq_true rfl, Nat.le_of_ble_eq_true rfl⟩ hG hZ hP hD hS hA 219 (wv_o (ci := 10) (yi_219 hL) (yt_219 hL)) rfl rfl rfl hl.1 rfl (Nat.le_of_ble_eq_true rfl) d_1_44_57 ⟨Nat.le_of_ble_eq_true rfl, Nat.le_of_ble_eq_true rfl⟩ (fun _ H locs hP hD hS => ?_)
    have hP : va_P z.1 classes (wv z ad E M) H := hP
    have hD : va_D A (wv z ad E M) := hD
    refine W.eq (g2 := F0 m 60 ls [.int (oI r106), .int (oI r105)]) rfl ?_
    obtain ⟨ok107, h⟩ := ck_e h
    obtain ⟨ok108, h⟩ := ck_e h
    refine lv_icmp_le (tgt := 66) hx hb d_1_44_60 (by decide) (fun c9 => ?_) (fun c9 => ?_)
    · have h := ite_t ((oI_le (a := r105) (b := r106) ok107 ok108).mp c9) h
      refine lv_iinc (v := oI (x4 + 1)) (lv' := [(4, .int (oI (x4 + 1))), (0, .ref (ad 1)), (1, .int (oI x1)), (2, .int (oI x2)), (3, .int (oI x3))]) hx hb d_1_44_66 hl (k := 4) rfl (oI_add x4 1) (by decide) rfl (fun ls hl => ?_)
      refine lv_goto (tgt := 32) hx hb d_1_44_69 (by decide) ?_
      obtain ⟨rfl, rfl, rfl, rfl⟩ := in4 h
      exact k0 rfl H locs ls hP hD hS (lv_sub hl [1, 2, 3, 4, 0] rfl)
    · have h := ite_f (fun q => c9 ((oI_le (a := r105) (b := r106) ok107 ok108).mpr q)) h
      refine lv_iinc (v := oI (x3 + 1)) (lv' := [(3, .int (oI (x3 + 1))), (0, .ref (ad 1)), (1, .int (oI x1)), (2, .int (oI x2)), (4, .int (oI x4))]) hx hb d_1_44_63 hl (k := 3) rfl (oI_add x3 1) (by decide) rfl (fun ls hl => ?_)
      refine lv_iinc (v := oI (x4 + 1)) (lv' := [(4, .int (oI (x4 + 1))), (3, .int (oI (x3 + 1))), (0, .ref (ad 1)), (1, .int (oI x1)), (2, .int (oI x2))]) hx hb d_1_44_66 hl (k := 4) rfl (oI_add x4 1) (by decide) rfl (fun ls hl => ?_)
      refine lv_goto (tgt := 32) hx hb d_1_44_69 (by decide) ?_
      obtain ⟨rfl, rfl, rfl, rfl⟩ := in4 h
      exact k0 rfl H locs ls hP hD hS (lv_sub hl [2, 3, 4, 1, 0] rfl)
set_option maxRecDepth 100000 in
set_option maxHeartbeats 4000000 in
theorem s_B_districtsWon_32 (l : Launch) (z : Zz) (ad : Nat → Nat) (E : Ev) (x1 : Int) (x2 : Int) {Q : State → Prop} {p : Program} {e : Env} {s : State} {m : MethodId} {below : List Frame} {meth : Method} {c : Code} {A : Nat → Prop} {args : Array Value} (hx : p.tables.exec = Jvm.exec) (hb : c.code = prog_1_method_44_code) (hml : c.maxLocals = 5) (hts : ∀ w ∈ WG, w.before args s = true) (hown : s.vm.findClass "Ballothall" = some m.cls) (hlocks : meth.locks = false) (hA : ∀ q, s.heap.size ≤ q → A q) (hG : KG z s) (hZ : FZ z A s) (hL : Lay E) : ∀ (fu : Nat) (M : Mm) (x3 : Int) (x4 : Int) (t : Nat) (w3 : Int) (w4 : Int) (N : Mm), l_B_districtsWon_32 E x1 x2 fu M x3 x4 = some (t, w3, w4, N) → (t = 1 → ∀ (H : Heap) (locs : List Loc) (ls : Array Slot), va_P z.1 classes (wv z ad E N) H → va_D A (wv z ad E N) → va_S A s.heap H locs → lv_has ls 5 [(3, .int (oI w3))] → W p l e (rmK 3 91 0 0) s m args below meth c H locs 0 0 Q (F0 m 72 ls [])) → ∀ (H : Heap) (locs : List Loc) (ls : Array Slot), va_P z.1 classes (wv z ad E M) H → va_D A (wv z ad E M) → va_S A s.heap H locs → lv_has ls 5 [(0, .ref (ad 1)), (1, .int (oI x1)), (2, .int (oI x2)), (3, .int (oI x3)), (4, .int (oI x4))] → W p l e (rmK 3 91 0 0) s m args below meth c H locs 0 0 Q (F0 m 32 ls []) := by
  intro fu
  induction fu with
  | zero =>
    intro M x3 x4 t w3 w4 N h
    have h : (none : Option (Nat × Int × Int × Mm)) = some _ := h
    cases h
  | succ fu ih =>
    intro M x3 x4 t w3 w4 N h k1 H locs ls hP hD hS hl
    obtain ⟨⟨t0, w30, w40, N9⟩, g0, h⟩ := bd_e h
    refine b_B_districtsWon_32b l z ad E M x1 x2 x3 x4 t0 w30 w40 N9 hx hb hml hts hown hlocks hA hG hZ hL g0 (fun e0 => ?_) (fun e0 => ?_) H locs ls hP hD hS hl
    · subst e0
      have h := ite_t rfl h
      exact ih N9 w30 w40 t w3 w4 N h k1
    · subst e0
      have h := ite_f (by decide) h
      obtain ⟨rfl, rfl, rfl, rfl⟩ := in4 h
      exact k1 rfl
set_option maxRecDepth 100000 in
set_option maxHeartbeats 4000000 in
theorem s_B_districtsWon (l : Launch) (z : Zz) (ad : Nat → Nat) (E : Ev) (M : Mm) (x1 : Int) (x2 : Int) (r : Int) (N : Mm) (hL : Lay E) (h : f_B_districtsWon E M x1 x2 = some (r, N)) : CT l z ⟨"Ballothall", "districtsWon", "(II)I"⟩ prog_1_method_44_code 5 (some .int) [.ref (ad 1), .int (oI x1), .int (oI x2)] (wv z ad E M) 3 91 0 0 (fun _ => some (.int (oI r))) (fun _ => (wv z ad E N)) := by
  refine CT.of (own := "Ballothall") (by decide +kernel) (Nat.le_of_ble_eq_true rfl) rfl (fun p e s m below meth c A ls hx hb hml hr hts hown hlocks hin hA hG hZ hP hD hS hl => ?_)
  have hl : lv_has ls 5 [(0, .ref (ad 1)), (1, .int (oI x1)), (2, .int (oI x2))] := hl
  have key : ∀ (H : Heap) (locs : List Loc) (args : Array Value), (∀ w ∈ WG, w.before args s = true) → va_P z.1 classes (wv z ad E M) H → va_S A s.heap H locs → W p l e (rmK 3 91 0 0) s m args below meth c H locs 0 0 (MQ below (QK z A (fun _ => some (.int (oI r))) (fun _ => (wv z ad E N))) args s 0 0 A) (F0 m 0 ls []) := by
    intro H locs args hts hP hS
    unfold f_B_districtsWon at h
    refine lv_iload_n hx hb d_1_44_0 rfl (lv_at hl 1 rfl) ?_
    refine lv_iconst (v := oI 1) hx hb d_1_44_1 (by decide +kernel) ?_
    refine lv_aload_n hx hb d_1_44_2 rfl (lv_at hl 0 rfl) ?_
    refine m_gr (j := 219) (C := "Ballothall") (T := TX11) (N := 14) (ci := 11) (k := 5) hx hb hts iX11 hown hG hP (yi_1 hL) (yt_1 hL) rfl (by decide) w_402 (fun _ h9 => h9) rfl rfl (yr_1_5 hL) d_1_44_3 ?_
    refine m_giN (C := "Ballothall$Wards") (T := TX10) (N := 5) (ci := 10) (k := 0) hx hb hts iX10 hown hG hP (yi_219 hL) (yt_219 hL) rfl (by decide) n_359 rfl (fun _ h9 => h9) rfl rfl d_1_44_6 ?_
    obtain ⟨_, g100, h⟩ := bd_e h
    refine kS (As := [.int (oI x1), .int (oI 1), .int (oI (M 219 0))]) (rest := []) (s_B_needRange l z ad E M x1 1 (M 219 0) hL g100) hx hb hml hown hts w_548 w_546 w_547 w_1 md_519134 ⟨Nat.le_of_ble_eq_true rfl, Nat.le_of_ble_eq_true rfl⟩ hG hZ hP hD hS hA rfl hl.1 rfl (Nat.le_of_ble_eq_true rfl) d_1_44_9 ⟨Nat.le_of_ble_eq_true rfl, Nat.le_of_ble_eq_true rfl⟩ (fun _ H locs hP hD hS => ?_)
    have hP : va_P z.1 classes (wv z ad E M) H := hP
    have hD : va_D A (wv z ad E M) := hD
    refine W.eq (g2 := F0 m 12 ls []) rfl ?_
    refine lv_iload_n hx hb d_1_44_12 rfl (lv_at hl 2 rfl) ?_
    refine lv_iconst (v := oI 0) hx hb d_1_44_13 (by decide +kernel) ?_
    refine lv_iconst (v := oI 1) hx hb d_1_44_14 (by decide +kernel) ?_
    obtain ⟨_, g101, h⟩ := bd_e h
    refine kS (As := [.int (oI x2), .int (oI 0), .int (oI 1)]) (rest := []) (s_B_needRange l z ad E M x2 0 1 hL g101) hx hb hml hown hts w_548 w_546 w_547 w_1 md_519134 ⟨Nat.le_of_ble_eq_true rfl, Nat.le_of_ble_eq_true rfl⟩ hG hZ hP hD hS hA rfl hl.1 rfl (Nat.le_of_ble_eq_true rfl) d_1_44_15 ⟨Nat.le_of_ble_eq_true rfl, Nat.le_of_ble_eq_true rfl⟩ (fun _ H locs hP hD hS => ?_)
    have hP : va_P z.1 classes (wv z ad E M) H := hP
    have hD : va_D A (wv z ad E M) := hD
    refine W.eq (g2 := F0 m 18 ls []) rfl ?_
    refine lv_aload_n hx hb d_1_44_18 rfl (lv_at hl 0 rfl) ?_
    refine m_gr (j := 219) (C := "Ballothall") (T := TX11) (N := 14) (ci := 11) (k := 5) hx hb hts iX11 hown hG hP (yi_1 hL) (yt_1 hL) rfl (by decide) w_402 (fun _ h9 => h9) rfl rfl (yr_1_5 hL) d_1_44_19 ?_
    refine lv_iload_n hx hb d_1_44_22 rfl (lv_at hl 1 rfl) ?_
    obtain ⟨⟨r102, M102⟩, g102, h⟩ := bd_e h
    refine kVN (As := [.int (oI x1)]) (rest := []) (s_Wa_divide l z ad E M x1 r102 M102 hL g102) hx hb hml hown hts w_1621 n_1618 w_1620 w_s_af9e07 w_10 md_d7e64c ⟨Nat.le_of_ble_eq_true rfl, Nat.le_of_ble_eq_true rfl⟩ hG hZ hP hD hS hA 219 (wv_o (ci := 10) (yi_219 hL) (yt_219 hL)) rfl rfl rfl hl.1 rfl (Nat.le_of_ble_eq_true rfl) d_1_44_23 ⟨Nat.le_of_ble_eq_true rfl, Nat.le_of_ble_eq_true rfl⟩ (fun _ H locs hP hD hS => ?_)
    have hP : va_P z.1 classes (wv z ad E M102) H := hP
    have hD : va_D A (wv z ad E M102) := hD
    refine W.eq (g2 := F0 m 26 ls [.int (oI r102)]) rfl ?_
    refine lv_pop hx hb d_1_44_26 rfl ?_
    refine lv_iconst (v := oI 0) hx hb d_1_44_27 (by decide +kernel) ?_
    refine lv_istore_n (lv' := [(3, .int (oI 0)), (0, .ref (ad 1)), (1, .int (oI x1)), (2, .int (oI x2))]) hx hb d_1_44_28 rfl hl (by decide) rfl (fun ls hl => ?_)
    refine lv_iconst (v := oI 0) hx hb d_1_44_29 (by decide +kernel) ?_
    refine lv_istore (lv' := [(4, .int (oI 0)), (3, .int (oI 0)), (0, .ref (ad 1)), (1, .int (oI x1)), (2, .int (oI x2))]) hx hb d_1_44_30 hl (by decide) rfl (fun ls hl => ?_)
    obtain ⟨⟨t109, v109_3, v109_4, M109⟩, g109, h⟩ := bd_e h
    obtain ⟨ok109, h⟩ := ck_e h
    refine s_B_districtsWon_32 l z ad E x1 x2 hx hb hml hts hown hlocks hA hG hZ hL FU M102 0 0 t109 v109_3 v109_4 M109 g109 (fun e109 H locs ls hP hD hS hl => ?_) H locs ls hP hD hS (lv_sub hl [2, 3, 4, 1, 0] rfl)
    refine lv_iload_n hx hb d_1_44_72 rfl (lv_at hl 0 rfl) ?_
    obtain ⟨rfl, rfl⟩ := in2 h
    exact W.iret hx hb hr (fun t ht hW => qkA hP hD hS (fun k => k) rfl rfl ht) hS.2.2 d_1_44_73
  exact key _ _ _ hts hP hS
set_option maxRecDepth 100000 in
set_option maxHeartbeats 4000000 in
theorem b_B_wasted_32b (l : Launch) (z : Zz) (ad : Nat → Nat) (E : Ev) (M : Mm) (x1 : Int) (x2 : Int) (x3 : Int) (x4 : Int) (t : Nat) (w3 : Int) (w4 : Int) (N : Mm) {Q : State → Prop} {p : Program} {e : Env} {s : State} {m : MethodId} {below : List Frame} {meth : Method} {c : Code} {A : Nat → Prop} {args : Array Value} (hx : p.tables.exec = Jvm.exec) (hb : c.code = prog_1_method_45_code) (hml : c.maxLocals = 7) (hts : ∀ w ∈ WG, w.before args s = true) (hown : s.vm.findClass "Ballothall" = some m.cls) (hlocks : meth.locks = false) (hA : ∀ q, s.heap.size ≤ q → A q) (hG : KG z s) (hZ : FZ z A s) (hL : Lay E) (h : B_wasted_32b E M x1 x2 x3 x4 = some (t, w3, w4, N)) (k0 : t = 0 → ∀ (H : Heap) (locs : List Loc) (ls : Array Slot), va_P z.1 classes (wv z ad E N) H → va_D A (wv z ad E N) → va_S A s.heap H locs → lv_has ls 7 [(0, .ref (ad 1)), (1, .int (oI x1)), (2, .int (oI x2)), (3, .int (oI w3)), (4, .int (oI w4))] → W p l e (rmK 3 91 0 0) s m args below meth c H locs 0 0 Q (F0 m 32 ls [])) (k1 : t = 1 → ∀ (H : Heap) (locs : List Loc) (ls : Array Slot), va_P z.1 classes (wv z ad E N) H → va_D A (wv z ad E N) → va_S A s.heap H locs → lv_has ls 7 [(3, .int (oI w3))] → W p l e (rmK 3 91 0 0) s m args below meth c H locs 0 0 Q (F0 m 97 ls [])) : ∀ (H : Heap) (locs : List Loc) (ls : Array Slot), va_P z.1 classes (wv z ad E M) H → va_D A (wv z ad E M) → va_S A s.heap H locs → lv_has ls 7 [(0, .ref (ad 1)), (1, .int (oI x1)), (2, .int (oI x2)), (3, .int (oI x3)), (4, .int (oI x4))] → W p l e (rmK 3 91 0 0) s m args below meth c H locs 0 0 Q (F0 m 32 ls []) := by
  intro H locs ls hP hD hS hl
  unfold B_wasted_32b at h
  refine lv_iload hx hb d_1_45_32 (lv_at hl 4 rfl) ?_
  refine lv_iload_n hx hb d_1_45_34 rfl (lv_at hl 1 rfl) ?_
  obtain ⟨ok103, h⟩ := ck_e h
  obtain ⟨ok104, h⟩ := ck_e h
  refine lv_icmp_ge (tgt := 97) hx hb d_1_45_35 (by decide) (fun c9 => ?_) (fun c9 => ?_)
  · have h := ite_t ((oI_le (a := x1) (b := x4) ok104 ok103).mp c9) h
    obtain ⟨rfl, rfl, rfl, rfl⟩ := in4 h
    exact k1 rfl H locs ls hP hD hS (lv_sub hl [3] rfl)
  · have h := ite_f (fun q => c9 ((oI_le (a := x1) (b := x4) ok104 ok103).mpr q)) h
    refine lv_aload_n hx hb d_1_45_38 rfl (lv_at hl 0 rfl) ?_
    refine m_gr (j := 219) (C := "Ballothall") (T := TX11) (N := 14) (ci := 11) (k := 5) hx hb hts iX11 hown hG hP (yi_1 hL) (yt_1 hL) rfl (by decide) w_402 (fun _ h9 => h9) rfl rfl (yr_1_5 hL) d_1_45_39 ?_
    refine lv_iload hx hb d_1_45_42 (lv_at hl 4 rfl) ?_
    refine lv_iload_n hx hb d_1_45_44 rfl (lv_at hl 2 rfl) ?_
    obtain ⟨r105, g105, h⟩ := bd_e h
    refine kVN (As := [.int (oI x4), .int (oI x2)]) (rest := []) (s_Wa_votesIn l z ad E M x4 x2 r105 hL g105) hx hb hml hown hts w_1648 n_1645 w_1647 w_s_a85b93 w_10 md_2866d7 ⟨Nat.le_of_ble_eq_true rfl, Nat.le_of_ble_eq_true rfl⟩ hG hZ hP hD hS hA 219 (wv_o (ci := 10) (yi_219 hL) (yt_219 hL)) rfl rfl rfl hl.1 rfl (Nat.le_of_ble_eq_true rfl) d_1_45_45 ⟨Nat.le_of_ble_eq_true rfl, Nat.le_of_ble_eq_true rfl⟩ (fun _ H locs hP hD hS => ?_)
    have hP : va_P z.1 classes (wv z ad E M) H := hP
    have hD : va_D A (wv z ad E M) := hD
    refine W.eq (g2 := F0 m 48 ls [.int (oI r105)]) rfl ?_
    refine lv_istore (lv' := [(5, .int (oI r105)), (0, .ref (ad 1)), (1, .int (oI x1)), (2, .int (oI x2)), (3, .int (oI x3)), (4, .int (oI x4))]) hx hb d_1_45_48 hl (by decide) rfl (fun ls hl => ?_)
    refine lv_aload_n hx hb d_1_45_50 rfl (lv_at hl 1 rfl) ?_
    refine m_gr (j := 219) (C := "Ballothall") (T := TX11) (N := 14) (ci := 11) (k := 5) hx hb hts iX11 hown hG hP (yi_1 hL) (yt_1 hL) rfl (by decide) w_402 (fun _ h9 => h9) rfl rfl (yr_1_5 hL) d_1_45_51 ?_
    refine lv_iload hx hb d_1_45_54 (lv_at hl 5 rfl) ?_
    refine lv_iconst (v := oI 1) hx hb d_1_45_56 (by decide +kernel) ?_
    refine lv_iload_n hx hb d_1_45_57 rfl (lv_at hl 3 rfl) ?_
    refine lv_isub hx hb d_1_45_58 ?_
    refine nrm (oI_sub _ _) ?_
    obtain ⟨r106, g106, h⟩ := bd_e h
    refine kVN (As := [.int (oI x4), .int (oI (1 - x2))]) (rest := []) (s_Wa_votesIn l z ad E M x4 (1 - x2) r106 hL g106) hx hb hml hown hts w_1648 n_1645 w_1647 w_s_a85b93 w_10 md_2866d7 ⟨Nat.le_of_ble_eq_true rfl, Nat.le_of_ble_eq_true rfl⟩ hG hZ hP hD hS hA 219 (wv_o (ci := 10) (yi_219 hL) (yt_219 hL)) rfl rfl rfl hl.1 rfl (Nat.le_of_ble_eq_true rfl) d_1_45_59 ⟨Nat.le_of_ble_eq_true rfl, Nat.le_of_ble_eq_true rfl⟩ (fun _ H locs hP hD hS => ?_)
    have hP : va_P z.1 classes (wv z ad E M) H := hP
    have hD : va_D A (wv z ad E M) := hD
    refine W.eq (g2 := F0 m 62 ls [.int (oI r106)]) rfl ?_
    refine lv_istore (lv' := [(6, .int (oI r106)), (5, .int (oI r105)), (0, .ref (ad 1)), (1, .int (oI x1)), (2, .int (oI x2)), (3, .int (oI x3)), (4, .int (oI x4))]) hx hb d_1_45_62 hl (by decide) rfl (fun ls hl => ?_)
    refine lv_iload_n hx hb d_1_45_64 rfl (lv_at hl 5 rfl) ?_
    refine lv_iload hx hb d_1_45_65 (lv_at hl 1 rfl) ?_
    refine lv_iload hx hb d_1_45_67 (lv_at hl 0 rfl) ?_
    obtain ⟨ok107, h⟩ := ck_e h
    obtain ⟨ok108, h⟩ := ck_e h
    refine lv_icmp_le (tgt := 87) hx hb d_1_45_69 (by decide) (fun c9 => ?_) (fun c9 => ?_)
    · have h := ite_t ((oI_le (a := r105) (b := r106) ok107 ok108).mp c9) h
      refine lv_iload hx hb d_1_45_87 (lv_at hl 1 rfl) ?_
      refine lv_iadd hx hb d_1_45_89 ?_
      refine nrm (oI_add _ _) ?_
      refine lv_istore_n (lv' := [(3, .int (oI (x3 + r105))), (6, .int (oI r106)), (5, .int (oI r105)), (0, .ref (ad 1)), (1, .int (oI x1)), (2, .int (oI x2)), (4, .int (oI x4))]) hx hb d_1_45_90 rfl hl (by decide) rfl (fun ls hl => ?_)
      refine lv_iinc (v := oI (x4 + 1)) (lv' := [(4, .int (oI (x4 + 1))), (3, .int (oI (x3 + r105))), (6, .int (oI r106)), (5, .int (oI r105)), (0, .ref (ad 1)), (1, .int (oI x1)), (2, .int (oI x2))]) hx hb d_1_45_91 hl (k := 6) rfl (oI_add x4 1) (by decide) rfl (fun ls hl => ?_)
      refine lv_goto (tgt := 32) hx hb d_1_45_94 (by decide) ?_
      obtain ⟨rfl, rfl, rfl, rfl⟩ := in4 h
      exact k0 rfl H locs ls hP hD hS (lv_sub hl [4, 5, 6, 1, 0] rfl)
    · have h := ite_f (fun q => c9 ((oI_le (a := r105) (b := r106) ok107 ok108).mpr q)) h
      refine lv_iload hx hb d_1_45_72 (lv_at hl 1 rfl) ?_
      refine lv_iload hx hb d_1_45_74 (lv_at hl 1 rfl) ?_
      refine lv_iload hx hb d_1_45_76 (lv_at hl 0 rfl) ?_
      refine lv_iadd hx hb d_1_45_78 ?_
      refine nrm (oI_add _ _) ?_
      refine lv_iconst (v := oI 2) hx hb d_1_45_79 (by decide +kernel) ?_
      obtain ⟨ok109, h⟩ := ck_e h
      refine lv_idiv hx hb d_1_45_80 (oI_nz (show psI 2 by decide).1 (show psI 2 by decide).2) ?_
      refine nrm (oI_div (a := (r105 + r106)) (b := (2 : Int)) ok109.1 ok109.2 (show psI 2 by decide).1 (show psI 2 by decide).2) ?_
      refine lv_isub hx hb d_1_45_81 ?_
      refine nrm (oI_sub _ _) ?_
      refine lv_iconst (v := oI 1) hx hb d_1_45_82 (by decide +kernel) ?_
      refine lv_isub hx hb d_1_45_83 ?_
      refine nrm (oI_sub _ _) ?_
      refine lv_goto (tgt := 89) hx hb d_1_45_84 (by decide) ?_
      refine lv_iadd hx hb d_1_45_89 ?_
      refine nrm (oI_add _ _) ?_
      obtain ⟨v110, e110, h⟩ := nb_e h
      refine nrm (congrArg oI e110.symm) ?_
      refine lv_istore_n (lv' := [(3, .int (oI v110)), (6, .int (oI r106)), (5, .int (oI r105)), (0, .ref (ad 1)), (1, .int (oI x1)), (2, .int (oI x2)), (4, .int (oI x4))]) hx hb d_1_45_90 rfl hl (by decide) rfl (fun ls hl => ?_)
      refine lv_iinc (v := oI (x4 + 1)) (lv' := [(4, .int (oI (x4 + 1))), (3, .int (oI v110)), (6, .int (oI r106)), (5, .int (oI r105)), (0, .ref (ad 1)), (1, .int (oI x1)), (2, .int (oI x2))]) hx hb d_1_45_91 hl (k := 6) rfl (oI_add x4 1) (by decide) rfl (fun ls hl => ?_)
      refine lv_goto (tgt := 32) hx hb d_1_45_94 (by decide) ?_
      obtain ⟨rfl, rfl, rfl, rfl⟩ := in4 h
      exact k0 rfl H locs ls hP hD hS (lv_sub hl [4, 5, 6, 1, 0] rfl)
