set_option maxRecDepth 100000 in
set_option maxHeartbeats 4000000 in
theorem s_La_seats (l : Launch) (z : Zz) (ad : Nat → Nat) (E : Ev) (M : Mm) (p0 : Nat) (r : Int) (F : Ev) (N : Mm) (h : f_La_seats E M p0 = some (r, F, N)) : CT l z ⟨"BallothallLaw", "seats", "([I)Z"⟩ method_11_code 20 (some .boolean) [.ref (ad p0)] (wv z ad E M) 7 190 352 10167 (fun u => some (.int (oI r))) (fun u => wv z (adj E ad u) F N) := by
  refine CT.of (own := "BallothallLaw") (by decide +kernel) (Nat.le_of_ble_eq_true rfl) rfl (fun p e s m below meth c A ls hx hb hml hr hts hown hlocks hin hA hG hZ hP hD hS hl => ?_)
  have hl : lv_has ls 20 [(0, .ref (ad p0))] := hl
  have key : ∀ (E0 : Ev) (ad0 : Nat → Nat) (mc ms c0 s0 c1 s1 : Nat) (H : Heap) (locs : List Loc) (args : Array Value), c0 + 352 ≤ c1 → s0 + 10167 ≤ s1 → c1 ≤ mc → s1 ≤ ms → (∀ i, i < nE E0 → ad i = ad0 i) → nE E0 ≤ nE E → (∀ w ∈ WG, w.before args s = true) → va_P z.1 classes (wv z ad E M) H → va_S A s.heap H locs → W p l e (rmK 7 190 mc ms) s m args below meth c H locs c0 s0 (MQ below (QK z A (fun u => some (.int (oI r))) (fun u => wv z (adj E0 ad0 u) F N)) args s c1 s1 A) (F0 m 0 ls []) := by
    intro E0 ad0 mc ms c0 s0 c1 s1 H locs args hc hs hm hm2 hag0 hE0 hts hP hS
    unfold f_La_seats at h
    obtain ⟨h_p0, h⟩ := ck_e h
    obtain ⟨p0, ep0, h⟩ := nb_e h
    obtain ⟨E0, eE0, h⟩ := nb_e h
    obtain ⟨M0, eM0, h⟩ := nb_e h
    refine m_newO (ci := 11) (C := "Ballothall") (T := TX11) (n := 14) hx hb hts iX11 tyX11_ok hown w_32 w_33 w_1 rfl (fun _ => fsX11) hG hP hD hS hA (show _ ≤ mc by omega) (show _ ≤ ms by omega) d_L11_0 (fun ad0 H hag0 hP hD hS => ?_)
    have hP : va_P z.1 classes (wv z ad0 E0 M0) H := by rw [eE0, eM0]; exact hP
    have hD : va_D A (wv z ad0 E0 M0) := by rw [eE0, eM0]; exact hD
    refine W.eq (g2 := F0 m 3 ls (.ref (ad0 p0) :: [])) (by rw [ep0] <;> rfl) ?_
    have hl : lv_has ls 20 [(0, .ref (ad0 p0))] := by rw [hag0 p0 h_p0.1]; exact hl
    have hgw0 : Gw E E0 := by rw [eE0]; exact gw_new _ _
    have hag0 : ∀ i, i < nE E0 → ad0 i = ad0 i := fun i hi => (hag0 i (Nat.lt_of_lt_of_le hi hE0)).trans (hag0 i hi)
    have hE0 : nE E0 ≤ nE E0 := Nat.le_trans hE0 hgw0.1
    have h_p0 : isIA E0 p0 := isA_up hgw0 h_p0
    have h_p0 : isO 11 E0 p0 := by rw [ep0, eE0]; exact ⟨new_i _ _, new_T _ _⟩
    refine lv_dup hx hb d_L11_3 rfl ?_
    obtain ⟨⟨E1, M1⟩, g1, h⟩ := bd_e h
    obtain ⟨hgw1, h⟩ := ck_e h
    refine kI (As := []) (rest := [.ref (ad0 p0)]) (s_B_init l z ad0 E0 M0 p0 E1 M1 g1) hx hb hml hown hts w_36 w_34 w_35 rfl w_1 md_22f6df ⟨Nat.le_of_ble_eq_true rfl, Nat.le_of_ble_eq_true rfl⟩ hG hZ hP hD hS hA rfl hl.1 rfl (Nat.le_of_ble_eq_true rfl) d_L11_4 ⟨(show _ ≤ mc by omega), (show _ ≤ ms by omega)⟩ (fun u1 H locs hP hD hS => ?_)
    obtain ⟨ad1, had1⟩ : ∃ q, q = adj E0 ad0 u1 := ⟨_, rfl⟩
    have hP : va_P z.1 classes (wv z ad1 E1 M1) H := by rw [had1]; exact hP
    have hD : va_D A (wv z ad1 E1 M1) := by rw [had1]; exact hD
    have hag1 : ∀ i, i < nE E0 → ad1 i = ad0 i := fun i hi => by rw [had1]; exact adj_lt hi
    have hl : lv_has ls 20 [(0, .ref (ad1 p0))] := by rw [hag1 p0 h_p0.1]; exact hl
    refine W.eq (g2 := F0 m 7 ls [.ref (ad1 p0)]) (by rw [hag1 p0 h_p0.1] <;> rfl) ?_
    have hag0 : ∀ i, i < nE E0 → ad1 i = ad0 i := fun i hi => (hag1 i (Nat.lt_of_lt_of_le hi hE0)).trans (hag0 i hi)
    have hE0 : nE E0 ≤ nE E1 := Nat.le_trans hE0 hgw1.1
    have h_p0 : isIA E1 p0 := isA_up hgw1 h_p0
    obtain ⟨⟨hL, ep1⟩, h⟩ := ck_e h
    subst ep1
    refine lv_astore_n (lv' := [(1, .ref (ad1 1)), (0, .ref (ad1 1))]) hx hb d_L11_7 rfl hl (by decide) rfl (fun ls hl => ?_)
    refine lv_iconst (v := oI 1) hx hb d_L11_8 (by decide +kernel) ?_
    refine lv_aload_n hx hb d_L11_9 rfl (lv_at hl 1 rfl) ?_
    refine lv_bipush (v := oI 8) hx hb d_L11_10 (by decide +kernel) ?_
    obtain ⟨⟨r2, M2⟩, g2, h⟩ := bd_e h
    refine kS (As := [.ref (ad1 1), .int (oI 8)]) (rest := [.int (oI 1)]) (s_La_next l z ad1 E1 M1 1 8 r2 M2 hL g2) hx hb hml hown hts w_797 w_795 w_796 w_0 md_199d8f ⟨Nat.le_of_ble_eq_true rfl, Nat.le_of_ble_eq_true rfl⟩ hG hZ hP hD hS hA rfl hl.1 rfl (Nat.le_of_ble_eq_true rfl) d_L11_12 ⟨(show _ ≤ mc by omega), (show _ ≤ ms by omega)⟩ (fun _ H locs hP hD hS => ?_)
    have hP : va_P z.1 classes (wv z ad1 E1 M2) H := hP
    have hD : va_D A (wv z ad1 E1 M2) := hD
    refine W.eq (g2 := F0 m 15 ls [.int (oI r2), .int (oI 1)]) rfl ?_
    refine lv_iadd hx hb d_L11_15 ?_
    refine nrm (oI_add _ _) ?_
    refine lv_istore_n (lv' := [(2, .int (oI (1 + r2))), (1, .ref (ad1 1)), (0, .ref (ad1 1))]) hx hb d_L11_16 rfl hl (by decide) rfl (fun ls hl => ?_)
    refine lv_iload_n hx hb d_L11_17 rfl (lv_at hl 0 rfl) ?_
    obtain ⟨ok3, h⟩ := ck_e h
    obtain ⟨p4, ep4, h⟩ := nb_e h
    obtain ⟨E4, eE4, h⟩ := nb_e h
    obtain ⟨M4, eM4, h⟩ := nb_e h
    refine m_newI (x := (1 + r2)) (N := 64) hx hb ok3.1 ok3.2 (by decide) (hts _ w_100) hG hP hD hS hA (show _ ≤ mc by omega) (show _ ≤ ms by omega) d_L11_18 (fun ad4 H hag4 hP hD hS => ?_)
    have hP : va_P z.1 classes (wv z ad4 E4 M4) H := by rw [eE4, eM4]; exact hP
    have hD : va_D A (wv z ad4 E4 M4) := by rw [eE4, eM4]; exact hD
    refine W.eq (g2 := F0 m 20 ls (.ref (ad4 p4) :: [])) (by rw [ep4] <;> rfl) ?_
    have hl : lv_has ls 20 [(2, .int (oI (1 + r2))), (1, .ref (ad4 1)), (0, .ref (ad4 1))] := by rw [hag4 1 (yi_1 hL)]; exact hl
    have hgw4 : Gw E1 E4 := by rw [eE4]; exact gw_new _ _
    have hL4 : Lay E4 := by rw [eE4]; exact lay_new hL
    have hag0 : ∀ i, i < nE E0 → ad4 i = ad0 i := fun i hi => (hag4 i (Nat.lt_of_lt_of_le hi hE0)).trans (hag0 i hi)
    have hE0 : nE E0 ≤ nE E4 := Nat.le_trans hE0 hgw4.1
    have hL : Lay E4 := hL4
    have h_p4 : isIA E4 p4 := by rw [ep4, eE4]; exact ⟨new_i _ _, by rw [new_T]⟩
    refine lv_astore_n (lv' := [(3, .ref (ad4 p4)), (2, .int (oI (1 + r2))), (1, .ref (ad4 1)), (0, .ref (ad4 1))]) hx hb d_L11_20 rfl hl (by decide) rfl (fun ls hl => ?_)
    refine lv_lconst (v := oJ 0) hx hb d_L11_21 (by decide +kernel) ?_
    refine lv_lstore (lv' := [(4, .long (oJ 0)), (3, .ref (ad4 p4)), (2, .int (oI (1 + r2))), (1, .ref (ad4 1)), (0, .ref (ad4 1))]) hx hb d_L11_22 hl (by decide) rfl (fun ls hl => ?_)
    refine lv_iconst (v := oI 0) hx hb d_L11_24 (by decide +kernel) ?_
    refine lv_istore (lv' := [(6, .int (oI 0)), (4, .long (oJ 0)), (3, .ref (ad4 p4)), (2, .int (oI (1 + r2))), (1, .ref (ad4 1)), (0, .ref (ad4 1))]) hx hb d_L11_25 hl (by decide) rfl (fun ls hl => ?_)
    obtain ⟨⟨t20, v20_4, v20_6, E20, M20⟩, g20, h⟩ := bd_e h
    obtain ⟨hgw20, h⟩ := ck_e h
    obtain ⟨hL20, h⟩ := ck_e h
    obtain ⟨ok20, h⟩ := ck_e h
    refine s_La_seats_27 l z E4 ad4 (1 + r2) p4 hx hb hml hts hown hlocks hA hG hZ mc ms (c0 + 351) (s0 + 10103) (by omega) (by omega) 5000 _ _ ad4 E4 M4 0 0 t20 v20_4 v20_6 E20 M20 (by omega) (by omega) (fun _ _ => rfl) (Nat.le_refl _) g20 (fun ad20 hag20 hEE20 e20 H locs ls hP hD hS hl => ?_) H locs ls hP hD hS (lv_sub hl [5, 4, 3, 2, 1, 0] rfl)
    have hag0 : ∀ i, i < nE E0 → ad20 i = ad0 i := fun i hi => (hag20 i (Nat.lt_of_lt_of_le hi hE0)).trans (hag0 i hi)
    have hE0 : nE E0 ≤ nE E20 := Nat.le_trans hE0 hgw20.1
    have hL : Lay E20 := hL20
    have h_p4 : isIA E20 p4 := isA_up hgw20 h_p4
    refine lv_aload_n hx hb d_L11_113 rfl (lv_at hl 0 rfl) ?_
    refine lv_bipush (v := oI 6) hx hb d_L11_114 (by decide +kernel) ?_
    obtain ⟨⟨r21, M21⟩, g21, h⟩ := bd_e h
    refine kS (As := [.ref (ad20 1), .int (oI 6)]) (rest := []) (s_La_next l z ad20 E20 M20 1 6 r21 M21 hL g21) hx hb hml hown hts w_797 w_795 w_796 w_0 md_199d8f ⟨Nat.le_of_ble_eq_true rfl, Nat.le_of_ble_eq_true rfl⟩ hG hZ hP hD hS hA rfl hl.1 rfl (Nat.le_of_ble_eq_true rfl) d_L11_116 ⟨(show _ ≤ mc by omega), (show _ ≤ ms by omega)⟩ (fun _ H locs hP hD hS => ?_)
    have hP : va_P z.1 classes (wv z ad20 E20 M21) H := hP
    have hD : va_D A (wv z ad20 E20 M21) := hD
    refine W.eq (g2 := F0 m 119 ls [.int (oI r21)]) rfl ?_
    refine lv_istore (lv' := [(6, .int (oI r21)), (0, .ref (ad20 1)), (1, .ref (ad20 1)), (2, .int (oI (1 + r2))), (3, .ref (ad20 p4)), (4, .long (oJ v20_4))]) hx hb d_L11_119 hl (by decide) rfl (fun ls hl => ?_)
    refine lv_iconst (v := oI 1) hx hb d_L11_121 (by decide +kernel) ?_
    refine lv_aload_n hx hb d_L11_122 rfl (lv_at hl 1 rfl) ?_
    refine lv_bipush (v := oI 60) hx hb d_L11_123 (by decide +kernel) ?_
    obtain ⟨⟨r22, M22⟩, g22, h⟩ := bd_e h
    refine kS (As := [.ref (ad20 1), .int (oI 60)]) (rest := [.int (oI 1)]) (s_La_next l z ad20 E20 M21 1 60 r22 M22 hL g22) hx hb hml hown hts w_797 w_795 w_796 w_0 md_199d8f ⟨Nat.le_of_ble_eq_true rfl, Nat.le_of_ble_eq_true rfl⟩ hG hZ hP hD hS hA rfl hl.1 rfl (Nat.le_of_ble_eq_true rfl) d_L11_125 ⟨(show _ ≤ mc by omega), (show _ ≤ ms by omega)⟩ (fun _ H locs hP hD hS => ?_)
    have hP : va_P z.1 classes (wv z ad20 E20 M22) H := hP
    have hD : va_D A (wv z ad20 E20 M22) := hD
    refine W.eq (g2 := F0 m 128 ls [.int (oI r22), .int (oI 1)]) rfl ?_
    refine lv_iadd hx hb d_L11_128 ?_
    refine nrm (oI_add _ _) ?_
    refine lv_istore (lv' := [(7, .int (oI (1 + r22))), (6, .int (oI r21)), (0, .ref (ad20 1)), (1, .ref (ad20 1)), (2, .int (oI (1 + r2))), (3, .ref (ad20 p4)), (4, .long (oJ v20_4))]) hx hb d_L11_129 hl (by decide) rfl (fun ls hl => ?_)
    refine lv_aload_n hx hb d_L11_131 rfl (lv_at hl 3 rfl) ?_
    refine lv_iload hx hb d_L11_132 (lv_at hl 1 rfl) ?_
    refine lv_iload hx hb d_L11_134 (lv_at hl 0 rfl) ?_
    refine lv_iconst (v := oI 0) hx hb d_L11_136 (by decide +kernel) ?_
    obtain ⟨⟨r23, M23⟩, g23, h⟩ := bd_e h
    refine kV (As := [.int (oI r21), .int (oI (1 + r22)), .int (oI 0)]) (rest := []) (s_B_seats l z ad20 E20 M22 r21 (1 + r22) 0 r23 M23 hL g23) hx hb hml hown hts w_1520 w_1517 w_1518 w_1519 w_1 md_fbc403 ⟨Nat.le_of_ble_eq_true rfl, Nat.le_of_ble_eq_true rfl⟩ hG hZ hP hD hS hA 1 (wv_o (ci := 11) (yi_1 hL) (yt_1 hL)) rfl rfl rfl hl.1 rfl (Nat.le_of_ble_eq_true rfl) d_L11_137 ⟨(show _ ≤ mc by omega), (show _ ≤ ms by omega)⟩ (fun _ H locs hP hD hS => ?_)
    have hP : va_P z.1 classes (wv z ad20 E20 M23) H := hP
    have hD : va_D A (wv z ad20 E20 M23) := hD
    refine W.eq (g2 := F0 m 140 ls [.int (oI r23)]) rfl ?_
    refine lv_istore (lv' := [(8, .int (oI r23)), (7, .int (oI (1 + r22))), (6, .int (oI r21)), (0, .ref (ad20 1)), (1, .ref (ad20 1)), (2, .int (oI (1 + r2))), (3, .ref (ad20 p4)), (4, .long (oJ v20_4))]) hx hb d_L11_140 hl (by decide) rfl (fun ls hl => ?_)
    refine lv_lconst (v := oJ 0) hx hb d_L11_142 (by decide +kernel) ?_
    refine lv_lstore (lv' := [(9, .long (oJ 0)), (8, .int (oI r23)), (7, .int (oI (1 + r22))), (6, .int (oI r21)), (0, .ref (ad20 1)), (1, .ref (ad20 1)), (2, .int (oI (1 + r2))), (3, .ref (ad20 p4)), (4, .long (oJ v20_4))]) hx hb d_L11_143 hl (by decide) rfl (fun ls hl => ?_)
    refine lv_iconst (v := oI 1) hx hb d_L11_145 (by decide +kernel) ?_
    refine lv_istore (lv' := [(11, .int (oI 1)), (9, .long (oJ 0)), (8, .int (oI r23)), (7, .int (oI (1 + r22))), (6, .int (oI r21)), (0, .ref (ad20 1)), (1, .ref (ad20 1)), (2, .int (oI (1 + r2))), (3, .ref (ad20 p4)), (4, .long (oJ v20_4))]) hx hb d_L11_146 hl (by decide) rfl (fun ls hl => ?_)
    refine lv_iconst (v := oI 0) hx hb d_L11_148 (by decide +kernel) ?_
    refine lv_istore (lv' := [(12, .int (oI 0)), (11, .int (oI 1)), (9, .long (oJ 0)), (8, .int (oI r23)), (7, .int (oI (1 + r22))), (6, .int (oI r21)), (0, .ref (ad20 1)), (1, .ref (ad20 1)), (2, .int (oI (1 + r2))), (3, .ref (ad20 p4)), (4, .long (oJ v20_4))]) hx hb d_L11_149 hl (by decide) rfl (fun ls hl => ?_)
    obtain ⟨⟨t103, v103_9, v103_11, v103_12, E103, M103⟩, g103, h⟩ := bd_e h
    obtain ⟨hgw103, h⟩ := ck_e h
    obtain ⟨hL103, h⟩ := ck_e h
    obtain ⟨ok103, h⟩ := ck_e h
    refine s_La_seats_151 l z E20 ad20 (1 + r2) p4 v20_4 r21 (1 + r22) r23 hx hb hml hts hown hlocks hA hG hZ mc ms (c0 + 351) (s0 + 10103) (by omega) (by omega) 5000 _ _ ad20 E20 M23 0 1 0 t103 v103_9 v103_11 v103_12 E103 M103 (by omega) (by omega) (fun _ _ => rfl) (Nat.le_refl _) g103 (fun ad103 hag103 hEE103 e103 H locs ls hP hD hS hl => ?_) H locs ls hP hD hS (lv_sub hl [6, 7, 8, 9, 10, 5, 4, 3, 2, 1, 0] rfl)
    have hag0 : ∀ i, i < nE E0 → ad103 i = ad0 i := fun i hi => (hag103 i (Nat.lt_of_lt_of_le hi hE0)).trans (hag0 i hi)
    have hE0 : nE E0 ≤ nE E103 := Nat.le_trans hE0 hgw103.1
    have hL : Lay E103 := hL103
    refine lv_iload hx hb d_L11_372 (lv_at hl 7 rfl) ?_
    obtain ⟨ok104, h⟩ := ck_e h
    refine lv_if_eq (tgt := 399) hx hb d_L11_374 (by decide) (fun c9 => ?_) (fun c9 => ?_)
    · have h := ite_t ((oI_eq0 ok104).mp c9) h
      refine lv_iconst (v := oI 0) hx hb d_L11_399 (by decide +kernel) ?_
      refine lv_istore (lv' := [(11, .int (oI 0)), (0, .ref (ad103 1)), (1, .ref (ad103 1)), (2, .int (oI (1 + r2))), (6, .int (oI r21)), (7, .int (oI (1 + r22))), (8, .int (oI r23)), (9, .long (oJ v103_9))]) hx hb d_L11_400 hl (by decide) rfl (fun ls hl => ?_)
      refine lv_iload_n hx hb d_L11_402 rfl (lv_at hl 3 rfl) ?_
      obtain ⟨ok105, h⟩ := ck_e h
      obtain ⟨p106, ep106, h⟩ := nb_e h
      obtain ⟨E106, eE106, h⟩ := nb_e h
      obtain ⟨M106, eM106, h⟩ := nb_e h
      refine m_newI (x := (1 + r2)) (N := 64) hx hb ok105.1 ok105.2 (by decide) (hts _ w_100) hG hP hD hS hA (show _ ≤ mc by omega) (show _ ≤ ms by omega) d_L11_403 (fun ad106 H hag106 hP hD hS => ?_)
      have hP : va_P z.1 classes (wv z ad106 E106 M106) H := by rw [eE106, eM106]; exact hP
      have hD : va_D A (wv z ad106 E106 M106) := by rw [eE106, eM106]; exact hD
      refine W.eq (g2 := F0 m 405 ls (.ref (ad106 p106) :: [])) (by rw [ep106] <;> rfl) ?_
      have hl : lv_has ls 20 [(11, .int (oI 0)), (0, .ref (ad106 1)), (1, .ref (ad106 1)), (2, .int (oI (1 + r2))), (6, .int (oI r21)), (7, .int (oI (1 + r22))), (8, .int (oI r23)), (9, .long (oJ v103_9))] := by rw [hag106 1 (yi_1 hL)]; exact hl
      have hgw106 : Gw E103 E106 := by rw [eE106]; exact gw_new _ _
      have hL106 : Lay E106 := by rw [eE106]; exact lay_new hL
      have hag0 : ∀ i, i < nE E0 → ad106 i = ad0 i := fun i hi => (hag106 i (Nat.lt_of_lt_of_le hi hE0)).trans (hag0 i hi)
      have hE0 : nE E0 ≤ nE E106 := Nat.le_trans hE0 hgw106.1
      have hL : Lay E106 := hL106
      have h_p106 : isIA E106 p106 := by rw [ep106, eE106]; exact ⟨new_i _ _, by rw [new_T]⟩
      refine lv_astore (lv' := [(12, .ref (ad106 p106)), (11, .int (oI 0)), (0, .ref (ad106 1)), (1, .ref (ad106 1)), (2, .int (oI (1 + r2))), (6, .int (oI r21)), (7, .int (oI (1 + r22))), (8, .int (oI r23)), (9, .long (oJ v103_9))]) hx hb d_L11_405 hl (by decide) rfl (fun ls hl => ?_)
      refine lv_iconst (v := oI 0) hx hb d_L11_407 (by decide +kernel) ?_
      refine lv_istore (lv' := [(13, .int (oI 0)), (12, .ref (ad106 p106)), (11, .int (oI 0)), (0, .ref (ad106 1)), (1, .ref (ad106 1)), (2, .int (oI (1 + r2))), (6, .int (oI r21)), (7, .int (oI (1 + r22))), (8, .int (oI r23)), (9, .long (oJ v103_9))]) hx hb d_L11_408 hl (by decide) rfl (fun ls hl => ?_)
      obtain ⟨⟨t111, v111_13, E111, M111⟩, g111, h⟩ := bd_e h
      obtain ⟨hgw111, h⟩ := ck_e h
      obtain ⟨hL111, h⟩ := ck_e h
      obtain ⟨ok111, h⟩ := ck_e h
      refine s_La_seats_410 l z E106 ad106 (1 + r2) r21 (1 + r22) v103_9 0 p106 hx hb hml hts hown hlocks hA hG hZ mc ms (c0 + 352) (s0 + 10167) (by omega) (by omega) 5000 _ _ ad106 E106 M106 0 t111 v111_13 E111 M111 (by omega) (by omega) (fun _ _ => rfl) (Nat.le_refl _) g111 (fun ad111 hag111 hEE111 e111 H locs ls hP hD hS hl => ?_) H locs ls hP hD hS (lv_sub hl [3, 4, 5, 6, 7, 9, 2, 1, 0] rfl)
      have hag0 : ∀ i, i < nE E0 → ad111 i = ad0 i := fun i hi => (hag111 i (Nat.lt_of_lt_of_le hi hE0)).trans (hag0 i hi)
      have hE0 : nE E0 ≤ nE E111 := Nat.le_trans hE0 hgw111.1
      have hL : Lay E111 := hL111
      have h_p106 : isIA E111 p106 := isA_up hgw111 h_p106
      refine lv_iconst (v := oI 0) hx hb d_L11_438 (by decide +kernel) ?_
      refine lv_istore (lv' := [(13, .int (oI 0)), (0, .ref (ad111 1)), (1, .ref (ad111 1)), (2, .int (oI (1 + r2))), (6, .int (oI r21)), (7, .int (oI (1 + r22))), (9, .long (oJ v103_9)), (11, .int (oI 0)), (12, .ref (ad111 p106))]) hx hb d_L11_439 hl (by decide) rfl (fun ls hl => ?_)
      obtain ⟨⟨t119, v119_11, v119_13, E119, M119⟩, g119, h⟩ := bd_e h
      obtain ⟨hgw119, h⟩ := ck_e h
      obtain ⟨hL119, h⟩ := ck_e h
      obtain ⟨ok119, h⟩ := ck_e h
      refine s_La_seats_441 l z E111 ad111 (1 + r2) r21 (1 + r22) v103_9 p106 hx hb hml hts hown hlocks hA hG hZ mc ms (c0 + 352) (s0 + 10167) (by omega) (by omega) 5000 _ _ ad111 E111 M111 0 0 t119 v119_11 v119_13 E119 M119 (by omega) (by omega) (fun _ _ => rfl) (Nat.le_refl _) g119 (fun ad119 hag119 hEE119 e119 H locs ls hP hD hS hl => ?_) H locs ls hP hD hS (lv_sub hl [1, 2, 3, 4, 5, 6, 7, 8, 0] rfl)
      have hag0 : ∀ i, i < nE E0 → ad119 i = ad0 i := fun i hi => (hag119 i (Nat.lt_of_lt_of_le hi hE0)).trans (hag0 i hi)
      have hE0 : nE E0 ≤ nE E119 := Nat.le_trans hE0 hgw119.1
      have hL : Lay E119 := hL119
      refine lv_aload_n hx hb d_L11_479 rfl (lv_at hl 0 rfl) ?_
      refine lv_iload_n hx hb d_L11_480 rfl (lv_at hl 2 rfl) ?_
      obtain ⟨⟨r120, M120⟩, g120, h⟩ := bd_e h
      refine kS (As := [.ref (ad119 1), .int (oI (1 + r2))]) (rest := []) (s_La_next l z ad119 E119 M119 1 (1 + r2) r120 M120 hL g120) hx hb hml hown hts w_797 w_795 w_796 w_0 md_199d8f ⟨Nat.le_of_ble_eq_true rfl, Nat.le_of_ble_eq_true rfl⟩ hG hZ hP hD hS hA rfl hl.1 rfl (Nat.le_of_ble_eq_true rfl) d_L11_481 ⟨(show _ ≤ mc by omega), (show _ ≤ ms by omega)⟩ (fun _ H locs hP hD hS => ?_)
      have hP : va_P z.1 classes (wv z ad119 E119 M120) H := hP
      have hD : va_D A (wv z ad119 E119 M120) := hD
      refine W.eq (g2 := F0 m 484 ls [.int (oI r120)]) rfl ?_
      refine lv_istore (lv' := [(13, .int (oI r120)), (0, .ref (ad119 1)), (1, .ref (ad119 1)), (2, .int (oI (1 + r2))), (6, .int (oI r21)), (7, .int (oI (1 + r22))), (9, .long (oJ v103_9)), (11, .int (oI v119_11))]) hx hb d_L11_484 hl (by decide) rfl (fun ls hl => ?_)
      refine lv_aload_n hx hb d_L11_486 rfl (lv_at hl 1 rfl) ?_
      refine lv_iload_n hx hb d_L11_487 rfl (lv_at hl 3 rfl) ?_
      obtain ⟨⟨r121, M121⟩, g121, h⟩ := bd_e h
      refine kS (As := [.ref (ad119 1), .int (oI (1 + r2))]) (rest := []) (s_La_next l z ad119 E119 M120 1 (1 + r2) r121 M121 hL g121) hx hb hml hown hts w_797 w_795 w_796 w_0 md_199d8f ⟨Nat.le_of_ble_eq_true rfl, Nat.le_of_ble_eq_true rfl⟩ hG hZ hP hD hS hA rfl hl.1 rfl (Nat.le_of_ble_eq_true rfl) d_L11_488 ⟨(show _ ≤ mc by omega), (show _ ≤ ms by omega)⟩ (fun _ H locs hP hD hS => ?_)
      have hP : va_P z.1 classes (wv z ad119 E119 M121) H := hP
      have hD : va_D A (wv z ad119 E119 M121) := hD
      refine W.eq (g2 := F0 m 491 ls [.int (oI r121)]) rfl ?_
      refine lv_istore (lv' := [(14, .int (oI r121)), (13, .int (oI r120)), (0, .ref (ad119 1)), (1, .ref (ad119 1)), (2, .int (oI (1 + r2))), (6, .int (oI r21)), (7, .int (oI (1 + r22))), (9, .long (oJ v103_9)), (11, .int (oI v119_11))]) hx hb d_L11_491 hl (by decide) rfl (fun ls hl => ?_)
      refine lv_aload_n hx hb d_L11_493 rfl (lv_at hl 3 rfl) ?_
      refine lv_iload hx hb d_L11_494 (lv_at hl 1 rfl) ?_
      refine lv_iconst (v := oI 1) hx hb d_L11_496 (by decide +kernel) ?_
      obtain ⟨⟨r122, M122⟩, g122, h⟩ := bd_e h
      refine kV (As := [.int (oI r120), .int (oI 1)]) (rest := []) (s_B_ally l z ad119 E119 M121 r120 1 r122 M122 hL g122) hx hb hml hown hts w_1602 w_1599 w_1600 w_1601 w_1 md_1f245a ⟨Nat.le_of_ble_eq_true rfl, Nat.le_of_ble_eq_true rfl⟩ hG hZ hP hD hS hA 1 (wv_o (ci := 11) (yi_1 hL) (yt_1 hL)) rfl rfl rfl hl.1 rfl (Nat.le_of_ble_eq_true rfl) d_L11_497 ⟨(show _ ≤ mc by omega), (show _ ≤ ms by omega)⟩ (fun _ H locs hP hD hS => ?_)
      have hP : va_P z.1 classes (wv z ad119 E119 M122) H := hP
      have hD : va_D A (wv z ad119 E119 M122) := hD
      refine W.eq (g2 := F0 m 500 ls [.int (oI r122)]) rfl ?_
      refine lv_aload_n hx hb d_L11_500 rfl (lv_at hl 3 rfl) ?_
      refine lv_iload hx hb d_L11_501 (lv_at hl 0 rfl) ?_
      refine lv_iconst (v := oI 1) hx hb d_L11_503 (by decide +kernel) ?_
      obtain ⟨⟨r123, M123⟩, g123, h⟩ := bd_e h
      refine kV (As := [.int (oI r121), .int (oI 1)]) (rest := [.int (oI r122)]) (s_B_ally l z ad119 E119 M122 r121 1 r123 M123 hL g123) hx hb hml hown hts w_1602 w_1599 w_1600 w_1601 w_1 md_1f245a ⟨Nat.le_of_ble_eq_true rfl, Nat.le_of_ble_eq_true rfl⟩ hG hZ hP hD hS hA 1 (wv_o (ci := 11) (yi_1 hL) (yt_1 hL)) rfl rfl rfl hl.1 rfl (Nat.le_of_ble_eq_true rfl) d_L11_504 ⟨(show _ ≤ mc by omega), (show _ ≤ ms by omega)⟩ (fun _ H locs hP hD hS => ?_)
      have hP : va_P z.1 classes (wv z ad119 E119 M123) H := hP
      have hD : va_D A (wv z ad119 E119 M123) := hD
      refine W.eq (g2 := F0 m 507 ls [.int (oI r123), .int (oI r122)]) rfl ?_
      refine lv_iadd hx hb d_L11_507 ?_
      refine nrm (oI_add _ _) ?_
      refine lv_istore (lv' := [(15, .int (oI (r122 + r123))), (14, .int (oI r121)), (13, .int (oI r120)), (0, .ref (ad119 1)), (1, .ref (ad119 1)), (2, .int (oI (1 + r2))), (6, .int (oI r21)), (7, .int (oI (1 + r22))), (9, .long (oJ v103_9)), (11, .int (oI v119_11))]) hx hb d_L11_508 hl (by decide) rfl (fun ls hl => ?_)
      refine lv_aload_n hx hb d_L11_510 rfl (lv_at hl 4 rfl) ?_
      refine lv_iload hx hb d_L11_511 (lv_at hl 6 rfl) ?_
      refine lv_iload hx hb d_L11_513 (lv_at hl 7 rfl) ?_
      refine lv_iconst (v := oI 0) hx hb d_L11_515 (by decide +kernel) ?_
      obtain ⟨⟨r124, M124⟩, g124, h⟩ := bd_e h
      refine kV (As := [.int (oI r21), .int (oI (1 + r22)), .int (oI 0)]) (rest := []) (s_B_seats l z ad119 E119 M123 r21 (1 + r22) 0 r124 M124 hL g124) hx hb hml hown hts w_1520 w_1517 w_1518 w_1519 w_1 md_fbc403 ⟨Nat.le_of_ble_eq_true rfl, Nat.le_of_ble_eq_true rfl⟩ hG hZ hP hD hS hA 1 (wv_o (ci := 11) (yi_1 hL) (yt_1 hL)) rfl rfl rfl hl.1 rfl (Nat.le_of_ble_eq_true rfl) d_L11_516 ⟨(show _ ≤ mc by omega), (show _ ≤ ms by omega)⟩ (fun _ H locs hP hD hS => ?_)
      have hP : va_P z.1 classes (wv z ad119 E119 M124) H := hP
      have hD : va_D A (wv z ad119 E119 M124) := hD
      refine W.eq (g2 := F0 m 519 ls [.int (oI r124)]) rfl ?_
      refine lv_istore (lv' := [(16, .int (oI r124)), (15, .int (oI (r122 + r123))), (14, .int (oI r121)), (13, .int (oI r120)), (0, .ref (ad119 1)), (1, .ref (ad119 1)), (2, .int (oI (1 + r2))), (6, .int (oI r21)), (7, .int (oI (1 + r22))), (9, .long (oJ v103_9)), (11, .int (oI v119_11))]) hx hb d_L11_519 hl (by decide) rfl (fun ls hl => ?_)
      refine lv_lconst (v := oJ 0) hx hb d_L11_521 (by decide +kernel) ?_
      refine lv_lstore (lv' := [(17, .long (oJ 0)), (16, .int (oI r124)), (15, .int (oI (r122 + r123))), (14, .int (oI r121)), (13, .int (oI r120)), (0, .ref (ad119 1)), (1, .ref (ad119 1)), (2, .int (oI (1 + r2))), (6, .int (oI r21)), (7, .int (oI (1 + r22))), (9, .long (oJ v103_9)), (11, .int (oI v119_11))]) hx hb d_L11_522 hl (by decide) rfl (fun ls hl => ?_)
      refine lv_iconst (v := oI 0) hx hb d_L11_524 (by decide +kernel) ?_
      refine lv_istore (lv' := [(19, .int (oI 0)), (17, .long (oJ 0)), (16, .int (oI r124)), (15, .int (oI (r122 + r123))), (14, .int (oI r121)), (13, .int (oI r120)), (0, .ref (ad119 1)), (1, .ref (ad119 1)), (2, .int (oI (1 + r2))), (6, .int (oI r21)), (7, .int (oI (1 + r22))), (9, .long (oJ v103_9)), (11, .int (oI v119_11))]) hx hb d_L11_525 hl (by decide) rfl (fun ls hl => ?_)
      obtain ⟨⟨t129, v129_17, v129_19, E129, M129⟩, g129, h⟩ := bd_e h
      obtain ⟨hgw129, h⟩ := ck_e h
      obtain ⟨hL129, h⟩ := ck_e h
      obtain ⟨ok129, h⟩ := ck_e h
      refine s_La_seats_527 l z E119 ad119 (1 + r2) v103_9 v119_11 hx hb hml hts hown hlocks hA hG hZ mc ms (c0 + 352) (s0 + 10167) (by omega) (by omega) 5000 _ _ ad119 E119 M124 0 0 t129 v129_17 v129_19 E129 M129 (by omega) (by omega) (fun _ _ => rfl) (Nat.le_refl _) g129 (fun ad129 hag129 hEE129 e129 H locs ls hP hD hS hl => ?_) H locs ls hP hD hS (lv_sub hl [7, 8, 11, 12, 1, 0] rfl)
      have hag0 : ∀ i, i < nE E0 → ad129 i = ad0 i := fun i hi => (hag129 i (Nat.lt_of_lt_of_le hi hE0)).trans (hag0 i hi)
      have hE0 : nE E0 ≤ nE E129 := Nat.le_trans hE0 hgw129.1
      have hL : Lay E129 := hL129
      refine lv_iload hx hb d_L11_551 (lv_at hl 2 rfl) ?_
      obtain ⟨ok130, h⟩ := ck_e h
      refine lv_if_eq (tgt := 575) hx hb d_L11_553 (by decide) (fun c9 => ?_) (fun c9 => ?_)
      · have h := ite_t ((oI_eq0 ok130).mp c9) h
        refine lv_iconst (v := oI 0) hx hb d_L11_575 (by decide +kernel) ?_
        refine W.wide (k := c1) (n := s1) (by omega) (by omega) ?_
        obtain ⟨rfl, rfl, rfl⟩ := in3 h
        exact W.zret hx hb hr rfl (fun t ht hW => qkA hP hD hS ad129 (congrArg (fun q => wv z q E129 M129) (adj_self hag0).symm) rfl ht) hS.2.2 d_L11_576
      · have h := ite_f (fun q => c9 ((oI_eq0 ok130).mpr q)) h
        refine lv_lload hx hb d_L11_556 (lv_at hl 3 rfl) ?_
        refine lv_lload hx hb d_L11_558 (lv_at hl 1 rfl) ?_
        obtain ⟨ok131, h⟩ := ck_e h
        obtain ⟨ok132, h⟩ := ck_e h
        refine W.lcmp hx hb d_L11_560 ?_
        refine nrm (cmp_val (a := v129_17) (b := v103_9) ok131 ok132) ?_
        refine lv_if_ne (tgt := 575) hx hb d_L11_561 (by decide) (fun c9 => ?_) (fun c9 => ?_)
        · have h := ite_f (fun q => c9 ((cmp_eq v129_17 v103_9).mpr q)) h
          refine lv_iconst (v := oI 0) hx hb d_L11_575 (by decide +kernel) ?_
          refine W.wide (k := c1) (n := s1) (by omega) (by omega) ?_
          obtain ⟨rfl, rfl, rfl⟩ := in3 h
          exact W.zret hx hb hr rfl (fun t ht hW => qkA hP hD hS ad129 (congrArg (fun q => wv z q E129 M129) (adj_self hag0).symm) rfl ht) hS.2.2 d_L11_576
        · have h := ite_t ((cmp_eq v129_17 v103_9).mp c9) h
          refine lv_aload_n hx hb d_L11_564 rfl (lv_at hl 0 rfl) ?_
          obtain ⟨⟨r133, M133⟩, g133, h⟩ := bd_e h
          refine kV (As := []) (rest := []) (s_B_errors l z ad129 E129 M129 r133 M133 hL g133) hx hb hml hown hts w_576 w_573 w_574 w_575 w_1 md_d65014 ⟨Nat.le_of_ble_eq_true rfl, Nat.le_of_ble_eq_true rfl⟩ hG hZ hP hD hS hA 1 (wv_o (ci := 11) (yi_1 hL) (yt_1 hL)) rfl rfl rfl hl.1 rfl (Nat.le_of_ble_eq_true rfl) d_L11_565 ⟨(show _ ≤ mc by omega), (show _ ≤ ms by omega)⟩ (fun _ H locs hP hD hS => ?_)
          have hP : va_P z.1 classes (wv z ad129 E129 M133) H := hP
          have hD : va_D A (wv z ad129 E129 M133) := hD
          refine W.eq (g2 := F0 m 568 ls [.int (oI r133)]) rfl ?_
          obtain ⟨ok134, h⟩ := ck_e h
          refine lv_if_ne (tgt := 575) hx hb d_L11_568 (by decide) (fun c9 => ?_) (fun c9 => ?_)
          · have h := ite_f (fun q => c9 ((oI_eq0 ok134).mpr q)) h
            refine lv_iconst (v := oI 0) hx hb d_L11_575 (by decide +kernel) ?_
            refine W.wide (k := c1) (n := s1) (by omega) (by omega) ?_
            obtain ⟨rfl, rfl, rfl⟩ := in3 h
            exact W.zret hx hb hr rfl (fun t ht hW => qkA hP hD hS ad129 (congrArg (fun q => wv z q E129 M133) (adj_self hag0).symm) rfl ht) hS.2.2 d_L11_576
          · have h := ite_t ((oI_eq0 ok134).mp c9) h
            refine lv_iconst (v := oI 1) hx hb d_L11_571 (by decide +kernel) ?_
            refine lv_goto (tgt := 576) hx hb d_L11_572 (by decide) ?_
            refine W.wide (k := c1) (n := s1) (by omega) (by omega) ?_
            obtain ⟨rfl, rfl, rfl⟩ := in3 h
            exact W.zret hx hb hr rfl (fun t ht hW => qkA hP hD hS ad129 (congrArg (fun q => wv z q E129 M133) (adj_self hag0).symm) rfl ht) hS.2.2 d_L11_576
    · have h := ite_f (fun q => c9 ((oI_eq0 ok104).mpr q)) h
      refine lv_lload hx hb d_L11_377 (lv_at hl 6 rfl) ?_
      refine lv_iload hx hb d_L11_379 (lv_at hl 5 rfl) ?_
      obtain ⟨ok135, h⟩ := ck_e h
      refine lv_if_ne (tgt := 388) hx hb d_L11_381 (by decide) (fun c9 => ?_) (fun c9 => ?_)
      · have h := ite_f (fun q => c9 ((oI_eq0 ok135).mpr q)) h
        refine lv_iload hx hb d_L11_388 (lv_at hl 4 rfl) ?_
        exact b_La_seats_j390 l z E0 ad0 ad103 E103 M103 (1 + r2) r21 (1 + r22) v103_9 (1 + r22) v103_9 r F N hx hb hml hts hown hlocks hA hG hZ hr mc ms _ _ c1 s1 (by omega) (by omega) hm hm2 hag0 hE0 h H locs ls hP hD hS (lv_sub hl [0, 1, 2, 3, 4, 6] rfl)
      · have h := ite_t ((oI_eq0 ok135).mp c9) h
        refine lv_iconst (v := oI 0) hx hb d_L11_384 (by decide +kernel) ?_
        refine lv_goto (tgt := 390) hx hb d_L11_385 (by decide) ?_
        exact b_La_seats_j390 l z E0 ad0 ad103 E103 M103 (1 + r2) r21 (1 + r22) v103_9 0 v103_9 r F N hx hb hml hts hown hlocks hA hG hZ hr mc ms _ _ c1 s1 (by omega) (by omega) hm hm2 hag0 hE0 h H locs ls hP hD hS (lv_sub hl [0, 1, 2, 3, 4, 6] rfl)
  exact key E ad 352 10167 0 0 352 10167 _ _ _ (by decide) (by decide) (by decide) (by decide) (fun _ _ => rfl) (Nat.le_refl _) hts hP hS
set_option maxRecDepth 100000 in
set_option maxHeartbeats 4000000 in
theorem s_Wa_append (l : Launch) (z : Zz) (ad : Nat → Nat) (E : Ev) (M : Mm) (x1 : Int) (x2 : Int) (x3 : Int) (r : Int) (N : Mm) (hL : Lay E) (h : f_Wa_append E M x1 x2 x3 = some (r, N)) : CT l z ⟨"Ballothall$Wards", "append", "(III)I"⟩ prog_12_method_2_code 5 (some .int) [.ref (ad 219), .int (oI x1), .int (oI x2), .int (oI x3)] (wv z ad E M) 0 20 0 0 (fun _ => some (.int (oI r))) (fun _ => (wv z ad E N)) := by
  refine CT.of (own := "Ballothall$Wards") (by decide +kernel) (Nat.le_of_ble_eq_true rfl) rfl (fun p e s m below meth c A ls hx hb hml hr hts hown hlocks hin hA hG hZ hP hD hS hl => ?_)
  have hl : lv_has ls 5 [(0, .ref (ad 219)), (1, .int (oI x1)), (2, .int (oI x2)), (3, .int (oI x3))] := hl
  have key : ∀ (H : Heap) (locs : List Loc) (args : Array Value), (∀ w ∈ WG, w.before args s = true) → va_P z.1 classes (wv z ad E M) H → va_S A s.heap H locs → W p l e (rmK 0 20 0 0) s m args below meth c H locs 0 0 (MQ below (QK z A (fun _ => some (.int (oI r))) (fun _ => (wv z ad E N))) args s 0 0 A) (F0 m 0 ls []) := by
    intro H locs args hts hP hS
    unfold f_Wa_append at h
    refine lv_aload_n hx hb d_12_2_0 rfl (lv_at hl 0 rfl) ?_
    refine m_gi (C := "Ballothall$Wards") (T := TX10) (N := 5) (ci := 10) (k := 0) hx hb hts iX10 hown hG hP (yi_219 hL) (yt_219 hL) rfl (by decide) w_358 (fun _ h9 => h9) rfl rfl d_12_2_1 ?_
    refine lv_istore (lv' := [(4, .int (oI (M 219 0))), (0, .ref (ad 219)), (1, .int (oI x1)), (2, .int (oI x2)), (3, .int (oI x3))]) hx hb d_12_2_4 hl (by decide) rfl (fun ls hl => ?_)
    refine lv_aload_n hx hb d_12_2_6 rfl (lv_at hl 1 rfl) ?_
    refine m_gr (j := 220) (C := "Ballothall$Wards") (T := TX10) (N := 5) (ci := 10) (k := 1) hx hb hts iX10 hown hG hP (yi_219 hL) (yt_219 hL) rfl (by decide) w_360 (fun _ h9 => h9) rfl rfl (yr_219_1 hL) d_12_2_7 ?_
    refine lv_iload hx hb d_12_2_10 (lv_at hl 0 rfl) ?_
    refine lv_iload_n hx hb d_12_2_12 rfl (lv_at hl 2 rfl) ?_
    obtain ⟨ok0, h⟩ := ck_e h
    refine m_is hx hb hG hP hD hS (yi_220 hL) (yt_220 hL) ok0 d_12_2_13 (fun H locs hP hD hS => ?_)
    have hP : va_P z.1 classes (wv z ad E (u2 M 220 (M 219 0).toNat x1)) H := hP
    have hD : va_D A (wv z ad E (u2 M 220 (M 219 0).toNat x1)) := hD
    refine lv_aload_n hx hb d_12_2_14 rfl (lv_at hl 1 rfl) ?_
    refine m_gr (j := 221) (C := "Ballothall$Wards") (T := TX10) (N := 5) (ci := 10) (k := 2) hx hb hts iX10 hown hG hP (yi_219 hL) (yt_219 hL) rfl (by decide) w_361 (fun _ h9 => h9) rfl rfl (yr_219_2 hL) d_12_2_15 ?_
    refine lv_iconst (v := oI 0) hx hb d_12_2_18 (by decide +kernel) ?_
    refine m_ar (k := 222) hx hb hG hP (yi_221 hL) (yt_221 hL) (by decide +kernel) ((ya_221 hL (by decide +kernel)).trans (by decide +kernel)) d_12_2_19 ?_
    refine lv_iload hx hb d_12_2_20 (lv_at hl 0 rfl) ?_
    refine lv_iload_n hx hb d_12_2_22 rfl (lv_at hl 3 rfl) ?_
    refine m_is hx hb hG hP hD hS (yi_222 hL) (yt_222 hL) ok0 d_12_2_23 (fun H locs hP hD hS => ?_)
    have hP : va_P z.1 classes (wv z ad E (u2 (u2 M 220 (M 219 0).toNat x1) 222 (M 219 0).toNat x2)) H := hP
    have hD : va_D A (wv z ad E (u2 (u2 M 220 (M 219 0).toNat x1) 222 (M 219 0).toNat x2)) := hD
    refine lv_aload_n hx hb d_12_2_24 rfl (lv_at hl 1 rfl) ?_
    refine m_gr (j := 221) (C := "Ballothall$Wards") (T := TX10) (N := 5) (ci := 10) (k := 2) hx hb hts iX10 hown hG hP (yi_219 hL) (yt_219 hL) rfl (by decide) w_361 (fun _ h9 => h9) rfl rfl (yr_219_2 hL) d_12_2_25 ?_
    refine lv_iconst (v := oI 1) hx hb d_12_2_28 (by decide +kernel) ?_
    refine m_ar (k := 223) hx hb hG hP (yi_221 hL) (yt_221 hL) (by decide +kernel) ((ya_221 hL (by decide +kernel)).trans (by decide +kernel)) d_12_2_29 ?_
    refine lv_iload hx hb d_12_2_30 (lv_at hl 0 rfl) ?_
    refine lv_iload_n hx hb d_12_2_32 rfl (lv_at hl 4 rfl) ?_
    refine m_is hx hb hG hP hD hS (yi_223 hL) (yt_223 hL) ok0 d_12_2_33 (fun H locs hP hD hS => ?_)
    have hP : va_P z.1 classes (wv z ad E (u2 (u2 (u2 M 220 (M 219 0).toNat x1) 222 (M 219 0).toNat x2) 223 (M 219 0).toNat x3)) H := hP
    have hD : va_D A (wv z ad E (u2 (u2 (u2 M 220 (M 219 0).toNat x1) 222 (M 219 0).toNat x2) 223 (M 219 0).toNat x3)) := hD
    refine lv_aload_n hx hb d_12_2_34 rfl (lv_at hl 1 rfl) ?_
    refine lv_dup hx hb d_12_2_35 rfl ?_
    refine m_gi (C := "Ballothall$Wards") (T := TX10) (N := 5) (ci := 10) (k := 0) hx hb hts iX10 hown hG hP (yi_219 hL) (yt_219 hL) rfl (by decide) w_358 (fun _ h9 => h9) rfl rfl d_12_2_36 ?_
    refine lv_iconst (v := oI 1) hx hb d_12_2_39 (by decide +kernel) ?_
    refine lv_iadd hx hb d_12_2_40 ?_
    refine nrm (oI_add _ _) ?_
    refine m_pi (C := "Ballothall$Wards") (T := TX10) (N := 5) (ci := 10) (k := 0) (ty := .int) hx hb hts iX10 hown hG hP hD hS (yi_219 hL) (yt_219 hL) rfl (by decide) w_358 (fun _ h9 => h9) rfl rfl tyX10_ok nmX10 rfl (by decide +kernel) rfl rfl d_12_2_41 (fun H locs hP hD hS => ?_)
    have hP : va_P z.1 classes (wv z ad E (u2 (u2 (u2 (u2 M 220 (M 219 0).toNat x1) 222 (M 219 0).toNat x2) 223 (M 219 0).toNat x3) 219 0 (((u2 (u2 (u2 M 220 (M 219 0).toNat x1) 222 (M 219 0).toNat x2) 223 (M 219 0).toNat x3) 219 0) + 1))) H := hP
    have hD : va_D A (wv z ad E (u2 (u2 (u2 (u2 M 220 (M 219 0).toNat x1) 222 (M 219 0).toNat x2) 223 (M 219 0).toNat x3) 219 0 (((u2 (u2 (u2 M 220 (M 219 0).toNat x1) 222 (M 219 0).toNat x2) 223 (M 219 0).toNat x3) 219 0) + 1))) := hD
    obtain ⟨M1, e1, h⟩ := nb_e h
    rw [← e1] at hP hD
    refine lv_iload hx hb d_12_2_44 (lv_at hl 0 rfl) ?_
    obtain ⟨rfl, rfl⟩ := in2 h
    exact W.iret hx hb hr (fun t ht hW => qkA hP hD hS (fun k => k) rfl rfl ht) hS.2.2 d_12_2_46
  exact key _ _ _ hts hP hS
set_option maxRecDepth 100000 in
set_option maxHeartbeats 4000000 in
theorem s_B_ward (l : Launch) (z : Zz) (ad : Nat → Nat) (E : Ev) (M : Mm) (x1 : Int) (x2 : Int) (x3 : Int) (r : Int) (N : Mm) (hL : Lay E) (h : f_B_ward E M x1 x2 x3 = some (r, N)) : CT l z ⟨"Ballothall", "ward", "(III)I"⟩ prog_1_method_41_code 5 (some .int) [.ref (ad 1), .int (oI x1), .int (oI x2), .int (oI x3)] (wv z ad E M) 2 63 0 0 (fun _ => some (.int (oI r))) (fun _ => (wv z ad E N)) := by
  refine CT.of (own := "Ballothall") (by decide +kernel) (Nat.le_of_ble_eq_true rfl) rfl (fun p e s m below meth c A ls hx hb hml hr hts hown hlocks hin hA hG hZ hP hD hS hl => ?_)
  have hl : lv_has ls 5 [(0, .ref (ad 1)), (1, .int (oI x1)), (2, .int (oI x2)), (3, .int (oI x3))] := hl
  have key : ∀ (H : Heap) (locs : List Loc) (args : Array Value), (∀ w ∈ WG, w.before args s = true) → va_P z.1 classes (wv z ad E M) H → va_S A s.heap H locs → W p l e (rmK 2 63 0 0) s m args below meth c H locs 0 0 (MQ below (QK z A (fun _ => some (.int (oI r))) (fun _ => (wv z ad E N))) args s 0 0 A) (F0 m 0 ls []) := by
    intro H locs args hts hP hS
    unfold f_B_ward at h
    refine lv_iload_n hx hb d_1_41_0 rfl (lv_at hl 1 rfl) ?_
    refine lv_iconst (v := oI 1) hx hb d_1_41_1 (by decide +kernel) ?_
    refine lv_ldc hx hb hown (hts _ w_1022) d_1_41_2 ?_
    refine nrm (x1 := oI 100000) (by decide +kernel) ?_
    obtain ⟨_, g0, h⟩ := bd_e h
    refine kS (As := [.int (oI x1), .int (oI 1), .int (oI 100000)]) (rest := []) (s_B_needRange l z ad E M x1 1 100000 hL g0) hx hb hml hown hts w_548 w_546 w_547 w_1 md_519134 ⟨Nat.le_of_ble_eq_true rfl, Nat.le_of_ble_eq_true rfl⟩ hG hZ hP hD hS hA rfl hl.1 rfl (Nat.le_of_ble_eq_true rfl) d_1_41_4 ⟨Nat.le_of_ble_eq_true rfl, Nat.le_of_ble_eq_true rfl⟩ (fun _ H locs hP hD hS => ?_)
    have hP : va_P z.1 classes (wv z ad E M) H := hP
    have hD : va_D A (wv z ad E M) := hD
    refine W.eq (g2 := F0 m 7 ls []) rfl ?_
    refine lv_iload_n hx hb d_1_41_7 rfl (lv_at hl 2 rfl) ?_
    refine lv_iconst (v := oI 0) hx hb d_1_41_8 (by decide +kernel) ?_
    refine lv_ldc hx hb hown (hts _ w_1022) d_1_41_9 ?_
    refine nrm (x1 := oI 100000) (by decide +kernel) ?_
    obtain ⟨_, g1, h⟩ := bd_e h
    refine kS (As := [.int (oI x2), .int (oI 0), .int (oI 100000)]) (rest := []) (s_B_needRange l z ad E M x2 0 100000 hL g1) hx hb hml hown hts w_548 w_546 w_547 w_1 md_519134 ⟨Nat.le_of_ble_eq_true rfl, Nat.le_of_ble_eq_true rfl⟩ hG hZ hP hD hS hA rfl hl.1 rfl (Nat.le_of_ble_eq_true rfl) d_1_41_11 ⟨Nat.le_of_ble_eq_true rfl, Nat.le_of_ble_eq_true rfl⟩ (fun _ H locs hP hD hS => ?_)
    have hP : va_P z.1 classes (wv z ad E M) H := hP
    have hD : va_D A (wv z ad E M) := hD
    refine W.eq (g2 := F0 m 14 ls []) rfl ?_
    refine lv_iload_n hx hb d_1_41_14 rfl (lv_at hl 3 rfl) ?_
    refine lv_iconst (v := oI 0) hx hb d_1_41_15 (by decide +kernel) ?_
    refine lv_ldc hx hb hown (hts _ w_1022) d_1_41_16 ?_
    refine nrm (x1 := oI 100000) (by decide +kernel) ?_
    obtain ⟨_, g2, h⟩ := bd_e h
    refine kS (As := [.int (oI x3), .int (oI 0), .int (oI 100000)]) (rest := []) (s_B_needRange l z ad E M x3 0 100000 hL g2) hx hb hml hown hts w_548 w_546 w_547 w_1 md_519134 ⟨Nat.le_of_ble_eq_true rfl, Nat.le_of_ble_eq_true rfl⟩ hG hZ hP hD hS hA rfl hl.1 rfl (Nat.le_of_ble_eq_true rfl) d_1_41_18 ⟨Nat.le_of_ble_eq_true rfl, Nat.le_of_ble_eq_true rfl⟩ (fun _ H locs hP hD hS => ?_)
    have hP : va_P z.1 classes (wv z ad E M) H := hP
    have hD : va_D A (wv z ad E M) := hD
    refine W.eq (g2 := F0 m 21 ls []) rfl ?_
    refine lv_aload_n hx hb d_1_41_21 rfl (lv_at hl 0 rfl) ?_
    refine m_gr (j := 219) (C := "Ballothall") (T := TX11) (N := 14) (ci := 11) (k := 5) hx hb hts iX11 hown hG hP (yi_1 hL) (yt_1 hL) rfl (by decide) w_402 (fun _ h9 => h9) rfl rfl (yr_1_5 hL) d_1_41_22 ?_
    refine m_giN (C := "Ballothall$Wards") (T := TX10) (N := 5) (ci := 10) (k := 0) hx hb hts iX10 hown hG hP (yi_219 hL) (yt_219 hL) rfl (by decide) n_359 rfl (fun _ h9 => h9) rfl rfl d_1_41_25 ?_
    refine lv_iconst (v := oI 1) hx hb d_1_41_28 (by decide +kernel) ?_
    refine lv_iadd hx hb d_1_41_29 ?_
    refine nrm (oI_add _ _) ?_
    refine lv_bipush (v := oI 16) hx hb d_1_41_30 (by decide +kernel) ?_
    obtain ⟨_, g3, h⟩ := bd_e h
    refine kS (As := [.int (oI ((M 219 0) + 1)), .int (oI 16)]) (rest := []) (s_B_needRoom l z ad E M ((M 219 0) + 1) 16 hL g3) hx hb hml hown hts w_446 w_444 w_445 w_1 md_ec9fa9 ⟨Nat.le_of_ble_eq_true rfl, Nat.le_of_ble_eq_true rfl⟩ hG hZ hP hD hS hA rfl hl.1 rfl (Nat.le_of_ble_eq_true rfl) d_1_41_32 ⟨Nat.le_of_ble_eq_true rfl, Nat.le_of_ble_eq_true rfl⟩ (fun _ H locs hP hD hS => ?_)
    have hP : va_P z.1 classes (wv z ad E M) H := hP
    have hD : va_D A (wv z ad E M) := hD
    refine W.eq (g2 := F0 m 35 ls []) rfl ?_
    refine lv_aload_n hx hb d_1_41_35 rfl (lv_at hl 0 rfl) ?_
    refine m_gr (j := 219) (C := "Ballothall") (T := TX11) (N := 14) (ci := 11) (k := 5) hx hb hts iX11 hown hG hP (yi_1 hL) (yt_1 hL) rfl (by decide) w_402 (fun _ h9 => h9) rfl rfl (yr_1_5 hL) d_1_41_36 ?_
    refine lv_iload_n hx hb d_1_41_39 rfl (lv_at hl 1 rfl) ?_
    refine lv_iload_n hx hb d_1_41_40 rfl (lv_at hl 2 rfl) ?_
    refine lv_iload_n hx hb d_1_41_41 rfl (lv_at hl 3 rfl) ?_
    obtain ⟨⟨r4, M4⟩, g4, h⟩ := bd_e h
    refine kVN (As := [.int (oI x1), .int (oI x2), .int (oI x3)]) (rest := []) (s_Wa_append l z ad E M x1 x2 x3 r4 M4 hL g4) hx hb hml hown hts w_1613 n_1610 w_1612 w_s_c4bf49 w_10 md_d51d3b ⟨Nat.le_of_ble_eq_true rfl, Nat.le_of_ble_eq_true rfl⟩ hG hZ hP hD hS hA 219 (wv_o (ci := 10) (yi_219 hL) (yt_219 hL)) rfl rfl rfl hl.1 rfl (Nat.le_of_ble_eq_true rfl) d_1_41_42 ⟨Nat.le_of_ble_eq_true rfl, Nat.le_of_ble_eq_true rfl⟩ (fun _ H locs hP hD hS => ?_)
    have hP : va_P z.1 classes (wv z ad E M4) H := hP
    have hD : va_D A (wv z ad E M4) := hD
    refine W.eq (g2 := F0 m 45 ls [.int (oI r4)]) rfl ?_
    refine lv_istore (lv' := [(4, .int (oI r4)), (0, .ref (ad 1)), (1, .int (oI x1)), (2, .int (oI x2)), (3, .int (oI x3))]) hx hb d_1_41_45 hl (by decide) rfl (fun ls hl => ?_)
    refine lv_aload_n hx hb d_1_41_47 rfl (lv_at hl 1 rfl) ?_
    refine lv_bipush (v := oI 10) hx hb d_1_41_48 (by decide +kernel) ?_
    refine lv_iload hx hb d_1_41_50 (lv_at hl 0 rfl) ?_
    refine lv_iconst (v := oI 0) hx hb d_1_41_52 (by decide +kernel) ?_
    obtain ⟨M5, g5, h⟩ := bd_e h
    refine kV (As := [.int (oI 10), .int (oI r4), .int (oI 0)]) (rest := []) (s_B_remember l z ad E M4 10 r4 0 M5 hL g5) hx hb hml hown hts w_519 w_516 w_518 w_s_b872b3 w_1 md_7af0bb ⟨Nat.le_of_ble_eq_true rfl, Nat.le_of_ble_eq_true rfl⟩ hG hZ hP hD hS hA 1 (wv_o (ci := 11) (yi_1 hL) (yt_1 hL)) rfl rfl rfl hl.1 rfl (Nat.le_of_ble_eq_true rfl) d_1_41_53 ⟨Nat.le_of_ble_eq_true rfl, Nat.le_of_ble_eq_true rfl⟩ (fun _ H locs hP hD hS => ?_)
    have hP : va_P z.1 classes (wv z ad E M5) H := hP
    have hD : va_D A (wv z ad E M5) := hD
    refine W.eq (g2 := F0 m 56 ls []) rfl ?_
    refine lv_iload hx hb d_1_41_56 (lv_at hl 0 rfl) ?_
    obtain ⟨rfl, rfl⟩ := in2 h
    exact W.iret hx hb hr (fun t ht hW => qkA hP hD hS (fun k => k) rfl rfl ht) hS.2.2 d_1_41_58
  exact key _ _ _ hts hP hS
set_option maxRecDepth 100000 in
set_option maxHeartbeats 4000000 in
theorem s_Wa_greatestBehind (l : Launch) (z : Zz) (ad : Nat → Nat) (E : Ev) (M : Mm) (x1 : Int) (x2 : Int) (r : Int)  (hL : Lay E) (h : f_Wa_greatestBehind E M x1 x2 = some r) : CT l z ⟨"Ballothall$Wards", "greatestBehind", "(II)I"⟩ prog_12_method_5_code 3 (some .int) [.ref (ad 219), .int (oI x1), .int (oI x2)] (wv z ad E M) 0 20 0 0 (fun _ => some (.int (oI r))) (fun _ => (wv z ad E M)) := by
  refine CT.of (own := "Ballothall$Wards") (by decide +kernel) (Nat.le_of_ble_eq_true rfl) rfl (fun p e s m below meth c A ls hx hb hml hr hts hown hlocks hin hA hG hZ hP hD hS hl => ?_)
  have hl : lv_has ls 3 [(0, .ref (ad 219)), (1, .int (oI x1)), (2, .int (oI x2))] := hl
  have key : ∀ (H : Heap) (locs : List Loc) (args : Array Value), (∀ w ∈ WG, w.before args s = true) → va_P z.1 classes (wv z ad E M) H → va_S A s.heap H locs → W p l e (rmK 0 20 0 0) s m args below meth c H locs 0 0 (MQ below (QK z A (fun _ => some (.int (oI r))) (fun _ => (wv z ad E M))) args s 0 0 A) (F0 m 0 ls []) := by
    intro H locs args hts hP hS
    unfold f_Wa_greatestBehind at h
    refine lv_iload_n hx hb d_12_5_0 rfl (lv_at hl 1 rfl) ?_
    refine lv_iconst (v := oI 1) hx hb d_12_5_1 (by decide +kernel) ?_
    refine lv_iadd hx hb d_12_5_2 ?_
    refine nrm (oI_add _ _) ?_
    refine lv_aload_n hx hb d_12_5_3 rfl (lv_at hl 0 rfl) ?_
    refine m_gi (C := "Ballothall$Wards") (T := TX10) (N := 5) (ci := 10) (k := 0) hx hb hts iX10 hown hG hP (yi_219 hL) (yt_219 hL) rfl (by decide) w_358 (fun _ h9 => h9) rfl rfl d_12_5_4 ?_
    obtain ⟨ok0, h⟩ := ck_e h
    obtain ⟨ok1, h⟩ := ck_e h
    refine lv_icmp_ge (tgt := 33) hx hb d_12_5_7 (by decide) (fun c9 => ?_) (fun c9 => ?_)
    · have h := ite_t ((oI_le (a := (M 219 0)) (b := (x1 + 1)) ok1 ok0).mp c9) h
      refine lv_iconst (v := oI 0) hx hb d_12_5_33 (by decide +kernel) ?_
      obtain rfl := in1 h
      exact W.iret hx hb hr (fun t ht hW => qkA hP hD hS (fun k => k) rfl rfl ht) hS.2.2 d_12_5_34
    · have h := ite_f (fun q => c9 ((oI_le (a := (M 219 0)) (b := (x1 + 1)) ok1 ok0).mpr q)) h
      refine lv_iload_n hx hb d_12_5_10 rfl (lv_at hl 2 rfl) ?_
      refine lv_iconst (v := oI 1) hx hb d_12_5_11 (by decide +kernel) ?_
      obtain ⟨ok2, h⟩ := ck_e h
      refine lv_icmp_le (tgt := 30) hx hb d_12_5_12 (by decide) (fun c9 => ?_) (fun c9 => ?_)
      · have h := ite_t ((oI_le (a := x2) (b := (1 : Int)) ok2 (by decide)).mp c9) h
        refine lv_ldc hx hb hown (hts _ w_1626) d_12_5_30 ?_
        refine nrm (x1 := oI 1600001) (by decide +kernel) ?_
        obtain rfl := in1 h
        exact W.iret hx hb hr (fun t ht hW => qkA hP hD hS (fun k => k) rfl rfl ht) hS.2.2 d_12_5_32
      · have h := ite_f (fun q => c9 ((oI_le (a := x2) (b := (1 : Int)) ok2 (by decide)).mpr q)) h
        refine lv_aload_n hx hb d_12_5_15 rfl (lv_at hl 0 rfl) ?_
        refine m_gr (j := 224) (C := "Ballothall$Wards") (T := TX10) (N := 5) (ci := 10) (k := 3) hx hb hts iX10 hown hG hP (yi_219 hL) (yt_219 hL) rfl (by decide) w_362 (fun _ h9 => h9) rfl rfl (yr_219_3 hL) d_12_5_16 ?_
        refine lv_iload_n hx hb d_12_5_19 rfl (lv_at hl 2 rfl) ?_
        refine lv_iconst (v := oI 1) hx hb d_12_5_20 (by decide +kernel) ?_
        refine lv_isub hx hb d_12_5_21 ?_
        refine nrm (oI_sub _ _) ?_
        obtain ⟨ok3, h⟩ := ck_e h
        refine m_ar (k := (225 + (x2 - 1).toNat)) hx hb hG hP (yi_224 hL) (yt_224 hL) ok3 (ya_224 hL (inb_lt ok3)) d_12_5_22 ?_
        refine lv_iload_n hx hb d_12_5_23 rfl (lv_at hl 1 rfl) ?_
        refine lv_iconst (v := oI 1) hx hb d_12_5_24 (by decide +kernel) ?_
        refine lv_iadd hx hb d_12_5_25 ?_
        refine nrm (oI_add _ _) ?_
        obtain ⟨ok4, h⟩ := ck_e h
        refine m_ia hx hb hG hP (yg_224 hL ok3).1 (yg_224 hL ok3).2 ok4 d_12_5_26 ?_
        refine lv_goto (tgt := 32) hx hb d_12_5_27 (by decide) ?_
        obtain rfl := in1 h
        exact W.iret hx hb hr (fun t ht hW => qkA hP hD hS (fun k => k) rfl rfl ht) hS.2.2 d_12_5_32
  exact key _ _ _ hts hP hS
set_option maxRecDepth 100000 in
set_option maxHeartbeats 4000000 in
theorem b_Wa_greatestOf_9b (l : Launch) (z : Zz) (ad : Nat → Nat) (E : Ev) (M : Mm) (x1 : Int) (x3 : Int) (x4 : Int) (x5 : Int) (t : Nat) (w3 : Int) (w4 : Int) (w5 : Int)  {Q : State → Prop} {p : Program} {e : Env} {s : State} {m : MethodId} {below : List Frame} {meth : Method} {c : Code} {A : Nat → Prop} {args : Array Value} (hx : p.tables.exec = Jvm.exec) (hb : c.code = prog_12_method_4_code) (hml : c.maxLocals = 6) (hts : ∀ w ∈ WG, w.before args s = true) (hown : s.vm.findClass "Ballothall$Wards" = some m.cls) (hlocks : meth.locks = false) (hA : ∀ q, s.heap.size ≤ q → A q) (hG : KG z s) (hZ : FZ z A s) (hL : Lay E) (h : Wa_greatestOf_9b E M x1 x3 x4 x5 = some (t, w3, w4, w5)) (k0 : t = 0 → ∀ (H : Heap) (locs : List Loc) (ls : Array Slot), va_P z.1 classes (wv z ad E M) H → va_D A (wv z ad E M) → va_S A s.heap H locs → lv_has ls 6 [(0, .ref (ad 219)), (1, .int (oI x1)), (3, .int (oI w3)), (4, .int (oI w4)), (5, .int (oI w5))] → W p l e (rmK 1 42 0 0) s m args below meth c H locs 0 0 Q (F0 m 9 ls [])) (k1 : t = 1 → ∀ (H : Heap) (locs : List Loc) (ls : Array Slot), va_P z.1 classes (wv z ad E M) H → va_D A (wv z ad E M) → va_S A s.heap H locs → lv_has ls 6 [(3, .int (oI w3))] → W p l e (rmK 1 42 0 0) s m args below meth c H locs 0 0 Q (F0 m 55 ls [])) : ∀ (H : Heap) (locs : List Loc) (ls : Array Slot), va_P z.1 classes (wv z ad E M) H → va_D A (wv z ad E M) → va_S A s.heap H locs → lv_has ls 6 [(0, .ref (ad 219)), (1, .int (oI x1)), (3, .int (oI x3)), (4, .int (oI x4)), (5, .int (oI x5))] → W p l e (rmK 1 42 0 0) s m args below meth c H locs 0 0 Q (F0 m 9 ls []) := by
  intro H locs ls hP hD hS hl
  unfold Wa_greatestOf_9b at h
  refine lv_iload hx hb d_12_4_9 (lv_at hl 4 rfl) ?_
  refine lv_aload_n hx hb d_12_4_11 rfl (lv_at hl 0 rfl) ?_
  refine m_gi (C := "Ballothall$Wards") (T := TX10) (N := 5) (ci := 10) (k := 0) hx hb hts iX10 hown hG hP (yi_219 hL) (yt_219 hL) rfl (by decide) w_358 (fun _ h9 => h9) rfl rfl d_12_4_12 ?_
  refine lv_iload_n hx hb d_12_4_15 rfl (lv_at hl 1 rfl) ?_
  refine lv_isub hx hb d_12_4_16 ?_
  refine nrm (oI_sub _ _) ?_
  obtain ⟨ok0, h⟩ := ck_e h
  obtain ⟨ok1, h⟩ := ck_e h
  refine lv_icmp_gt (tgt := 55) hx hb d_12_4_17 (by decide) (fun c9 => ?_) (fun c9 => ?_)
  · have h := ite_t ((oI_lt (a := ((M 219 0) - x1)) (b := x5) ok1 ok0).mp c9) h
    obtain ⟨rfl, rfl, rfl, rfl⟩ := in4 h
    exact k1 rfl H locs ls hP hD hS (lv_sub hl [2] rfl)
  · have h := ite_f (fun q => c9 ((oI_lt (a := ((M 219 0) - x1)) (b := x5) ok1 ok0).mpr q)) h
    refine lv_iload hx hb d_12_4_20 (lv_at hl 3 rfl) ?_
    refine lv_aload_n hx hb d_12_4_22 rfl (lv_at hl 0 rfl) ?_
    refine m_gr (j := 220) (C := "Ballothall$Wards") (T := TX10) (N := 5) (ci := 10) (k := 1) hx hb hts iX10 hown hG hP (yi_219 hL) (yt_219 hL) rfl (by decide) w_360 (fun _ h9 => h9) rfl rfl (yr_219_1 hL) d_12_4_23 ?_
    refine lv_iload hx hb d_12_4_26 (lv_at hl 4 rfl) ?_
    obtain ⟨ok2, h⟩ := ck_e h
    refine m_ia hx hb hG hP (yi_220 hL) (yt_220 hL) ok2 d_12_4_28 ?_
    refine lv_iadd hx hb d_12_4_29 ?_
    refine nrm (oI_add _ _) ?_
    refine lv_istore (lv' := [(4, .int (oI (x4 + (M 220 x5.toNat)))), (0, .ref (ad 219)), (1, .int (oI x1)), (3, .int (oI x3)), (5, .int (oI x5))]) hx hb d_12_4_30 hl (by decide) rfl (fun ls hl => ?_)
    refine lv_iload_n hx hb d_12_4_32 rfl (lv_at hl 3 rfl) ?_
    refine lv_iload hx hb d_12_4_33 (lv_at hl 0 rfl) ?_
    refine lv_aload_n hx hb d_12_4_35 rfl (lv_at hl 1 rfl) ?_
    refine lv_iload hx hb d_12_4_36 (lv_at hl 4 rfl) ?_
    refine lv_iload_n hx hb d_12_4_38 rfl (lv_at hl 2 rfl) ?_
    obtain ⟨r3, g3, h⟩ := bd_e h
    refine kV (As := [.int (oI x5), .int (oI x1)]) (rest := [.int (oI (x4 + (M 220 x5.toNat))), .int (oI x3)]) (s_Wa_greatestBehind l z ad E M x5 x1 r3 hL g3) hx hb hml hown hts w_1630 w_1627 w_1629 w_s_f89072 w_10 md_2a0790 ⟨Nat.le_of_ble_eq_true rfl, Nat.le_of_ble_eq_true rfl⟩ hG hZ hP hD hS hA 219 (wv_o (ci := 10) (yi_219 hL) (yt_219 hL)) rfl rfl rfl hl.1 rfl (Nat.le_of_ble_eq_true rfl) d_12_4_39 ⟨Nat.le_of_ble_eq_true rfl, Nat.le_of_ble_eq_true rfl⟩ (fun _ H locs hP hD hS => ?_)
    have hP : va_P z.1 classes (wv z ad E M) H := hP
    have hD : va_D A (wv z ad E M) := hD
    refine W.eq (g2 := F0 m 42 ls [.int (oI r3), .int (oI (x4 + (M 220 x5.toNat))), .int (oI x3)]) rfl ?_
    obtain ⟨ok4, h⟩ := ck_e h
    obtain ⟨ok5, h⟩ := ck_e h
    refine va_mmax hx hb (by rw [hml]; exact hl.1.symm) hown (hts _ w_1631) (hts _ w_632) (hts _ w_17) (hts _ w_max) (Nat.le_of_ble_eq_true rfl) (Nat.le_of_ble_eq_true rfl) (Nat.le_of_ble_eq_true rfl) (Nat.le_of_ble_eq_true rfl) d_12_4_42 ?_
    refine nrm (mx_oI (a := (x4 + (M 220 x5.toNat))) (b := r3) ok4 ok5) ?_
    obtain ⟨v6, e6, h⟩ := nb_e h
    refine nrm (congrArg oI e6.symm) ?_
    obtain ⟨ok7, h⟩ := ck_e h
    refine va_mmin hx hb (by rw [hml]; exact hl.1.symm) hown (hts _ w_1632) (hts _ w_521) (hts _ w_17) (hts _ w_min) (Nat.le_of_ble_eq_true rfl) (Nat.le_of_ble_eq_true rfl) (Nat.le_of_ble_eq_true rfl) (Nat.le_of_ble_eq_true rfl) d_12_4_45 ?_
    refine nrm (mn_oI (a := x3) (b := v6) ok7 (e6 ▸ (rg_max (x := (x4 + (M 220 x5.toNat))) (y := r3) ok4 ok5))) ?_
    refine lv_istore_n (lv' := [(3, .int (oI (min x3 v6))), (4, .int (oI (x4 + (M 220 x5.toNat)))), (0, .ref (ad 219)), (1, .int (oI x1)), (5, .int (oI x5))]) hx hb d_12_4_48 rfl hl (by decide) rfl (fun ls hl => ?_)
    refine lv_iinc (v := oI (x5 + 1)) (lv' := [(5, .int (oI (x5 + 1))), (3, .int (oI (min x3 v6))), (4, .int (oI (x4 + (M 220 x5.toNat)))), (0, .ref (ad 219)), (1, .int (oI x1))]) hx hb d_12_4_49 hl (k := 4) rfl (oI_add x5 1) (by decide) rfl (fun ls hl => ?_)
    refine lv_goto (tgt := 9) hx hb d_12_4_52 (by decide) ?_
    obtain ⟨rfl, rfl, rfl, rfl⟩ := in4 h
    exact k0 rfl H locs ls hP hD hS (lv_sub hl [3, 4, 1, 2, 0] rfl)
set_option maxRecDepth 100000 in
set_option maxHeartbeats 4000000 in
theorem s_Wa_greatestOf_9 (l : Launch) (z : Zz) (ad : Nat → Nat) (E : Ev) (x1 : Int) {Q : State → Prop} {p : Program} {e : Env} {s : State} {m : MethodId} {below : List Frame} {meth : Method} {c : Code} {A : Nat → Prop} {args : Array Value} (hx : p.tables.exec = Jvm.exec) (hb : c.code = prog_12_method_4_code) (hml : c.maxLocals = 6) (hts : ∀ w ∈ WG, w.before args s = true) (hown : s.vm.findClass "Ballothall$Wards" = some m.cls) (hlocks : meth.locks = false) (hA : ∀ q, s.heap.size ≤ q → A q) (hG : KG z s) (hZ : FZ z A s) (hL : Lay E) : ∀ (fu : Nat) (M : Mm) (x3 : Int) (x4 : Int) (x5 : Int) (t : Nat) (w3 : Int) (w4 : Int) (w5 : Int), l_Wa_greatestOf_9 E x1 fu M x3 x4 x5 = some (t, w3, w4, w5) → (t = 1 → ∀ (H : Heap) (locs : List Loc) (ls : Array Slot), va_P z.1 classes (wv z ad E M) H → va_D A (wv z ad E M) → va_S A s.heap H locs → lv_has ls 6 [(3, .int (oI w3))] → W p l e (rmK 1 42 0 0) s m args below meth c H locs 0 0 Q (F0 m 55 ls [])) → ∀ (H : Heap) (locs : List Loc) (ls : Array Slot), va_P z.1 classes (wv z ad E M) H → va_D A (wv z ad E M) → va_S A s.heap H locs → lv_has ls 6 [(0, .ref (ad 219)), (1, .int (oI x1)), (3, .int (oI x3)), (4, .int (oI x4)), (5, .int (oI x5))] → W p l e (rmK 1 42 0 0) s m args below meth c H locs 0 0 Q (F0 m 9 ls []) := by
  intro fu
  induction fu with
  | zero =>
    intro M x3 x4 x5 t w3 w4 w5 h
    have h : (none : Option (Nat × Int × Int × Int)) = some _ := h
    cases h
  | succ fu ih =>
    intro M x3 x4 x5 t w3 w4 w5 h k1 H locs ls hP hD hS hl
    obtain ⟨⟨t0, w30, w40, w50⟩, g0, h⟩ := bd_e h
    refine b_Wa_greatestOf_9b l z ad E M x1 x3 x4 x5 t0 w30 w40 w50 hx hb hml hts hown hlocks hA hG hZ hL g0 (fun e0 => ?_) (fun e0 => ?_) H locs ls hP hD hS hl
    · subst e0
      have h := ite_t rfl h
      exact ih M w30 w40 w50 t w3 w4 w5 h k1
    · subst e0
      have h := ite_f (by decide) h
      obtain ⟨rfl, rfl, rfl, rfl⟩ := in4 h
      exact k1 rfl
set_option maxRecDepth 100000 in
set_option maxHeartbeats 4000000 in
theorem s_Wa_greatestOf (l : Launch) (z : Zz) (ad : Nat → Nat) (E : Ev) (M : Mm) (x1 : Int) (x2 : Int) (r : Int)  (hL : Lay E) (h : f_Wa_greatestOf E M x1 x2 = some r) : CT l z ⟨"Ballothall$Wards", "greatestOf", "(II)I"⟩ prog_12_method_4_code 6 (some .int) [.ref (ad 219), .int (oI x1), .int (oI x2)] (wv z ad E M) 1 42 0 0 (fun _ => some (.int (oI r))) (fun _ => (wv z ad E M)) := by
  refine CT.of (own := "Ballothall$Wards") (by decide +kernel) (Nat.le_of_ble_eq_true rfl) rfl (fun p e s m below meth c A ls hx hb hml hr hts hown hlocks hin hA hG hZ hP hD hS hl => ?_)
  have hl : lv_has ls 6 [(0, .ref (ad 219)), (1, .int (oI x1)), (2, .int (oI x2))] := hl
  have key : ∀ (H : Heap) (locs : List Loc) (args : Array Value), (∀ w ∈ WG, w.before args s = true) → va_P z.1 classes (wv z ad E M) H → va_S A s.heap H locs → W p l e (rmK 1 42 0 0) s m args below meth c H locs 0 0 (MQ below (QK z A (fun _ => some (.int (oI r))) (fun _ => (wv z ad E M))) args s 0 0 A) (F0 m 0 ls []) := by
    intro H locs args hts hP hS
    unfold f_Wa_greatestOf at h
    refine lv_ldc hx hb hown (hts _ w_1626) d_12_4_0 ?_
    refine nrm (x1 := oI 1600001) (by decide +kernel) ?_
    refine lv_istore_n (lv' := [(3, .int (oI 1600001)), (0, .ref (ad 219)), (1, .int (oI x1)), (2, .int (oI x2))]) hx hb d_12_4_2 rfl hl (by decide) rfl (fun ls hl => ?_)
    refine lv_iconst (v := oI 0) hx hb d_12_4_3 (by decide +kernel) ?_
    refine lv_istore (lv' := [(4, .int (oI 0)), (3, .int (oI 1600001)), (0, .ref (ad 219)), (1, .int (oI x1)), (2, .int (oI x2))]) hx hb d_12_4_4 hl (by decide) rfl (fun ls hl => ?_)
    refine lv_iload_n hx hb d_12_4_6 rfl (lv_at hl 4 rfl) ?_
    refine lv_istore (lv' := [(5, .int (oI x2)), (4, .int (oI 0)), (3, .int (oI 1600001)), (0, .ref (ad 219)), (1, .int (oI x1)), (2, .int (oI x2))]) hx hb d_12_4_7 hl (by decide) rfl (fun ls hl => ?_)
    obtain ⟨⟨t8, v8_3, v8_4, v8_5⟩, g8, h⟩ := bd_e h
    obtain ⟨ok8, h⟩ := ck_e h
    refine s_Wa_greatestOf_9 l z ad E x1 hx hb hml hts hown hlocks hA hG hZ hL FU M 1600001 0 x2 t8 v8_3 v8_4 v8_5 g8 (fun e8 H locs ls hP hD hS hl => ?_) H locs ls hP hD hS (lv_sub hl [3, 4, 2, 1, 0] rfl)
    refine lv_iload_n hx hb d_12_4_55 rfl (lv_at hl 0 rfl) ?_
    obtain rfl := in1 h
    exact W.iret hx hb hr (fun t ht hW => qkA hP hD hS (fun k => k) rfl rfl ht) hS.2.2 d_12_4_56
  exact key _ _ _ hts hP hS
set_option maxRecDepth 100000 in
set_option maxHeartbeats 4000000 in
theorem b_Wa_firstEnd_3b (l : Launch) (z : Zz) (ad : Nat → Nat) (E : Ev) (M : Mm) (x2 : Int) (x3 : Int) (x4 : Int) (t : Nat) (w4 : Int)  {Q : State → Prop} {p : Program} {e : Env} {s : State} {m : MethodId} {below : List Frame} {meth : Method} {c : Code} {A : Nat → Prop} {args : Array Value} (hx : p.tables.exec = Jvm.exec) (hb : c.code = prog_12_method_6_code) (hml : c.maxLocals = 5) (hts : ∀ w ∈ WG, w.before args s = true) (hown : s.vm.findClass "Ballothall$Wards" = some m.cls) (hlocks : meth.locks = false) (hA : ∀ q, s.heap.size ≤ q → A q) (hG : KG z s) (hZ : FZ z A s) (hL : Lay E) (h : Wa_firstEnd_3b E M x2 x3 x4 = some (t, w4)) (k0 : t = 0 → ∀ (H : Heap) (locs : List Loc) (ls : Array Slot), va_P z.1 classes (wv z ad E M) H → va_D A (wv z ad E M) → va_S A s.heap H locs → lv_has ls 5 [(0, .ref (ad 219)), (2, .int (oI x2)), (3, .int (oI x3)), (4, .int (oI w4))] → W p l e (rmK 1 42 0 0) s m args below meth c H locs 0 0 Q (F0 m 3 ls [])) (k1 : t = 1 → ∀ (H : Heap) (locs : List Loc) (ls : Array Slot), va_P z.1 classes (wv z ad E M) H → va_D A (wv z ad E M) → va_S A s.heap H locs → lv_has ls 5 [(4, .int (oI w4))] → W p l e (rmK 1 42 0 0) s m args below meth c H locs 0 0 Q (F0 m 31 ls [])) : ∀ (H : Heap) (locs : List Loc) (ls : Array Slot), va_P z.1 classes (wv z ad E M) H → va_D A (wv z ad E M) → va_S A s.heap H locs → lv_has ls 5 [(0, .ref (ad 219)), (2, .int (oI x2)), (3, .int (oI x3)), (4, .int (oI x4))] → W p l e (rmK 1 42 0 0) s m args below meth c H locs 0 0 Q (F0 m 3 ls []) := by
  intro H locs ls hP hD hS hl
  unfold Wa_firstEnd_3b at h
  refine lv_iload hx hb d_12_6_3 (lv_at hl 3 rfl) ?_
  refine lv_aload_n hx hb d_12_6_5 rfl (lv_at hl 0 rfl) ?_
  refine m_gi (C := "Ballothall$Wards") (T := TX10) (N := 5) (ci := 10) (k := 0) hx hb hts iX10 hown hG hP (yi_219 hL) (yt_219 hL) rfl (by decide) w_358 (fun _ h9 => h9) rfl rfl d_12_6_6 ?_
  refine lv_iload_n hx hb d_12_6_9 rfl (lv_at hl 1 rfl) ?_
  refine lv_isub hx hb d_12_6_10 ?_
  refine nrm (oI_sub _ _) ?_
  obtain ⟨ok0, h⟩ := ck_e h
  obtain ⟨ok1, h⟩ := ck_e h
  refine lv_icmp_ge (tgt := 31) hx hb d_12_6_11 (by decide) (fun c9 => ?_) (fun c9 => ?_)
  · have h := ite_t ((oI_le (a := ((M 219 0) - x2)) (b := x4) ok1 ok0).mp c9) h
    obtain ⟨rfl, rfl⟩ := in2 h
    exact k1 rfl H locs ls hP hD hS (lv_sub hl [3] rfl)
  · have h := ite_f (fun q => c9 ((oI_le (a := ((M 219 0) - x2)) (b := x4) ok1 ok0).mpr q)) h
    refine lv_aload_n hx hb d_12_6_14 rfl (lv_at hl 0 rfl) ?_
    refine lv_iload hx hb d_12_6_15 (lv_at hl 3 rfl) ?_
    refine lv_iload_n hx hb d_12_6_17 rfl (lv_at hl 1 rfl) ?_
    obtain ⟨r2, g2, h⟩ := bd_e h
    refine kV (As := [.int (oI x4), .int (oI x2)]) (rest := []) (s_Wa_greatestBehind l z ad E M x4 x2 r2 hL g2) hx hb hml hown hts w_1630 w_1627 w_1629 w_s_f89072 w_10 md_2a0790 ⟨Nat.le_of_ble_eq_true rfl, Nat.le_of_ble_eq_true rfl⟩ hG hZ hP hD hS hA 219 (wv_o (ci := 10) (yi_219 hL) (yt_219 hL)) rfl rfl rfl hl.1 rfl (Nat.le_of_ble_eq_true rfl) d_12_6_18 ⟨Nat.le_of_ble_eq_true rfl, Nat.le_of_ble_eq_true rfl⟩ (fun _ H locs hP hD hS => ?_)
    have hP : va_P z.1 classes (wv z ad E M) H := hP
    have hD : va_D A (wv z ad E M) := hD
    refine W.eq (g2 := F0 m 21 ls [.int (oI r2)]) rfl ?_
    refine lv_iload_n hx hb d_12_6_21 rfl (lv_at hl 2 rfl) ?_
    obtain ⟨ok3, h⟩ := ck_e h
    obtain ⟨ok4, h⟩ := ck_e h
    refine lv_icmp_le (tgt := 31) hx hb d_12_6_22 (by decide) (fun c9 => ?_) (fun c9 => ?_)
    · have h := ite_t ((oI_le (a := r2) (b := x3) ok3 ok4).mp c9) h
      obtain ⟨rfl, rfl⟩ := in2 h
      exact k1 rfl H locs ls hP hD hS (lv_sub hl [3] rfl)
    · have h := ite_f (fun q => c9 ((oI_le (a := r2) (b := x3) ok3 ok4).mpr q)) h
      refine lv_iinc (v := oI (x4 + 1)) (lv' := [(4, .int (oI (x4 + 1))), (0, .ref (ad 219)), (2, .int (oI x2)), (3, .int (oI x3))]) hx hb d_12_6_25 hl (k := 3) rfl (oI_add x4 1) (by decide) rfl (fun ls hl => ?_)
      refine lv_goto (tgt := 3) hx hb d_12_6_28 (by decide) ?_
      obtain ⟨rfl, rfl⟩ := in2 h
      exact k0 rfl H locs ls hP hD hS (lv_sub hl [1, 2, 3, 0] rfl)
set_option maxRecDepth 100000 in
set_option maxHeartbeats 4000000 in
theorem s_Wa_firstEnd_3 (l : Launch) (z : Zz) (ad : Nat → Nat) (E : Ev) (x2 : Int) (x3 : Int) {Q : State → Prop} {p : Program} {e : Env} {s : State} {m : MethodId} {below : List Frame} {meth : Method} {c : Code} {A : Nat → Prop} {args : Array Value} (hx : p.tables.exec = Jvm.exec) (hb : c.code = prog_12_method_6_code) (hml : c.maxLocals = 5) (hts : ∀ w ∈ WG, w.before args s = true) (hown : s.vm.findClass "Ballothall$Wards" = some m.cls) (hlocks : meth.locks = false) (hA : ∀ q, s.heap.size ≤ q → A q) (hG : KG z s) (hZ : FZ z A s) (hL : Lay E) : ∀ (fu : Nat) (M : Mm) (x4 : Int) (t : Nat) (w4 : Int), l_Wa_firstEnd_3 E x2 x3 fu M x4 = some (t, w4) → (t = 1 → ∀ (H : Heap) (locs : List Loc) (ls : Array Slot), va_P z.1 classes (wv z ad E M) H → va_D A (wv z ad E M) → va_S A s.heap H locs → lv_has ls 5 [(4, .int (oI w4))] → W p l e (rmK 1 42 0 0) s m args below meth c H locs 0 0 Q (F0 m 31 ls [])) → ∀ (H : Heap) (locs : List Loc) (ls : Array Slot), va_P z.1 classes (wv z ad E M) H → va_D A (wv z ad E M) → va_S A s.heap H locs → lv_has ls 5 [(0, .ref (ad 219)), (2, .int (oI x2)), (3, .int (oI x3)), (4, .int (oI x4))] → W p l e (rmK 1 42 0 0) s m args below meth c H locs 0 0 Q (F0 m 3 ls []) := by
  intro fu
  induction fu with
  | zero =>
    intro M x4 t w4 h
    have h : (none : Option (Nat × Int)) = some _ := h
    cases h
  | succ fu ih =>
    intro M x4 t w4 h k1 H locs ls hP hD hS hl
    obtain ⟨⟨t0, w40⟩, g0, h⟩ := bd_e h
    refine b_Wa_firstEnd_3b l z ad E M x2 x3 x4 t0 w40 hx hb hml hts hown hlocks hA hG hZ hL g0 (fun e0 => ?_) (fun e0 => ?_) H locs ls hP hD hS hl
    · subst e0
      have h := ite_t rfl h
      exact ih M w40 t w4 h k1
    · subst e0
      have h := ite_f (by decide) h
      obtain ⟨rfl, rfl⟩ := in2 h
      exact k1 rfl
set_option maxRecDepth 100000 in
set_option maxHeartbeats 4000000 in
theorem s_Wa_firstEnd (l : Launch) (z : Zz) (ad : Nat → Nat) (E : Ev) (M : Mm) (x1 : Int) (x2 : Int) (x3 : Int) (r : Int)  (hL : Lay E) (h : f_Wa_firstEnd E M x1 x2 x3 = some r) : CT l z ⟨"Ballothall$Wards", "firstEnd", "(III)I"⟩ prog_12_method_6_code 5 (some .int) [.ref (ad 219), .int (oI x1), .int (oI x2), .int (oI x3)] (wv z ad E M) 1 42 0 0 (fun _ => some (.int (oI r))) (fun _ => (wv z ad E M)) := by
  refine CT.of (own := "Ballothall$Wards") (by decide +kernel) (Nat.le_of_ble_eq_true rfl) rfl (fun p e s m below meth c A ls hx hb hml hr hts hown hlocks hin hA hG hZ hP hD hS hl => ?_)
  have hl : lv_has ls 5 [(0, .ref (ad 219)), (1, .int (oI x1)), (2, .int (oI x2)), (3, .int (oI x3))] := hl
  have key : ∀ (H : Heap) (locs : List Loc) (args : Array Value), (∀ w ∈ WG, w.before args s = true) → va_P z.1 classes (wv z ad E M) H → va_S A s.heap H locs → W p l e (rmK 1 42 0 0) s m args below meth c H locs 0 0 (MQ below (QK z A (fun _ => some (.int (oI r))) (fun _ => (wv z ad E M))) args s 0 0 A) (F0 m 0 ls []) := by
    intro H locs args hts hP hS
    unfold f_Wa_firstEnd at h
    refine lv_iload_n hx hb d_12_6_0 rfl (lv_at hl 1 rfl) ?_
    refine lv_istore (lv' := [(4, .int (oI x1)), (0, .ref (ad 219)), (1, .int (oI x1)), (2, .int (oI x2)), (3, .int (oI x3))]) hx hb d_12_6_1 hl (by decide) rfl (fun ls hl => ?_)
    obtain ⟨⟨t5, v5_4⟩, g5, h⟩ := bd_e h
    obtain ⟨ok5, h⟩ := ck_e h
    refine s_Wa_firstEnd_3 l z ad E x2 x3 hx hb hml hts hown hlocks hA hG hZ hL FU M x1 t5 v5_4 g5 (fun e5 H locs ls hP hD hS hl => ?_) H locs ls hP hD hS (lv_sub hl [1, 3, 4, 0] rfl)
    refine lv_iload hx hb d_12_6_31 (lv_at hl 0 rfl) ?_
    obtain rfl := in1 h
    exact W.iret hx hb hr (fun t ht hW => qkA hP hD hS (fun k => k) rfl rfl ht) hS.2.2 d_12_6_33
  exact key _ _ _ hts hP hS
set_option maxRecDepth 100000 in
set_option maxHeartbeats 4000000 in
theorem b_Wa_divide_9b (l : Launch) (z : Zz) (ad : Nat → Nat) (E : Ev) (M : Mm) (x1 : Int) (x2 : Int) (x3 : Int) (t : Nat) (w3 : Int) (N : Mm) {Q : State → Prop} {p : Program} {e : Env} {s : State} {m : MethodId} {below : List Frame} {meth : Method} {c : Code} {A : Nat → Prop} {args : Array Value} (hx : p.tables.exec = Jvm.exec) (hb : c.code = prog_12_method_3_code) (hml : c.maxLocals = 5) (hts : ∀ w ∈ WG, w.before args s = true) (hown : s.vm.findClass "Ballothall$Wards" = some m.cls) (hlocks : meth.locks = false) (hA : ∀ q, s.heap.size ≤ q → A q) (hG : KG z s) (hZ : FZ z A s) (hL : Lay E) (h : Wa_divide_9b E M x1 x2 x3 = some (t, w3, N)) (k0 : t = 0 → ∀ (H : Heap) (locs : List Loc) (ls : Array Slot), va_P z.1 classes (wv z ad E N) H → va_D A (wv z ad E N) → va_S A s.heap H locs → lv_has ls 5 [(0, .ref (ad 219)), (1, .int (oI x1)), (2, .int (oI x2)), (3, .int (oI w3))] → W p l e (rmK 2 67 0 0) s m args below meth c H locs 0 0 Q (F0 m 9 ls [])) (k1 : t = 1 → ∀ (H : Heap) (locs : List Loc) (ls : Array Slot), va_P z.1 classes (wv z ad E N) H → va_D A (wv z ad E N) → va_S A s.heap H locs → lv_has ls 5 [(0, .ref (ad 219)), (1, .int (oI x1)), (2, .int (oI x2))] → W p l e (rmK 2 67 0 0) s m args below meth c H locs 0 0 Q (F0 m 39 ls [])) : ∀ (H : Heap) (locs : List Loc) (ls : Array Slot), va_P z.1 classes (wv z ad E M) H → va_D A (wv z ad E M) → va_S A s.heap H locs → lv_has ls 5 [(0, .ref (ad 219)), (1, .int (oI x1)), (2, .int (oI x2)), (3, .int (oI x3))] → W p l e (rmK 2 67 0 0) s m args below meth c H locs 0 0 Q (F0 m 9 ls []) := by
  intro H locs ls hP hD hS hl
  unfold Wa_divide_9b at h
  refine lv_iload_n hx hb d_12_3_9 rfl (lv_at hl 3 rfl) ?_
  refine lv_aload_n hx hb d_12_3_10 rfl (lv_at hl 0 rfl) ?_
  refine m_gi (C := "Ballothall$Wards") (T := TX10) (N := 5) (ci := 10) (k := 0) hx hb hts iX10 hown hG hP (yi_219 hL) (yt_219 hL) rfl (by decide) w_358 (fun _ h9 => h9) rfl rfl d_12_3_11 ?_
  refine lv_iload_n hx hb d_12_3_14 rfl (lv_at hl 2 rfl) ?_
  refine lv_isub hx hb d_12_3_15 ?_
  refine nrm (oI_sub _ _) ?_
  obtain ⟨ok2, h⟩ := ck_e h
  obtain ⟨ok3, h⟩ := ck_e h
  refine lv_icmp_gt (tgt := 39) hx hb d_12_3_16 (by decide) (fun c9 => ?_) (fun c9 => ?_)
  · have h := ite_t ((oI_lt (a := ((M 219 0) - x2)) (b := x3) ok3 ok2).mp c9) h
    obtain ⟨rfl, rfl, rfl⟩ := in3 h
    exact k1 rfl H locs ls hP hD hS (lv_sub hl [0, 1, 2] rfl)
  · have h := ite_f (fun q => c9 ((oI_lt (a := ((M 219 0) - x2)) (b := x3) ok3 ok2).mpr q)) h
    refine lv_aload_n hx hb d_12_3_19 rfl (lv_at hl 0 rfl) ?_
    refine m_gr (j := 224) (C := "Ballothall$Wards") (T := TX10) (N := 5) (ci := 10) (k := 3) hx hb hts iX10 hown hG hP (yi_219 hL) (yt_219 hL) rfl (by decide) w_362 (fun _ h9 => h9) rfl rfl (yr_219_3 hL) d_12_3_20 ?_
    refine lv_iload_n hx hb d_12_3_23 rfl (lv_at hl 2 rfl) ?_
    obtain ⟨ok4, h⟩ := ck_e h
    refine m_ar (k := (225 + x2.toNat)) hx hb hG hP (yi_224 hL) (yt_224 hL) ok4 (ya_224 hL (inb_lt ok4)) d_12_3_24 ?_
    refine lv_iload_n hx hb d_12_3_25 rfl (lv_at hl 3 rfl) ?_
    refine lv_aload_n hx hb d_12_3_26 rfl (lv_at hl 0 rfl) ?_
    refine lv_iload_n hx hb d_12_3_27 rfl (lv_at hl 2 rfl) ?_
    refine lv_iload_n hx hb d_12_3_28 rfl (lv_at hl 3 rfl) ?_
    obtain ⟨r5, g5, h⟩ := bd_e h
    refine kV (As := [.int (oI x2), .int (oI x3)]) (rest := [.int (oI x3), .ref (ad (225 + x2.toNat))]) (s_Wa_greatestOf l z ad E M x2 x3 r5 hL g5) hx hb hml hown hts w_1625 w_1622 w_1624 w_s_3f5817 w_10 md_a55e97 ⟨Nat.le_of_ble_eq_true rfl, Nat.le_of_ble_eq_true rfl⟩ hG hZ hP hD hS hA 219 (wv_o (ci := 10) (yi_219 hL) (yt_219 hL)) rfl rfl rfl hl.1 rfl (Nat.le_of_ble_eq_true rfl) d_12_3_29 ⟨Nat.le_of_ble_eq_true rfl, Nat.le_of_ble_eq_true rfl⟩ (fun _ H locs hP hD hS => ?_)
    have hP : va_P z.1 classes (wv z ad E M) H := hP
    have hD : va_D A (wv z ad E M) := hD
    refine W.eq (g2 := F0 m 32 ls [.int (oI r5), .int (oI x3), .ref (ad (225 + x2.toNat))]) rfl ?_
    obtain ⟨ok6, h⟩ := ck_e h
    refine m_is hx hb hG hP hD hS (yg_224 hL ok4).1 (yg_224 hL ok4).2 ok6 d_12_3_32 (fun H locs hP hD hS => ?_)
    have hP : va_P z.1 classes (wv z ad E (u2 M (225 + x2.toNat) x3.toNat r5)) H := hP
    have hD : va_D A (wv z ad E (u2 M (225 + x2.toNat) x3.toNat r5)) := hD
    refine lv_iinc (v := oI (x3 + 1)) (lv' := [(3, .int (oI (x3 + 1))), (0, .ref (ad 219)), (1, .int (oI x1)), (2, .int (oI x2))]) hx hb d_12_3_33 hl (k := 3) rfl (oI_add x3 1) (by decide) rfl (fun ls hl => ?_)
    refine lv_goto (tgt := 9) hx hb d_12_3_36 (by decide) ?_
    obtain ⟨rfl, rfl, rfl⟩ := in3 h
    exact k0 rfl H locs ls hP hD hS (lv_sub hl [1, 2, 3, 0] rfl)
set_option maxRecDepth 100000 in
set_option maxHeartbeats 4000000 in
theorem s_Wa_divide_9 (l : Launch) (z : Zz) (ad : Nat → Nat) (E : Ev) (x1 : Int) (x2 : Int) {Q : State → Prop} {p : Program} {e : Env} {s : State} {m : MethodId} {below : List Frame} {meth : Method} {c : Code} {A : Nat → Prop} {args : Array Value} (hx : p.tables.exec = Jvm.exec) (hb : c.code = prog_12_method_3_code) (hml : c.maxLocals = 5) (hts : ∀ w ∈ WG, w.before args s = true) (hown : s.vm.findClass "Ballothall$Wards" = some m.cls) (hlocks : meth.locks = false) (hA : ∀ q, s.heap.size ≤ q → A q) (hG : KG z s) (hZ : FZ z A s) (hL : Lay E) : ∀ (fu : Nat) (M : Mm) (x3 : Int) (t : Nat) (w3 : Int) (N : Mm), l_Wa_divide_9 E x1 x2 fu M x3 = some (t, w3, N) → (t = 1 → ∀ (H : Heap) (locs : List Loc) (ls : Array Slot), va_P z.1 classes (wv z ad E N) H → va_D A (wv z ad E N) → va_S A s.heap H locs → lv_has ls 5 [(0, .ref (ad 219)), (1, .int (oI x1)), (2, .int (oI x2))] → W p l e (rmK 2 67 0 0) s m args below meth c H locs 0 0 Q (F0 m 39 ls [])) → ∀ (H : Heap) (locs : List Loc) (ls : Array Slot), va_P z.1 classes (wv z ad E M) H → va_D A (wv z ad E M) → va_S A s.heap H locs → lv_has ls 5 [(0, .ref (ad 219)), (1, .int (oI x1)), (2, .int (oI x2)), (3, .int (oI x3))] → W p l e (rmK 2 67 0 0) s m args below meth c H locs 0 0 Q (F0 m 9 ls []) := by
  intro fu
  induction fu with
  | zero =>
    intro M x3 t w3 N h
    have h : (none : Option (Nat × Int × Mm)) = some _ := h
    cases h
  | succ fu ih =>
    intro M x3 t w3 N h k1 H locs ls hP hD hS hl
    obtain ⟨⟨t0, w30, N9⟩, g0, h⟩ := bd_e h
    refine b_Wa_divide_9b l z ad E M x1 x2 x3 t0 w30 N9 hx hb hml hts hown hlocks hA hG hZ hL g0 (fun e0 => ?_) (fun e0 => ?_) H locs ls hP hD hS hl
    · subst e0
      have h := ite_t rfl h
      exact ih N9 w30 t w3 N h k1
    · subst e0
      have h := ite_f (by decide) h
      obtain ⟨rfl, rfl, rfl⟩ := in3 h
      exact k1 rfl
set_option maxRecDepth 100000 in
set_option maxHeartbeats 4000000 in
theorem b_Wa_divide_2b (l : Launch) (z : Zz) (ad : Nat → Nat) (E : Ev) (M : Mm) (x1 : Int) (x2 : Int) (t : Nat) (w2 : Int) (N : Mm) {Q : State → Prop} {p : Program} {e : Env} {s : State} {m : MethodId} {below : List Frame} {meth : Method} {c : Code} {A : Nat → Prop} {args : Array Value} (hx : p.tables.exec = Jvm.exec) (hb : c.code = prog_12_method_3_code) (hml : c.maxLocals = 5) (hts : ∀ w ∈ WG, w.before args s = true) (hown : s.vm.findClass "Ballothall$Wards" = some m.cls) (hlocks : meth.locks = false) (hA : ∀ q, s.heap.size ≤ q → A q) (hG : KG z s) (hZ : FZ z A s) (hL : Lay E) (h : Wa_divide_2b E M x1 x2 = some (t, w2, N)) (k0 : t = 0 → ∀ (H : Heap) (locs : List Loc) (ls : Array Slot), va_P z.1 classes (wv z ad E N) H → va_D A (wv z ad E N) → va_S A s.heap H locs → lv_has ls 5 [(0, .ref (ad 219)), (1, .int (oI x1)), (2, .int (oI w2))] → W p l e (rmK 2 67 0 0) s m args below meth c H locs 0 0 Q (F0 m 2 ls [])) (k1 : t = 1 → ∀ (H : Heap) (locs : List Loc) (ls : Array Slot), va_P z.1 classes (wv z ad E N) H → va_D A (wv z ad E N) → va_S A s.heap H locs → lv_has ls 5 [(0, .ref (ad 219)), (1, .int (oI x1))] → W p l e (rmK 2 67 0 0) s m args below meth c H locs 0 0 Q (F0 m 45 ls [])) : ∀ (H : Heap) (locs : List Loc) (ls : Array Slot), va_P z.1 classes (wv z ad E M) H → va_D A (wv z ad E M) → va_S A s.heap H locs → lv_has ls 5 [(0, .ref (ad 219)), (1, .int (oI x1)), (2, .int (oI x2))] → W p l e (rmK 2 67 0 0) s m args below meth c H locs 0 0 Q (F0 m 2 ls []) := by
  intro H locs ls hP hD hS hl
  unfold Wa_divide_2b at h
  refine lv_iload_n hx hb d_12_3_2 rfl (lv_at hl 2 rfl) ?_
  refine lv_iload_n hx hb d_12_3_3 rfl (lv_at hl 1 rfl) ?_
  obtain ⟨ok0, h⟩ := ck_e h
  obtain ⟨ok1, h⟩ := ck_e h
  refine lv_icmp_gt (tgt := 45) hx hb d_12_3_4 (by decide) (fun c9 => ?_) (fun c9 => ?_)
  · have h := ite_t ((oI_lt (a := x1) (b := x2) ok1 ok0).mp c9) h
    obtain ⟨rfl, rfl, rfl⟩ := in3 h
    exact k1 rfl H locs ls hP hD hS (lv_sub hl [0, 1] rfl)
  · have h := ite_f (fun q => c9 ((oI_lt (a := x1) (b := x2) ok1 ok0).mpr q)) h
    refine lv_iconst (v := oI 0) hx hb d_12_3_7 (by decide +kernel) ?_
    refine lv_istore_n (lv' := [(3, .int (oI 0)), (0, .ref (ad 219)), (1, .int (oI x1)), (2, .int (oI x2))]) hx hb d_12_3_8 rfl hl (by decide) rfl (fun ls hl => ?_)
    obtain ⟨⟨t7, v7_3, M7⟩, g7, h⟩ := bd_e h
    obtain ⟨ok7, h⟩ := ck_e h
    refine s_Wa_divide_9 l z ad E x1 x2 hx hb hml hts hown hlocks hA hG hZ hL FU M 0 t7 v7_3 M7 g7 (fun e7 H locs ls hP hD hS hl => ?_) H locs ls hP hD hS (lv_sub hl [1, 2, 3, 0] rfl)
    refine lv_iinc (v := oI (x2 + 1)) (lv' := [(2, .int (oI (x2 + 1))), (0, .ref (ad 219)), (1, .int (oI x1))]) hx hb d_12_3_39 hl (k := 2) rfl (oI_add x2 1) (by decide) rfl (fun ls hl => ?_)
    refine lv_goto (tgt := 2) hx hb d_12_3_42 (by decide) ?_
    obtain ⟨rfl, rfl, rfl⟩ := in3 h
    exact k0 rfl H locs ls hP hD hS (lv_sub hl [1, 2, 0] rfl)
set_option maxRecDepth 100000 in
set_option maxHeartbeats 4000000 in
theorem s_Wa_divide_2 (l : Launch) (z : Zz) (ad : Nat → Nat) (E : Ev) (x1 : Int) {Q : State → Prop} {p : Program} {e : Env} {s : State} {m : MethodId} {below : List Frame} {meth : Method} {c : Code} {A : Nat → Prop} {args : Array Value} (hx : p.tables.exec = Jvm.exec) (hb : c.code = prog_12_method_3_code) (hml : c.maxLocals = 5) (hts : ∀ w ∈ WG, w.before args s = true) (hown : s.vm.findClass "Ballothall$Wards" = some m.cls) (hlocks : meth.locks = false) (hA : ∀ q, s.heap.size ≤ q → A q) (hG : KG z s) (hZ : FZ z A s) (hL : Lay E) : ∀ (fu : Nat) (M : Mm) (x2 : Int) (t : Nat) (w2 : Int) (N : Mm), l_Wa_divide_2 E x1 fu M x2 = some (t, w2, N) → (t = 1 → ∀ (H : Heap) (locs : List Loc) (ls : Array Slot), va_P z.1 classes (wv z ad E N) H → va_D A (wv z ad E N) → va_S A s.heap H locs → lv_has ls 5 [(0, .ref (ad 219)), (1, .int (oI x1))] → W p l e (rmK 2 67 0 0) s m args below meth c H locs 0 0 Q (F0 m 45 ls [])) → ∀ (H : Heap) (locs : List Loc) (ls : Array Slot), va_P z.1 classes (wv z ad E M) H → va_D A (wv z ad E M) → va_S A s.heap H locs → lv_has ls 5 [(0, .ref (ad 219)), (1, .int (oI x1)), (2, .int (oI x2))] → W p l e (rmK 2 67 0 0) s m args below meth c H locs 0 0 Q (F0 m 2 ls []) := by
  intro fu
  induction fu with
  | zero =>
    intro M x2 t w2 N h
    have h : (none : Option (Nat × Int × Mm)) = some _ := h
    cases h
  | succ fu ih =>
    intro M x2 t w2 N h k1 H locs ls hP hD hS hl
    obtain ⟨⟨t0, w20, N9⟩, g0, h⟩ := bd_e h
    refine b_Wa_divide_2b l z ad E M x1 x2 t0 w20 N9 hx hb hml hts hown hlocks hA hG hZ hL g0 (fun e0 => ?_) (fun e0 => ?_) H locs ls hP hD hS hl
    · subst e0
      have h := ite_t rfl h
      exact ih N9 w20 t w2 N h k1
    · subst e0
      have h := ite_f (by decide) h
      obtain ⟨rfl, rfl, rfl⟩ := in3 h
      exact k1 rfl
set_option maxRecDepth 100000 in
set_option maxHeartbeats 4000000 in
theorem b_Wa_divide_59b (l : Launch) (z : Zz) (ad : Nat → Nat) (E : Ev) (M : Mm) (x1 : Int) (x2 : Int) (x3 : Int) (x4 : Int) (t : Nat) (w3 : Int) (w4 : Int) (N : Mm) {Q : State → Prop} {p : Program} {e : Env} {s : State} {m : MethodId} {below : List Frame} {meth : Method} {c : Code} {A : Nat → Prop} {args : Array Value} (hx : p.tables.exec = Jvm.exec) (hb : c.code = prog_12_method_3_code) (hml : c.maxLocals = 5) (hts : ∀ w ∈ WG, w.before args s = true) (hown : s.vm.findClass "Ballothall$Wards" = some m.cls) (hlocks : meth.locks = false) (hA : ∀ q, s.heap.size ≤ q → A q) (hG : KG z s) (hZ : FZ z A s) (hL : Lay E) (h : Wa_divide_59b E M x1 x2 x3 x4 = some (t, w3, w4, N)) (k0 : t = 0 → ∀ (H : Heap) (locs : List Loc) (ls : Array Slot), va_P z.1 classes (wv z ad E N) H → va_D A (wv z ad E N) → va_S A s.heap H locs → lv_has ls 5 [(0, .ref (ad 219)), (1, .int (oI x1)), (2, .int (oI x2)), (3, .int (oI w3)), (4, .int (oI w4))] → W p l e (rmK 2 67 0 0) s m args below meth c H locs 0 0 Q (F0 m 59 ls [])) (k1 : t = 1 → ∀ (H : Heap) (locs : List Loc) (ls : Array Slot), va_P z.1 classes (wv z ad E N) H → va_D A (wv z ad E N) → va_S A s.heap H locs → lv_has ls 5 [(2, .int (oI x2))] → W p l e (rmK 2 67 0 0) s m args below meth c H locs 0 0 Q (F0 m 98 ls [])) : ∀ (H : Heap) (locs : List Loc) (ls : Array Slot), va_P z.1 classes (wv z ad E M) H → va_D A (wv z ad E M) → va_S A s.heap H locs → lv_has ls 5 [(0, .ref (ad 219)), (1, .int (oI x1)), (2, .int (oI x2)), (3, .int (oI x3)), (4, .int (oI x4))] → W p l e (rmK 2 67 0 0) s m args below meth c H locs 0 0 Q (F0 m 59 ls []) := by
  intro H locs ls hP hD hS hl
  unfold Wa_divide_59b at h
  refine lv_iload hx hb d_12_3_59 (lv_at hl 4 rfl) ?_
  refine lv_iload_n hx hb d_12_3_61 rfl (lv_at hl 1 rfl) ?_
  obtain ⟨ok10, h⟩ := ck_e h
  obtain ⟨ok11, h⟩ := ck_e h
  refine lv_icmp_ge (tgt := 98) hx hb d_12_3_62 (by decide) (fun c9 => ?_) (fun c9 => ?_)
  · have h := ite_t ((oI_le (a := x1) (b := x4) ok11 ok10).mp c9) h
    obtain ⟨rfl, rfl, rfl, rfl⟩ := in4 h
    exact k1 rfl H locs ls hP hD hS (lv_sub hl [2] rfl)
  · have h := ite_f (fun q => c9 ((oI_le (a := x1) (b := x4) ok11 ok10).mpr q)) h
    refine lv_aload_n hx hb d_12_3_65 rfl (lv_at hl 0 rfl) ?_
    refine m_gr (j := 242) (C := "Ballothall$Wards") (T := TX10) (N := 5) (ci := 10) (k := 4) hx hb hts iX10 hown hG hP (yi_219 hL) (yt_219 hL) rfl (by decide) w_363 (fun _ h9 => h9) rfl rfl (yr_219_4 hL) d_12_3_66 ?_
    refine lv_iload hx hb d_12_3_69 (lv_at hl 4 rfl) ?_
    refine lv_aload_n hx hb d_12_3_71 rfl (lv_at hl 0 rfl) ?_
    refine lv_iload_n hx hb d_12_3_72 rfl (lv_at hl 3 rfl) ?_
    refine lv_iload_n hx hb d_12_3_73 rfl (lv_at hl 1 rfl) ?_
    refine lv_iload hx hb d_12_3_74 (lv_at hl 4 rfl) ?_
    refine lv_isub hx hb d_12_3_76 ?_
    refine nrm (oI_sub _ _) ?_
    refine lv_iload_n hx hb d_12_3_77 rfl (lv_at hl 2 rfl) ?_
    obtain ⟨r12, g12, h⟩ := bd_e h
    refine kV (As := [.int (oI x3), .int (oI (x1 - x4)), .int (oI x2)]) (rest := [.int (oI x4), .ref (ad 242)]) (s_Wa_firstEnd l z ad E M x3 (x1 - x4) x2 r12 hL g12) hx hb hml hown hts w_1636 w_1633 w_1635 w_s_2e2987 w_10 md_f62da8 ⟨Nat.le_of_ble_eq_true rfl, Nat.le_of_ble_eq_true rfl⟩ hG hZ hP hD hS hA 219 (wv_o (ci := 10) (yi_219 hL) (yt_219 hL)) rfl rfl rfl hl.1 rfl (Nat.le_of_ble_eq_true rfl) d_12_3_78 ⟨Nat.le_of_ble_eq_true rfl, Nat.le_of_ble_eq_true rfl⟩ (fun _ H locs hP hD hS => ?_)
    have hP : va_P z.1 classes (wv z ad E M) H := hP
    have hD : va_D A (wv z ad E M) := hD
    refine W.eq (g2 := F0 m 81 ls [.int (oI r12), .int (oI x4), .ref (ad 242)]) rfl ?_
    obtain ⟨ok13, h⟩ := ck_e h
    refine m_is hx hb hG hP hD hS (yi_242 hL) (yt_242 hL) ok13 d_12_3_81 (fun H locs hP hD hS => ?_)
    have hP : va_P z.1 classes (wv z ad E (u2 M 242 x4.toNat r12)) H := hP
    have hD : va_D A (wv z ad E (u2 M 242 x4.toNat r12)) := hD
    refine lv_aload_n hx hb d_12_3_82 rfl (lv_at hl 0 rfl) ?_
    refine m_gr (j := 242) (C := "Ballothall$Wards") (T := TX10) (N := 5) (ci := 10) (k := 4) hx hb hts iX10 hown hG hP (yi_219 hL) (yt_219 hL) rfl (by decide) w_363 (fun _ h9 => h9) rfl rfl (yr_219_4 hL) d_12_3_83 ?_
    refine lv_iload hx hb d_12_3_86 (lv_at hl 4 rfl) ?_
    refine m_ia hx hb hG hP (yi_242 hL) (yt_242 hL) ok13 d_12_3_88 ?_
    refine lv_iconst (v := oI 1) hx hb d_12_3_89 (by decide +kernel) ?_
    refine lv_iadd hx hb d_12_3_90 ?_
    refine nrm (oI_add _ _) ?_
    obtain ⟨v14, e14, h⟩ := nb_e h
    refine nrm (congrArg oI e14.symm) ?_
    refine lv_istore_n (lv' := [(3, .int (oI v14)), (0, .ref (ad 219)), (1, .int (oI x1)), (2, .int (oI x2)), (4, .int (oI x4))]) hx hb d_12_3_91 rfl hl (by decide) rfl (fun ls hl => ?_)
    refine lv_iinc (v := oI (x4 + 1)) (lv' := [(4, .int (oI (x4 + 1))), (3, .int (oI v14)), (0, .ref (ad 219)), (1, .int (oI x1)), (2, .int (oI x2))]) hx hb d_12_3_92 hl (k := 4) rfl (oI_add x4 1) (by decide) rfl (fun ls hl => ?_)
    refine lv_goto (tgt := 59) hx hb d_12_3_95 (by decide) ?_
    obtain ⟨rfl, rfl, rfl, rfl⟩ := in4 h
    exact k0 rfl H locs ls hP hD hS (lv_sub hl [2, 3, 4, 1, 0] rfl)
set_option maxRecDepth 100000 in
set_option maxHeartbeats 4000000 in
theorem s_Wa_divide_59 (l : Launch) (z : Zz) (ad : Nat → Nat) (E : Ev) (x1 : Int) (x2 : Int) {Q : State → Prop} {p : Program} {e : Env} {s : State} {m : MethodId} {below : List Frame} {meth : Method} {c : Code} {A : Nat → Prop} {args : Array Value} (hx : p.tables.exec = Jvm.exec) (hb : c.code = prog_12_method_3_code) (hml : c.maxLocals = 5) (hts : ∀ w ∈ WG, w.before args s = true) (hown : s.vm.findClass "Ballothall$Wards" = some m.cls) (hlocks : meth.locks = false) (hA : ∀ q, s.heap.size ≤ q → A q) (hG : KG z s) (hZ : FZ z A s) (hL : Lay E) : ∀ (fu : Nat) (M : Mm) (x3 : Int) (x4 : Int) (t : Nat) (w3 : Int) (w4 : Int) (N : Mm), l_Wa_divide_59 E x1 x2 fu M x3 x4 = some (t, w3, w4, N) → (t = 1 → ∀ (H : Heap) (locs : List Loc) (ls : Array Slot), va_P z.1 classes (wv z ad E N) H → va_D A (wv z ad E N) → va_S A s.heap H locs → lv_has ls 5 [(2, .int (oI x2))] → W p l e (rmK 2 67 0 0) s m args below meth c H locs 0 0 Q (F0 m 98 ls [])) → ∀ (H : Heap) (locs : List Loc) (ls : Array Slot), va_P z.1 classes (wv z ad E M) H → va_D A (wv z ad E M) → va_S A s.heap H locs → lv_has ls 5 [(0, .ref (ad 219)), (1, .int (oI x1)), (2, .int (oI x2)), (3, .int (oI x3)), (4, .int (oI x4))] → W p l e (rmK 2 67 0 0) s m args below meth c H locs 0 0 Q (F0 m 59 ls []) := by
  intro fu
  induction fu with
  | zero =>
    intro M x3 x4 t w3 w4 N h
    have h : (none : Option (Nat × Int × Int × Mm)) = some _ := h
    cases h
  | succ fu ih =>
    intro M x3 x4 t w3 w4 N h k1 H locs ls hP hD hS hl
    obtain ⟨⟨t0, w30, w40, N9⟩, g0, h⟩ := bd_e h
    refine b_Wa_divide_59b l z ad E M x1 x2 x3 x4 t0 w30 w40 N9 hx hb hml hts hown hlocks hA hG hZ hL g0 (fun e0 => ?_) (fun e0 => ?_) H locs ls hP hD hS hl
    · subst e0
      have h := ite_t rfl h
      exact ih N9 w30 w40 t w3 w4 N h k1
    · subst e0
      have h := ite_f (by decide) h
      obtain ⟨rfl, rfl, rfl, rfl⟩ := in4 h
      exact k1 rfl
set_option maxRecDepth 100000 in
set_option maxHeartbeats 4000000 in
theorem s_Wa_divide (l : Launch) (z : Zz) (ad : Nat → Nat) (E : Ev) (M : Mm) (x1 : Int) (r : Int) (N : Mm) (hL : Lay E) (h : f_Wa_divide E M x1 = some (r, N)) : CT l z ⟨"Ballothall$Wards", "divide", "(I)I"⟩ prog_12_method_3_code 5 (some .int) [.ref (ad 219), .int (oI x1)] (wv z ad E M) 2 67 0 0 (fun _ => some (.int (oI r))) (fun _ => (wv z ad E N)) := by
  refine CT.of (own := "Ballothall$Wards") (by decide +kernel) (Nat.le_of_ble_eq_true rfl) rfl (fun p e s m below meth c A ls hx hb hml hr hts hown hlocks hin hA hG hZ hP hD hS hl => ?_)
  have hl : lv_has ls 5 [(0, .ref (ad 219)), (1, .int (oI x1))] := hl
  have key : ∀ (H : Heap) (locs : List Loc) (args : Array Value), (∀ w ∈ WG, w.before args s = true) → va_P z.1 classes (wv z ad E M) H → va_S A s.heap H locs → W p l e (rmK 2 67 0 0) s m args below meth c H locs 0 0 (MQ below (QK z A (fun _ => some (.int (oI r))) (fun _ => (wv z ad E N))) args s 0 0 A) (F0 m 0 ls []) := by
    intro H locs args hts hP hS
    unfold f_Wa_divide at h
    refine lv_iconst (v := oI 1) hx hb d_12_3_0 (by decide +kernel) ?_
    refine lv_istore_n (lv' := [(2, .int (oI 1)), (0, .ref (ad 219)), (1, .int (oI x1))]) hx hb d_12_3_1 rfl hl (by decide) rfl (fun ls hl => ?_)
    obtain ⟨⟨t8, v8_2, M8⟩, g8, h⟩ := bd_e h
    obtain ⟨ok8, h⟩ := ck_e h
    refine s_Wa_divide_2 l z ad E x1 hx hb hml hts hown hlocks hA hG hZ hL FU M 1 t8 v8_2 M8 g8 (fun e8 H locs ls hP hD hS hl => ?_) H locs ls hP hD hS (lv_sub hl [1, 2, 0] rfl)
    refine lv_aload_n hx hb d_12_3_45 rfl (lv_at hl 0 rfl) ?_
    refine m_gr (j := 224) (C := "Ballothall$Wards") (T := TX10) (N := 5) (ci := 10) (k := 3) hx hb hts iX10 hown hG hP (yi_219 hL) (yt_219 hL) rfl (by decide) w_362 (fun _ h9 => h9) rfl rfl (yr_219_3 hL) d_12_3_46 ?_
    refine lv_iload_n hx hb d_12_3_49 rfl (lv_at hl 1 rfl) ?_
    obtain ⟨ok9, h⟩ := ck_e h
    refine m_ar (k := (225 + x1.toNat)) hx hb hG hP (yi_224 hL) (yt_224 hL) ok9 (ya_224 hL (inb_lt ok9)) d_12_3_50 ?_
    refine lv_iconst (v := oI 0) hx hb d_12_3_51 (by decide +kernel) ?_
    refine m_ia hx hb hG hP (yg_224 hL ok9).1 (yg_224 hL ok9).2 (by decide +kernel) d_12_3_52 ?_
    refine nrm (x1 := oI (M8 (225 + x1.toNat) 0)) rfl ?_
    refine lv_istore_n (lv' := [(2, .int (oI (M8 (225 + x1.toNat) 0))), (0, .ref (ad 219)), (1, .int (oI x1))]) hx hb d_12_3_53 rfl hl (by decide) rfl (fun ls hl => ?_)
    refine lv_iconst (v := oI 0) hx hb d_12_3_54 (by decide +kernel) ?_
    refine lv_istore_n (lv' := [(3, .int (oI 0)), (2, .int (oI (M8 (225 + x1.toNat) 0))), (0, .ref (ad 219)), (1, .int (oI x1))]) hx hb d_12_3_55 rfl hl (by decide) rfl (fun ls hl => ?_)
    refine lv_iconst (v := oI 0) hx hb d_12_3_56 (by decide +kernel) ?_
    refine lv_istore (lv' := [(4, .int (oI 0)), (3, .int (oI 0)), (2, .int (oI (M8 (225 + x1.toNat) 0))), (0, .ref (ad 219)), (1, .int (oI x1))]) hx hb d_12_3_57 hl (by decide) rfl (fun ls hl => ?_)
    obtain ⟨⟨t15, v15_3, v15_4, M15⟩, g15, h⟩ := bd_e h
    obtain ⟨ok15, h⟩ := ck_e h
    refine s_Wa_divide_59 l z ad E x1 (M8 (225 + x1.toNat) 0) hx hb hml hts hown hlocks hA hG hZ hL FU M8 0 0 t15 v15_3 v15_4 M15 g15 (fun e15 H locs ls hP hD hS hl => ?_) H locs ls hP hD hS (lv_sub hl [3, 4, 2, 1, 0] rfl)
    refine lv_iload_n hx hb d_12_3_98 rfl (lv_at hl 0 rfl) ?_
    obtain ⟨rfl, rfl⟩ := in2 h
    exact W.iret hx hb hr (fun t ht hW => qkA hP hD hS (fun k => k) rfl rfl ht) hS.2.2 d_12_3_99
  exact key _ _ _ hts hP hS
set_option maxRecDepth 100000 in
set_option maxHeartbeats 4000000 in
theorem s_B_greatestDistrict (l : Launch) (z : Zz) (ad : Nat → Nat) (E : Ev) (M : Mm) (x1 : Int) (r : Int) (N : Mm) (hL : Lay E) (h : f_B_greatestDistrict E M x1 = some (r, N)) : CT l z ⟨"Ballothall", "greatestDistrict", "(I)I"⟩ prog_1_method_42_code 2 (some .int) [.ref (ad 1), .int (oI x1)] (wv z ad E M) 3 91 0 0 (fun _ => some (.int (oI r))) (fun _ => (wv z ad E N)) := by
  refine CT.of (own := "Ballothall") (by decide +kernel) (Nat.le_of_ble_eq_true rfl) rfl (fun p e s m below meth c A ls hx hb hml hr hts hown hlocks hin hA hG hZ hP hD hS hl => ?_)
  have hl : lv_has ls 2 [(0, .ref (ad 1)), (1, .int (oI x1))] := hl
  have key : ∀ (H : Heap) (locs : List Loc) (args : Array Value), (∀ w ∈ WG, w.before args s = true) → va_P z.1 classes (wv z ad E M) H → va_S A s.heap H locs → W p l e (rmK 3 91 0 0) s m args below meth c H locs 0 0 (MQ below (QK z A (fun _ => some (.int (oI r))) (fun _ => (wv z ad E N))) args s 0 0 A) (F0 m 0 ls []) := by
    intro H locs args hts hP hS
    unfold f_B_greatestDistrict at h
    refine lv_iload_n hx hb d_1_42_0 rfl (lv_at hl 1 rfl) ?_
    refine lv_iconst (v := oI 1) hx hb d_1_42_1 (by decide +kernel) ?_
    refine lv_aload_n hx hb d_1_42_2 rfl (lv_at hl 0 rfl) ?_
    refine m_gr (j := 219) (C := "Ballothall") (T := TX11) (N := 14) (ci := 11) (k := 5) hx hb hts iX11 hown hG hP (yi_1 hL) (yt_1 hL) rfl (by decide) w_402 (fun _ h9 => h9) rfl rfl (yr_1_5 hL) d_1_42_3 ?_
    refine m_giN (C := "Ballothall$Wards") (T := TX10) (N := 5) (ci := 10) (k := 0) hx hb hts iX10 hown hG hP (yi_219 hL) (yt_219 hL) rfl (by decide) n_359 rfl (fun _ h9 => h9) rfl rfl d_1_42_6 ?_
    obtain ⟨_, g0, h⟩ := bd_e h
    refine kS (As := [.int (oI x1), .int (oI 1), .int (oI (M 219 0))]) (rest := []) (s_B_needRange l z ad E M x1 1 (M 219 0) hL g0) hx hb hml hown hts w_548 w_546 w_547 w_1 md_519134 ⟨Nat.le_of_ble_eq_true rfl, Nat.le_of_ble_eq_true rfl⟩ hG hZ hP hD hS hA rfl hl.1 rfl (Nat.le_of_ble_eq_true rfl) d_1_42_9 ⟨Nat.le_of_ble_eq_true rfl, Nat.le_of_ble_eq_true rfl⟩ (fun _ H locs hP hD hS => ?_)
    have hP : va_P z.1 classes (wv z ad E M) H := hP
    have hD : va_D A (wv z ad E M) := hD
    refine W.eq (g2 := F0 m 12 ls []) rfl ?_
    refine lv_aload_n hx hb d_1_42_12 rfl (lv_at hl 0 rfl) ?_
    refine m_gr (j := 219) (C := "Ballothall") (T := TX11) (N := 14) (ci := 11) (k := 5) hx hb hts iX11 hown hG hP (yi_1 hL) (yt_1 hL) rfl (by decide) w_402 (fun _ h9 => h9) rfl rfl (yr_1_5 hL) d_1_42_13 ?_
    refine lv_iload_n hx hb d_1_42_16 rfl (lv_at hl 1 rfl) ?_
    obtain ⟨⟨r1, M1⟩, g1, h⟩ := bd_e h
    refine kVN (As := [.int (oI x1)]) (rest := []) (s_Wa_divide l z ad E M x1 r1 M1 hL g1) hx hb hml hown hts w_1621 n_1618 w_1620 w_s_af9e07 w_10 md_d7e64c ⟨Nat.le_of_ble_eq_true rfl, Nat.le_of_ble_eq_true rfl⟩ hG hZ hP hD hS hA 219 (wv_o (ci := 10) (yi_219 hL) (yt_219 hL)) rfl rfl rfl hl.1 rfl (Nat.le_of_ble_eq_true rfl) d_1_42_17 ⟨Nat.le_of_ble_eq_true rfl, Nat.le_of_ble_eq_true rfl⟩ (fun _ H locs hP hD hS => ?_)
    have hP : va_P z.1 classes (wv z ad E M1) H := hP
    have hD : va_D A (wv z ad E M1) := hD
    refine W.eq (g2 := F0 m 20 ls [.int (oI r1)]) rfl ?_
    obtain ⟨rfl, rfl⟩ := in2 h
    exact W.iret hx hb hr (fun t ht hW => qkA hP hD hS (fun k => k) rfl rfl ht) hS.2.2 d_1_42_20
  exact key _ _ _ hts hP hS
set_option maxRecDepth 100000 in
set_option maxHeartbeats 4000000 in
theorem s_B_districtEnd (l : Launch) (z : Zz) (ad : Nat → Nat) (E : Ev) (M : Mm) (x1 : Int) (x2 : Int) (r : Int) (N : Mm) (hL : Lay E) (h : f_B_districtEnd E M x1 x2 = some (r, N)) : CT l z ⟨"Ballothall", "districtEnd", "(II)I"⟩ prog_1_method_43_code 3 (some .int) [.ref (ad 1), .int (oI x1), .int (oI x2)] (wv z ad E M) 3 91 0 0 (fun _ => some (.int (oI r))) (fun _ => (wv z ad E N)) := by
  refine CT.of (own := "Ballothall") (by decide +kernel) (Nat.le_of_ble_eq_true rfl) rfl (fun p e s m below meth c A ls hx hb hml hr hts hown hlocks hin hA hG hZ hP hD hS hl => ?_)
  have hl : lv_has ls 3 [(0, .ref (ad 1)), (1, .int (oI x1)), (2, .int (oI x2))] := hl
  have key : ∀ (H : Heap) (locs : List Loc) (args : Array Value), (∀ w ∈ WG, w.before args s = true) → va_P z.1 classes (wv z ad E M) H → va_S A s.heap H locs → W p l e (rmK 3 91 0 0) s m args below meth c H locs 0 0 (MQ below (QK z A (fun _ => some (.int (oI r))) (fun _ => (wv z ad E N))) args s 0 0 A) (F0 m 0 ls []) := by
    intro H locs args hts hP hS
    unfold f_B_districtEnd at h
    refine lv_iload_n hx hb d_1_43_0 rfl (lv_at hl 1 rfl) ?_
    refine lv_iconst (v := oI 1) hx hb d_1_43_1 (by decide +kernel) ?_
    refine lv_aload_n hx hb d_1_43_2 rfl (lv_at hl 0 rfl) ?_
    refine m_gr (j := 219) (C := "Ballothall") (T := TX11) (N := 14) (ci := 11) (k := 5) hx hb hts iX11 hown hG hP (yi_1 hL) (yt_1 hL) rfl (by decide) w_402 (fun _ h9 => h9) rfl rfl (yr_1_5 hL) d_1_43_3 ?_
    refine m_giN (C := "Ballothall$Wards") (T := TX10) (N := 5) (ci := 10) (k := 0) hx hb hts iX10 hown hG hP (yi_219 hL) (yt_219 hL) rfl (by decide) n_359 rfl (fun _ h9 => h9) rfl rfl d_1_43_6 ?_
    obtain ⟨_, g0, h⟩ := bd_e h
    refine kS (As := [.int (oI x1), .int (oI 1), .int (oI (M 219 0))]) (rest := []) (s_B_needRange l z ad E M x1 1 (M 219 0) hL g0) hx hb hml hown hts w_548 w_546 w_547 w_1 md_519134 ⟨Nat.le_of_ble_eq_true rfl, Nat.le_of_ble_eq_true rfl⟩ hG hZ hP hD hS hA rfl hl.1 rfl (Nat.le_of_ble_eq_true rfl) d_1_43_9 ⟨Nat.le_of_ble_eq_true rfl, Nat.le_of_ble_eq_true rfl⟩ (fun _ H locs hP hD hS => ?_)
    have hP : va_P z.1 classes (wv z ad E M) H := hP
    have hD : va_D A (wv z ad E M) := hD
    refine W.eq (g2 := F0 m 12 ls []) rfl ?_
    refine lv_iload_n hx hb d_1_43_12 rfl (lv_at hl 2 rfl) ?_
    refine lv_iload_n hx hb d_1_43_13 rfl (lv_at hl 1 rfl) ?_
    obtain ⟨_, g1, h⟩ := bd_e h
    refine kS (As := [.int (oI x2), .int (oI x1)]) (rest := []) (s_B_needPlace l z ad E M x2 x1 hL g1) hx hb hml hown hts w_1343 w_1341 w_1342 w_1 md_541664 ⟨Nat.le_of_ble_eq_true rfl, Nat.le_of_ble_eq_true rfl⟩ hG hZ hP hD hS hA rfl hl.1 rfl (Nat.le_of_ble_eq_true rfl) d_1_43_14 ⟨Nat.le_of_ble_eq_true rfl, Nat.le_of_ble_eq_true rfl⟩ (fun _ H locs hP hD hS => ?_)
    have hP : va_P z.1 classes (wv z ad E M) H := hP
    have hD : va_D A (wv z ad E M) := hD
    refine W.eq (g2 := F0 m 17 ls []) rfl ?_
    refine lv_aload_n hx hb d_1_43_17 rfl (lv_at hl 0 rfl) ?_
    refine m_gr (j := 219) (C := "Ballothall") (T := TX11) (N := 14) (ci := 11) (k := 5) hx hb hts iX11 hown hG hP (yi_1 hL) (yt_1 hL) rfl (by decide) w_402 (fun _ h9 => h9) rfl rfl (yr_1_5 hL) d_1_43_18 ?_
    refine lv_iload_n hx hb d_1_43_21 rfl (lv_at hl 1 rfl) ?_
    obtain ⟨⟨r2, M2⟩, g2, h⟩ := bd_e h
    refine kVN (As := [.int (oI x1)]) (rest := []) (s_Wa_divide l z ad E M x1 r2 M2 hL g2) hx hb hml hown hts w_1621 n_1618 w_1620 w_s_af9e07 w_10 md_d7e64c ⟨Nat.le_of_ble_eq_true rfl, Nat.le_of_ble_eq_true rfl⟩ hG hZ hP hD hS hA 219 (wv_o (ci := 10) (yi_219 hL) (yt_219 hL)) rfl rfl rfl hl.1 rfl (Nat.le_of_ble_eq_true rfl) d_1_43_22 ⟨Nat.le_of_ble_eq_true rfl, Nat.le_of_ble_eq_true rfl⟩ (fun _ H locs hP hD hS => ?_)
    have hP : va_P z.1 classes (wv z ad E M2) H := hP
    have hD : va_D A (wv z ad E M2) := hD
    refine W.eq (g2 := F0 m 25 ls [.int (oI r2)]) rfl ?_
    refine lv_pop hx hb d_1_43_25 rfl ?_
    refine lv_aload_n hx hb d_1_43_26 rfl (lv_at hl 0 rfl) ?_
    refine m_gr (j := 219) (C := "Ballothall") (T := TX11) (N := 14) (ci := 11) (k := 5) hx hb hts iX11 hown hG hP (yi_1 hL) (yt_1 hL) rfl (by decide) w_402 (fun _ h9 => h9) rfl rfl (yr_1_5 hL) d_1_43_27 ?_
    refine m_grN (j := 242) (C := "Ballothall$Wards") (T := TX10) (N := 5) (ci := 10) (k := 4) hx hb hts iX10 hown hG hP (yi_219 hL) (yt_219 hL) rfl (by decide) n_364 rfl (fun _ h9 => h9) rfl rfl (yr_219_4 hL) d_1_43_30 ?_
    refine lv_iload_n hx hb d_1_43_33 rfl (lv_at hl 2 rfl) ?_
    obtain ⟨ok3, h⟩ := ck_e h
    refine m_ia hx hb hG hP (yi_242 hL) (yt_242 hL) ok3 d_1_43_34 ?_
    obtain ⟨rfl, rfl⟩ := in2 h
    exact W.iret hx hb hr (fun t ht hW => qkA hP hD hS (fun k => k) rfl rfl ht) hS.2.2 d_1_43_35
  exact key _ _ _ hts hP hS
set_option maxRecDepth 100000 in
set_option maxHeartbeats 4000000 in
theorem b_Wa_votesIn_22b (l : Launch) (z : Zz) (ad : Nat → Nat) (E : Ev) (M : Mm) (x1 : Int) (x2 : Int) (x3 : Int) (x4 : Int) (t : Nat) (w3 : Int) (w4 : Int)  {Q : State → Prop} {p : Program} {e : Env} {s : State} {m : MethodId} {below : List Frame} {meth : Method} {c : Code} {A : Nat → Prop} {args : Array Value} (hx : p.tables.exec = Jvm.exec) (hb : c.code = prog_12_method_7_code) (hml : c.maxLocals = 5) (hts : ∀ w ∈ WG, w.before args s = true) (hown : s.vm.findClass "Ballothall$Wards" = some m.cls) (hlocks : meth.locks = false) (hA : ∀ q, s.heap.size ≤ q → A q) (hG : KG z s) (hZ : FZ z A s) (hL : Lay E) (h : Wa_votesIn_22b E M x1 x2 x3 x4 = some (t, w3, w4)) (k0 : t = 0 → ∀ (H : Heap) (locs : List Loc) (ls : Array Slot), va_P z.1 classes (wv z ad E M) H → va_D A (wv z ad E M) → va_S A s.heap H locs → lv_has ls 5 [(0, .ref (ad 219)), (1, .int (oI x1)), (2, .int (oI x2)), (3, .int (oI w3)), (4, .int (oI w4))] → W p l e (rmK 0 20 0 0) s m args below meth c H locs 0 0 Q (F0 m 22 ls [])) (k1 : t = 1 → ∀ (H : Heap) (locs : List Loc) (ls : Array Slot), va_P z.1 classes (wv z ad E M) H → va_D A (wv z ad E M) → va_S A s.heap H locs → lv_has ls 5 [(3, .int (oI w3))] → W p l e (rmK 0 20 0 0) s m args below meth c H locs 0 0 Q (F0 m 51 ls [])) : ∀ (H : Heap) (locs : List Loc) (ls : Array Slot), va_P z.1 classes (wv z ad E M) H → va_D A (wv z ad E M) → va_S A s.heap H locs → lv_has ls 5 [(0, .ref (ad 219)), (1, .int (oI x1)), (2, .int (oI x2)), (3, .int (oI x3)), (4, .int (oI x4))] → W p l e (rmK 0 20 0 0) s m args below meth c H locs 0 0 Q (F0 m 22 ls []) := by
  intro H locs ls hP hD hS hl
  unfold Wa_votesIn_22b at h
  refine lv_iload hx hb d_12_7_22 (lv_at hl 4 rfl) ?_
  refine lv_aload_n hx hb d_12_7_24 rfl (lv_at hl 0 rfl) ?_
  refine m_gr (j := 242) (C := "Ballothall$Wards") (T := TX10) (N := 5) (ci := 10) (k := 4) hx hb hts iX10 hown hG hP (yi_219 hL) (yt_219 hL) rfl (by decide) w_363 (fun _ h9 => h9) rfl rfl (yr_219_4 hL) d_12_7_25 ?_
  refine lv_iload_n hx hb d_12_7_28 rfl (lv_at hl 1 rfl) ?_
  obtain ⟨ok2, h⟩ := ck_e h
  refine m_ia hx hb hG hP (yi_242 hL) (yt_242 hL) ok2 d_12_7_29 ?_
  obtain ⟨ok3, h⟩ := ck_e h
  obtain ⟨ok4, h⟩ := ck_e h
  refine lv_icmp_gt (tgt := 51) hx hb d_12_7_30 (by decide) (fun c9 => ?_) (fun c9 => ?_)
  · have h := ite_t ((oI_lt (a := (M 242 x1.toNat)) (b := x4) ok4 ok3).mp c9) h
    obtain ⟨rfl, rfl, rfl⟩ := in3 h
    exact k1 rfl H locs ls hP hD hS (lv_sub hl [3] rfl)
  · have h := ite_f (fun q => c9 ((oI_lt (a := (M 242 x1.toNat)) (b := x4) ok4 ok3).mpr q)) h
    refine lv_iload_n hx hb d_12_7_33 rfl (lv_at hl 3 rfl) ?_
    refine lv_aload_n hx hb d_12_7_34 rfl (lv_at hl 0 rfl) ?_
    refine m_gr (j := 221) (C := "Ballothall$Wards") (T := TX10) (N := 5) (ci := 10) (k := 2) hx hb hts iX10 hown hG hP (yi_219 hL) (yt_219 hL) rfl (by decide) w_361 (fun _ h9 => h9) rfl rfl (yr_219_2 hL) d_12_7_35 ?_
    refine lv_iload_n hx hb d_12_7_38 rfl (lv_at hl 2 rfl) ?_
    obtain ⟨ok5, h⟩ := ck_e h
    refine m_ar (k := (222 + x2.toNat)) hx hb hG hP (yi_221 hL) (yt_221 hL) ok5 (ya_221 hL (inb_lt ok5)) d_12_7_39 ?_
    refine lv_iload hx hb d_12_7_40 (lv_at hl 4 rfl) ?_
    obtain ⟨ok6, h⟩ := ck_e h
    refine m_ia hx hb hG hP (yg_221 hL ok5).1 (yg_221 hL ok5).2 ok6 d_12_7_42 ?_
    refine lv_iadd hx hb d_12_7_43 ?_
    refine nrm (oI_add _ _) ?_
    obtain ⟨v7, e7, h⟩ := nb_e h
    refine nrm (congrArg oI e7.symm) ?_
    refine lv_istore_n (lv' := [(3, .int (oI v7)), (0, .ref (ad 219)), (1, .int (oI x1)), (2, .int (oI x2)), (4, .int (oI x4))]) hx hb d_12_7_44 rfl hl (by decide) rfl (fun ls hl => ?_)
    refine lv_iinc (v := oI (x4 + 1)) (lv' := [(4, .int (oI (x4 + 1))), (3, .int (oI v7)), (0, .ref (ad 219)), (1, .int (oI x1)), (2, .int (oI x2))]) hx hb d_12_7_45 hl (k := 4) rfl (oI_add x4 1) (by decide) rfl (fun ls hl => ?_)
    refine lv_goto (tgt := 22) hx hb d_12_7_48 (by decide) ?_
    obtain ⟨rfl, rfl, rfl⟩ := in3 h
    exact k0 rfl H locs ls hP hD hS (lv_sub hl [2, 3, 4, 1, 0] rfl)
set_option maxRecDepth 100000 in
set_option maxHeartbeats 4000000 in
theorem s_Wa_votesIn_22 (l : Launch) (z : Zz) (ad : Nat → Nat) (E : Ev) (x1 : Int) (x2 : Int) {Q : State → Prop} {p : Program} {e : Env} {s : State} {m : MethodId} {below : List Frame} {meth : Method} {c : Code} {A : Nat → Prop} {args : Array Value} (hx : p.tables.exec = Jvm.exec) (hb : c.code = prog_12_method_7_code) (hml : c.maxLocals = 5) (hts : ∀ w ∈ WG, w.before args s = true) (hown : s.vm.findClass "Ballothall$Wards" = some m.cls) (hlocks : meth.locks = false) (hA : ∀ q, s.heap.size ≤ q → A q) (hG : KG z s) (hZ : FZ z A s) (hL : Lay E) : ∀ (fu : Nat) (M : Mm) (x3 : Int) (x4 : Int) (t : Nat) (w3 : Int) (w4 : Int), l_Wa_votesIn_22 E x1 x2 fu M x3 x4 = some (t, w3, w4) → (t = 1 → ∀ (H : Heap) (locs : List Loc) (ls : Array Slot), va_P z.1 classes (wv z ad E M) H → va_D A (wv z ad E M) → va_S A s.heap H locs → lv_has ls 5 [(3, .int (oI w3))] → W p l e (rmK 0 20 0 0) s m args below meth c H locs 0 0 Q (F0 m 51 ls [])) → ∀ (H : Heap) (locs : List Loc) (ls : Array Slot), va_P z.1 classes (wv z ad E M) H → va_D A (wv z ad E M) → va_S A s.heap H locs → lv_has ls 5 [(0, .ref (ad 219)), (1, .int (oI x1)), (2, .int (oI x2)), (3, .int (oI x3)), (4, .int (oI x4))] → W p l e (rmK 0 20 0 0) s m args below meth c H locs 0 0 Q (F0 m 22 ls []) := by
  intro fu
  induction fu with
  | zero =>
    intro M x3 x4 t w3 w4 h
    have h : (none : Option (Nat × Int × Int)) = some _ := h
    cases h
  | succ fu ih =>
    intro M x3 x4 t w3 w4 h k1 H locs ls hP hD hS hl
    obtain ⟨⟨t0, w30, w40⟩, g0, h⟩ := bd_e h
    refine b_Wa_votesIn_22b l z ad E M x1 x2 x3 x4 t0 w30 w40 hx hb hml hts hown hlocks hA hG hZ hL g0 (fun e0 => ?_) (fun e0 => ?_) H locs ls hP hD hS hl
    · subst e0
      have h := ite_t rfl h
      exact ih M w30 w40 t w3 w4 h k1
    · subst e0
      have h := ite_f (by decide) h
      obtain ⟨rfl, rfl, rfl⟩ := in3 h
      exact k1 rfl
set_option maxRecDepth 100000 in
set_option maxHeartbeats 4000000 in
theorem s_Wa_votesIn (l : Launch) (z : Zz) (ad : Nat → Nat) (E : Ev) (M : Mm) (x1 : Int) (x2 : Int) (r : Int)  (hL : Lay E) (h : f_Wa_votesIn E M x1 x2 = some r) : CT l z ⟨"Ballothall$Wards", "votesIn", "(II)I"⟩ prog_12_method_7_code 5 (some .int) [.ref (ad 219), .int (oI x1), .int (oI x2)] (wv z ad E M) 0 20 0 0 (fun _ => some (.int (oI r))) (fun _ => (wv z ad E M)) := by
  refine CT.of (own := "Ballothall$Wards") (by decide +kernel) (Nat.le_of_ble_eq_true rfl) rfl (fun p e s m below meth c A ls hx hb hml hr hts hown hlocks hin hA hG hZ hP hD hS hl => ?_)
  have hl : lv_has ls 5 [(0, .ref (ad 219)), (1, .int (oI x1)), (2, .int (oI x2))] := hl
  have key : ∀ (H : Heap) (locs : List Loc) (args : Array Value), (∀ w ∈ WG, w.before args s = true) → va_P z.1 classes (wv z ad E M) H → va_S A s.heap H locs → W p l e (rmK 0 20 0 0) s m args below meth c H locs 0 0 (MQ below (QK z A (fun _ => some (.int (oI r))) (fun _ => (wv z ad E M))) args s 0 0 A) (F0 m 0 ls []) := by
    intro H locs args hts hP hS
    unfold f_Wa_votesIn at h
    refine lv_iconst (v := oI 0) hx hb d_12_7_0 (by decide +kernel) ?_
    refine lv_istore_n (lv' := [(3, .int (oI 0)), (0, .ref (ad 219)), (1, .int (oI x1)), (2, .int (oI x2))]) hx hb d_12_7_1 rfl hl (by decide) rfl (fun ls hl => ?_)
    refine lv_iload_n hx hb d_12_7_2 rfl (lv_at hl 2 rfl) ?_
    obtain ⟨ok0, h⟩ := ck_e h
    refine lv_if_ne (tgt := 10) hx hb d_12_7_3 (by decide) (fun c9 => ?_) (fun c9 => ?_)
    · have h := ite_f (fun q => c9 ((oI_eq0 ok0).mpr q)) h
      refine lv_aload_n hx hb d_12_7_10 rfl (lv_at hl 1 rfl) ?_
      refine m_gr (j := 242) (C := "Ballothall$Wards") (T := TX10) (N := 5) (ci := 10) (k := 4) hx hb hts iX10 hown hG hP (yi_219 hL) (yt_219 hL) rfl (by decide) w_363 (fun _ h9 => h9) rfl rfl (yr_219_4 hL) d_12_7_11 ?_
      refine lv_iload_n hx hb d_12_7_14 rfl (lv_at hl 2 rfl) ?_
      refine lv_iconst (v := oI 1) hx hb d_12_7_15 (by decide +kernel) ?_
      refine lv_isub hx hb d_12_7_16 ?_
      refine nrm (oI_sub _ _) ?_
      obtain ⟨ok1, h⟩ := ck_e h
      refine m_ia hx hb hG hP (yi_242 hL) (yt_242 hL) ok1 d_12_7_17 ?_
      refine lv_iconst (v := oI 1) hx hb d_12_7_18 (by decide +kernel) ?_
      refine lv_iadd hx hb d_12_7_19 ?_
      refine nrm (oI_add _ _) ?_
      refine lv_istore (lv' := [(4, .int (oI ((M 242 (x1 - 1).toNat) + 1))), (3, .int (oI 0)), (0, .ref (ad 219)), (1, .int (oI x1)), (2, .int (oI x2))]) hx hb d_12_7_20 hl (by decide) rfl (fun ls hl => ?_)
      obtain ⟨⟨t8, v8_3, v8_4⟩, g8, h⟩ := bd_e h
      obtain ⟨ok8, h⟩ := ck_e h
      refine s_Wa_votesIn_22 l z ad E x1 x2 hx hb hml hts hown hlocks hA hG hZ hL FU M 0 ((M 242 (x1 - 1).toNat) + 1) t8 v8_3 v8_4 g8 (fun e8 H locs ls hP hD hS hl => ?_) H locs ls hP hD hS (lv_sub hl [2, 3, 4, 1, 0] rfl)
      refine lv_iload_n hx hb d_12_7_51 rfl (lv_at hl 0 rfl) ?_
      obtain rfl := in1 h
      exact W.iret hx hb hr (fun t ht hW => qkA hP hD hS (fun k => k) rfl rfl ht) hS.2.2 d_12_7_52
    · have h := ite_t ((oI_eq0 ok0).mp c9) h
      refine lv_iconst (v := oI 0) hx hb d_12_7_6 (by decide +kernel) ?_
      refine lv_goto (tgt := 20) hx hb d_12_7_7 (by decide) ?_
      refine lv_istore (lv' := [(4, .int (oI 0)), (3, .int (oI 0)), (0, .ref (ad 219)), (1, .int (oI x1)), (2, .int (oI x2))]) hx hb d_12_7_20 hl (by decide) rfl (fun ls hl => ?_)
      obtain ⟨⟨t9, v9_3, v9_4⟩, g9, h⟩ := bd_e h
      obtain ⟨ok9, h⟩ := ck_e h
      refine s_Wa_votesIn_22 l z ad E x1 x2 hx hb hml hts hown hlocks hA hG hZ hL FU M 0 0 t9 v9_3 v9_4 g9 (fun e9 H locs ls hP hD hS hl => ?_) H locs ls hP hD hS (lv_sub hl [2, 3, 4, 1, 0] rfl)
      refine lv_iload_n hx hb d_12_7_51 rfl (lv_at hl 0 rfl) ?_
      obtain rfl := in1 h
      exact W.iret hx hb hr (fun t ht hW => qkA hP hD hS (fun k => k) rfl rfl ht) hS.2.2 d_12_7_52
  exact key _ _ _ hts hP hS
set_option maxRecDepth 100000 in
set_option maxHeartbeats 4000000 in
theorem b_B_districtsWon_32b (l : Launch) (z : Zz) (ad : Nat → Nat) (E : Ev) (M : Mm) (x1 : Int) (x2 : Int) (x3 : Int) (x4 : Int) (t : Nat) (w3 : Int) (w4 : Int) (N : Mm) {Q : State → Prop} {p : Program} {e : Env} {s : State} {m : MethodId} {below : List Frame} {meth : Method} {c : Code} {A : Nat → Prop} {args : Array Value} (hx : p.tables.exec = Jvm.exec) (hb : c.code = prog_1_method_44_code) (hml : c.maxLocals = 5) (hts : ∀ w ∈ WG, w.before args s = true) (hown : s.vm.findClass "Ballothall" = some m.cls) (hlocks : meth.locks = false) (hA : ∀ q, s.heap.size ≤ q → A q) (hG : KG z s) (hZ : FZ z A s) (hL : Lay E) (h : B_districtsWon_32b E M x1 x2 x3 x4 = some (t, w3, w4, N)) (k0 : t = 0 → ∀ (H : Heap) (locs : List Loc) (ls : Array Slot), va_P z.1 classes (wv z ad E N) H → va_D A (wv z ad E N) → va_S A s.heap H locs → lv_has ls 5 [(0, .ref (ad 1)), (1, .int (oI x1)), (2, .int (oI x2)), (3, .int (oI w3)), (4, .int (oI w4))] → W p l e (rmK 3 91 0 0) s m args below meth c H locs 0 0 Q (F0 m 32 ls [])) (k1 : t = 1 → ∀ (H : Heap) (locs : List Loc) (ls : Array Slot), va_P z.1 classes (wv z ad E N) H → va_D A (wv z ad E N) → va_S A s.heap H locs → lv_has ls 5 [(3, .int (oI w3))] → W p l e (rmK 3 91 0 0) s m args below meth c H locs 0 0 Q (F0 m 72 ls [])) : ∀ (H : Heap) (locs : List Loc) (ls : Array Slot), va_P z.1 classes (wv z ad E M) H → va_D A (wv z ad E M) → va_S A s.heap H locs → lv_has ls 5 [(0, .ref (ad 1)), (1, .int (oI x1)), (2, .int (oI x2)), (3, .int (oI x3)), (4, .int (oI x4))] → W p l e (rmK 3 91 0 0) s m args below meth c H locs 0 0 Q (F0 m 32 ls []) := by
  intro H locs ls hP hD hS hl
  unfold B_districtsWon_32b at h
  refine lv_iload hx hb d_1_44_32 (lv_at hl 4 rfl) ?_
  refine lv_iload_n hx hb d_1_44_34 rfl (lv_at hl 1 rfl) ?_
  obtain ⟨ok3, h⟩ := ck_e h
  obtain ⟨ok4, h⟩ := ck_e h
  refine lv_icmp_ge (tgt := 72) hx hb d_1_44_35 (by decide) (fun c9 => ?_) (fun c9 => ?_)
  · have h := ite_t ((oI_le (a := x1) (b := x4) ok4 ok3).mp c9) h
    obtain ⟨rfl, rfl, rfl, rfl⟩ := in4 h
    exact k1 rfl H locs ls hP hD hS (lv_sub hl [3] rfl)
  · have h := ite_f (fun q => c9 ((oI_le (a := x1) (b := x4) ok4 ok3).mpr q)) h
    refine lv_aload_n hx hb d_1_44_38 rfl (lv_at hl 0 rfl) ?_
    refine m_gr (j := 219) (C := "Ballothall") (T := TX11) (N := 14) (ci := 11) (k := 5) hx hb hts iX11 hown hG hP (yi_1 hL) (yt_1 hL) rfl (by decide) w_402 (fun _ h9 => h9) rfl rfl (yr_1_5 hL) d_1_44_39 ?_
    refine lv_iload hx hb d_1_44_42 (lv_at hl 4 rfl) ?_
    refine lv_iload_n hx hb d_1_44_44 rfl (lv_at hl 2 rfl) ?_
    obtain ⟨r5, g5, h⟩ := bd_e h
    refine kVN (As := [.int (oI x4), .int (oI x2)]) (rest := []) (s_Wa_votesIn l z ad E M x4 x2 r5 hL g5) hx hb hml hown hts w_1648 n_1645 w_1647 w_s_a85b93 w_10 md_2866d7 ⟨Nat.le_of_ble_eq_true rfl, Nat.le_of_ble_eq_true rfl⟩ hG hZ hP hD hS hA 219 (wv_o (ci := 10) (yi_219 hL) (yt_219 hL)) rfl rfl rfl hl.1 rfl (Nat.le_of_ble_eq_true rfl) d_1_44_45 ⟨Nat.le_of_ble_eq_true rfl, Nat.le_of_ble_eq_true rfl⟩ (fun _ H locs hP hD hS => ?_)
    have hP : va_P z.1 classes (wv z ad E M) H := hP
    have hD : va_D A (wv z ad E M) := hD
    refine W.eq (g2 := F0 m 48 ls [.int (oI r5)]) rfl ?_
    refine lv_aload_n hx hb d_1_44_48 rfl (lv_at hl 0 rfl) ?_
    refine m_gr (j := 219) (C := "Ballothall") (T := TX11) (N := 14) (ci := 11) (k := 5) hx hb hts iX11 hown hG hP (yi_1 hL) (yt_1 hL) rfl (by decide) w_402 (fun _ h9 => h9) rfl rfl (yr_1_5 hL) d_1_44_49 ?_
    refine lv_iload hx hb d_1_44_52 (lv_at hl 4 rfl) ?_
    refine lv_iconst (v := oI 1) hx hb d_1_44_54 (by decide +kernel) ?_
    refine lv_iload_n hx hb d_1_44_55 rfl (lv_at hl 2 rfl) ?_
    refine lv_isub hx hb d_1_44_56 ?_
    refine nrm (oI_sub _ _) ?_
    obtain ⟨r6, g6, h⟩ := bd_e h
    refine kVN (As := [.int (oI x4), .int (oI (1 - x2))]) (rest := [.int (oI r5)]) (s_Wa_votesIn l z ad E M x4 (1 - x2) r6 hL g6) hx hb hml hown hts w_1648 n_1645 w_1647 w_s_a85b93 w_10 md_2866d7 ⟨Nat.le_of_ble_eq_true rfl, Nat.le_of_ble_eq_true rfl⟩ hG hZ hP hD hS hA 219 (wv_o (ci := 10) (yi_219 hL) (yt_219 hL)) rfl rfl rfl hl.1 rfl (Nat.le_of_ble_eq_true rfl) d_1_44_57 ⟨Nat.le_of_ble_eq_true rfl, Nat.le_of_ble_eq_true rfl⟩ (fun _ H locs hP hD hS => ?_)
    have hP : va_P z.1 classes (wv z ad E M) H := hP
    have hD : va_D A (wv z ad E M) := hD
    refine W.eq (g2 := F0 m 60 ls [.int (oI r6), .int (oI r5)]) rfl ?_
    obtain ⟨ok7, h⟩ := ck_e h
    obtain ⟨ok8, h⟩ := ck_e h
    refine lv_icmp_le (tgt := 66) hx hb d_1_44_60 (by decide) (fun c9 => ?_) (fun c9 => ?_)
    · have h := ite_t ((oI_le (a := r5) (b := r6) ok7 ok8).mp c9) h
      refine lv_iinc (v := oI (x4 + 1)) (lv' := [(4, .int (oI (x4 + 1))), (0, .ref (ad 1)), (1, .int (oI x1)), (2, .int (oI x2)), (3, .int (oI x3))]) hx hb d_1_44_66 hl (k := 4) rfl (oI_add x4 1) (by decide) rfl (fun ls hl => ?_)
      refine lv_goto (tgt := 32) hx hb d_1_44_69 (by decide) ?_
      obtain ⟨rfl, rfl, rfl, rfl⟩ := in4 h
      exact k0 rfl H locs ls hP hD hS (lv_sub hl [1, 2, 3, 4, 0] rfl)
    · have h := ite_f (fun q => c9 ((oI_le (a := r5) (b := r6) ok7 ok8).mpr q)) h
      refine lv_iinc (v := oI (x3 + 1)) (lv' := [(3, .int (oI (x3 + 1))), (0, .ref (ad 1)), (1, .int (oI x1)), (2, .int (oI x2)), (4, .int (oI x4))]) hx hb d_1_44_63 hl (k := 3) rfl (oI_add x3 1) (by decide) rfl (fun ls hl => ?_)
      refine lv_iinc (v := oI (x4 + 1)) (lv' := [(4, .int (oI (x4 + 1))), (3, .int (oI (x3 + 1))), (0, .ref (ad 1)), (1, .int (oI x1)), (2, .int (oI x2))]) hx hb d_1_44_66 hl (k := 4) rfl (oI_add x4 1) (by decide) rfl (fun ls hl => ?_)
      refine lv_goto (tgt := 32) hx hb d_1_44_69 (by decide) ?_
      obtain ⟨rfl, rfl, rfl, rfl⟩ := in4 h
      exact k0 rfl H locs ls hP hD hS (lv_sub hl [2, 3, 4, 1, 0] rfl)
set_option maxRecDepth 100000 in
set_option maxHeartbeats 4000000 in
theorem s_B_districtsWon_32 (l : Launch) (z : Zz) (ad : Nat → Nat) (E : Ev) (x1 : Int) (x2 : Int) {Q : State → Prop} {p : Program} {e : Env} {s : State} {m : MethodId} {below : List Frame} {meth : Method} {c : Code} {A : Nat → Prop} {args : Array Value} (hx : p.tables.exec = Jvm.exec) (hb : c.code = prog_1_method_44_code) (hml : c.maxLocals = 5) (hts : ∀ w ∈ WG, w.before args s = true) (hown : s.vm.findClass "Ballothall" = some m.cls) (hlocks : meth.locks = false) (hA : ∀ q, s.heap.size ≤ q → A q) (hG : KG z s) (hZ : FZ z A s) (hL : Lay E) : ∀ (fu : Nat) (M : Mm) (x3 : Int) (x4 : Int) (t : Nat) (w3 : Int) (w4 : Int) (N : Mm), l_B_districtsWon_32 E x1 x2 fu M x3 x4 = some (t, w3, w4, N) → (t = 1 → ∀ (H : Heap) (locs : List Loc) (ls : Array Slot), va_P z.1 classes (wv z ad E N) H → va_D A (wv z ad E N) → va_S A s.heap H locs → lv_has ls 5 [(3, .int (oI w3))] → W p l e (rmK 3 91 0 0) s m args below meth c H locs 0 0 Q (F0 m 72 ls [])) → ∀ (H : Heap) (locs : List Loc) (ls : Array Slot), va_P z.1 classes (wv z ad E M) H → va_D A (wv z ad E M) → va_S A s.heap H locs → lv_has ls 5 [(0, .ref (ad 1)), (1, .int (oI x1)), (2, .int (oI x2)), (3, .int (oI x3)), (4, .int (oI x4))] → W p l e (rmK 3 91 0 0) s m args below meth c H locs 0 0 Q (F0 m 32 ls []) := by
  intro fu
  induction fu with
  | zero =>
    intro M x3 x4 t w3 w4 N h
    have h : (none : Option (Nat × Int × Int × Mm)) = some _ := h
    cases h
  | succ fu ih =>
    intro M x3 x4 t w3 w4 N h k1 H locs ls hP hD hS hl
    obtain ⟨⟨t0, w30, w40, N9⟩, g0, h⟩ := bd_e h
    refine b_B_districtsWon_32b l z ad E M x1 x2 x3 x4 t0 w30 w40 N9 hx hb hml hts hown hlocks hA hG hZ hL g0 (fun e0 => ?_) (fun e0 => ?_) H locs ls hP hD hS hl
    · subst e0
      have h := ite_t rfl h
      exact ih N9 w30 w40 t w3 w4 N h k1
    · subst e0
      have h := ite_f (by decide) h
      obtain ⟨rfl, rfl, rfl, rfl⟩ := in4 h
      exact k1 rfl
set_option maxRecDepth 100000 in
set_option maxHeartbeats 4000000 in
theorem s_B_districtsWon (l : Launch) (z : Zz) (ad : Nat → Nat) (E : Ev) (M : Mm) (x1 : Int) (x2 : Int) (r : Int) (N : Mm) (hL : Lay E) (h : f_B_districtsWon E M x1 x2 = some (r, N)) : CT l z ⟨"Ballothall", "districtsWon", "(II)I"⟩ prog_1_method_44_code 5 (some .int) [.ref (ad 1), .int (oI x1), .int (oI x2)] (wv z ad E M) 3 91 0 0 (fun _ => some (.int (oI r))) (fun _ => (wv z ad E N)) := by
  refine CT.of (own := "Ballothall") (by decide +kernel) (Nat.le_of_ble_eq_true rfl) rfl (fun p e s m below meth c A ls hx hb hml hr hts hown hlocks hin hA hG hZ hP hD hS hl => ?_)
  have hl : lv_has ls 5 [(0, .ref (ad 1)), (1, .int (oI x1)), (2, .int (oI x2))] := hl
  have key : ∀ (H : Heap) (locs : List Loc) (args : Array Value), (∀ w ∈ WG, w.before args s = true) → va_P z.1 classes (wv z ad E M) H → va_S A s.heap H locs → W p l e (rmK 3 91 0 0) s m args below meth c H locs 0 0 (MQ below (QK z A (fun _ => some (.int (oI r))) (fun _ => (wv z ad E N))) args s 0 0 A) (F0 m 0 ls []) := by
    intro H locs args hts hP hS
    unfold f_B_districtsWon at h
    refine lv_iload_n hx hb d_1_44_0 rfl (lv_at hl 1 rfl) ?_
    refine lv_iconst (v := oI 1) hx hb d_1_44_1 (by decide +kernel) ?_
    refine lv_aload_n hx hb d_1_44_2 rfl (lv_at hl 0 rfl) ?_
    refine m_gr (j := 219) (C := "Ballothall") (T := TX11) (N := 14) (ci := 11) (k := 5) hx hb hts iX11 hown hG hP (yi_1 hL) (yt_1 hL) rfl (by decide) w_402 (fun _ h9 => h9) rfl rfl (yr_1_5 hL) d_1_44_3 ?_
    refine m_giN (C := "Ballothall$Wards") (T := TX10) (N := 5) (ci := 10) (k := 0) hx hb hts iX10 hown hG hP (yi_219 hL) (yt_219 hL) rfl (by decide) n_359 rfl (fun _ h9 => h9) rfl rfl d_1_44_6 ?_
    obtain ⟨_, g0, h⟩ := bd_e h
    refine kS (As := [.int (oI x1), .int (oI 1), .int (oI (M 219 0))]) (rest := []) (s_B_needRange l z ad E M x1 1 (M 219 0) hL g0) hx hb hml hown hts w_548 w_546 w_547 w_1 md_519134 ⟨Nat.le_of_ble_eq_true rfl, Nat.le_of_ble_eq_true rfl⟩ hG hZ hP hD hS hA rfl hl.1 rfl (Nat.le_of_ble_eq_true rfl) d_1_44_9 ⟨Nat.le_of_ble_eq_true rfl, Nat.le_of_ble_eq_true rfl⟩ (fun _ H locs hP hD hS => ?_)
    have hP : va_P z.1 classes (wv z ad E M) H := hP
    have hD : va_D A (wv z ad E M) := hD
    refine W.eq (g2 := F0 m 12 ls []) rfl ?_
    refine lv_iload_n hx hb d_1_44_12 rfl (lv_at hl 2 rfl) ?_
    refine lv_iconst (v := oI 0) hx hb d_1_44_13 (by decide +kernel) ?_
    refine lv_iconst (v := oI 1) hx hb d_1_44_14 (by decide +kernel) ?_
    obtain ⟨_, g1, h⟩ := bd_e h
    refine kS (As := [.int (oI x2), .int (oI 0), .int (oI 1)]) (rest := []) (s_B_needRange l z ad E M x2 0 1 hL g1) hx hb hml hown hts w_548 w_546 w_547 w_1 md_519134 ⟨Nat.le_of_ble_eq_true rfl, Nat.le_of_ble_eq_true rfl⟩ hG hZ hP hD hS hA rfl hl.1 rfl (Nat.le_of_ble_eq_true rfl) d_1_44_15 ⟨Nat.le_of_ble_eq_true rfl, Nat.le_of_ble_eq_true rfl⟩ (fun _ H locs hP hD hS => ?_)
    have hP : va_P z.1 classes (wv z ad E M) H := hP
    have hD : va_D A (wv z ad E M) := hD
    refine W.eq (g2 := F0 m 18 ls []) rfl ?_
    refine lv_aload_n hx hb d_1_44_18 rfl (lv_at hl 0 rfl) ?_
    refine m_gr (j := 219) (C := "Ballothall") (T := TX11) (N := 14) (ci := 11) (k := 5) hx hb hts iX11 hown hG hP (yi_1 hL) (yt_1 hL) rfl (by decide) w_402 (fun _ h9 => h9) rfl rfl (yr_1_5 hL) d_1_44_19 ?_
    refine lv_iload_n hx hb d_1_44_22 rfl (lv_at hl 1 rfl) ?_
    obtain ⟨⟨r2, M2⟩, g2, h⟩ := bd_e h
    refine kVN (As := [.int (oI x1)]) (rest := []) (s_Wa_divide l z ad E M x1 r2 M2 hL g2) hx hb hml hown hts w_1621 n_1618 w_1620 w_s_af9e07 w_10 md_d7e64c ⟨Nat.le_of_ble_eq_true rfl, Nat.le_of_ble_eq_true rfl⟩ hG hZ hP hD hS hA 219 (wv_o (ci := 10) (yi_219 hL) (yt_219 hL)) rfl rfl rfl hl.1 rfl (Nat.le_of_ble_eq_true rfl) d_1_44_23 ⟨Nat.le_of_ble_eq_true rfl, Nat.le_of_ble_eq_true rfl⟩ (fun _ H locs hP hD hS => ?_)
    have hP : va_P z.1 classes (wv z ad E M2) H := hP
    have hD : va_D A (wv z ad E M2) := hD
    refine W.eq (g2 := F0 m 26 ls [.int (oI r2)]) rfl ?_
    refine lv_pop hx hb d_1_44_26 rfl ?_
    refine lv_iconst (v := oI 0) hx hb d_1_44_27 (by decide +kernel) ?_
    refine lv_istore_n (lv' := [(3, .int (oI 0)), (0, .ref (ad 1)), (1, .int (oI x1)), (2, .int (oI x2))]) hx hb d_1_44_28 rfl hl (by decide) rfl (fun ls hl => ?_)
    refine lv_iconst (v := oI 0) hx hb d_1_44_29 (by decide +kernel) ?_
    refine lv_istore (lv' := [(4, .int (oI 0)), (3, .int (oI 0)), (0, .ref (ad 1)), (1, .int (oI x1)), (2, .int (oI x2))]) hx hb d_1_44_30 hl (by decide) rfl (fun ls hl => ?_)
    obtain ⟨⟨t9, v9_3, v9_4, M9⟩, g9, h⟩ := bd_e h
    obtain ⟨ok9, h⟩ := ck_e h
    refine s_B_districtsWon_32 l z ad E x1 x2 hx hb hml hts hown hlocks hA hG hZ hL FU M2 0 0 t9 v9_3 v9_4 M9 g9 (fun e9 H locs ls hP hD hS hl => ?_) H locs ls hP hD hS (lv_sub hl [2, 3, 4, 1, 0] rfl)
    refine lv_iload_n hx hb d_1_44_72 rfl (lv_at hl 0 rfl) ?_
    obtain ⟨rfl, rfl⟩ := in2 h
    exact W.iret hx hb hr (fun t ht hW => qkA hP hD hS (fun k => k) rfl rfl ht) hS.2.2 d_1_44_73
  exact key _ _ _ hts hP hS
set_option maxRecDepth 100000 in
set_option maxHeartbeats 4000000 in
theorem b_B_wasted_32b (l : Launch) (z : Zz) (ad : Nat → Nat) (E : Ev) (M : Mm) (x1 : Int) (x2 : Int) (x3 : Int) (x4 : Int) (t : Nat) (w3 : Int) (w4 : Int) (N : Mm) {Q : State → Prop} {p : Program} {e : Env} {s : State} {m : MethodId} {below : List Frame} {meth : Method} {c : Code} {A : Nat → Prop} {args : Array Value} (hx : p.tables.exec = Jvm.exec) (hb : c.code = prog_1_method_45_code) (hml : c.maxLocals = 7) (hts : ∀ w ∈ WG, w.before args s = true) (hown : s.vm.findClass "Ballothall" = some m.cls) (hlocks : meth.locks = false) (hA : ∀ q, s.heap.size ≤ q → A q) (hG : KG z s) (hZ : FZ z A s) (hL : Lay E) (h : B_wasted_32b E M x1 x2 x3 x4 = some (t, w3, w4, N)) (k0 : t = 0 → ∀ (H : Heap) (locs : List Loc) (ls : Array Slot), va_P z.1 classes (wv z ad E N) H → va_D A (wv z ad E N) → va_S A s.heap H locs → lv_has ls 7 [(0, .ref (ad 1)), (1, .int (oI x1)), (2, .int (oI x2)), (3, .int (oI w3)), (4, .int (oI w4))] → W p l e (rmK 3 91 0 0) s m args below meth c H locs 0 0 Q (F0 m 32 ls [])) (k1 : t = 1 → ∀ (H : Heap) (locs : List Loc) (ls : Array Slot), va_P z.1 classes (wv z ad E N) H → va_D A (wv z ad E N) → va_S A s.heap H locs → lv_has ls 7 [(3, .int (oI w3))] → W p l e (rmK 3 91 0 0) s m args below meth c H locs 0 0 Q (F0 m 97 ls [])) : ∀ (H : Heap) (locs : List Loc) (ls : Array Slot), va_P z.1 classes (wv z ad E M) H → va_D A (wv z ad E M) → va_S A s.heap H locs → lv_has ls 7 [(0, .ref (ad 1)), (1, .int (oI x1)), (2, .int (oI x2)), (3, .int (oI x3)), (4, .int (oI x4))] → W p l e (rmK 3 91 0 0) s m args below meth c H locs 0 0 Q (F0 m 32 ls []) := by
  intro H locs ls hP hD hS hl
  unfold B_wasted_32b at h
  refine lv_iload hx hb d_1_45_32 (lv_at hl 4 rfl) ?_
  refine lv_iload_n hx hb d_1_45_34 rfl (lv_at hl 1 rfl) ?_
  obtain ⟨ok3, h⟩ := ck_e h
  obtain ⟨ok4, h⟩ := ck_e h
  refine lv_icmp_ge (tgt := 97) hx hb d_1_45_35 (by decide) (fun c9 => ?_) (fun c9 => ?_)
  · have h := ite_t ((oI_le (a := x1) (b := x4) ok4 ok3).mp c9) h
    obtain ⟨rfl, rfl, rfl, rfl⟩ := in4 h
    exact k1 rfl H locs ls hP hD hS (lv_sub hl [3] rfl)
  · have h := ite_f (fun q => c9 ((oI_le (a := x1) (b := x4) ok4 ok3).mpr q)) h
    refine lv_aload_n hx hb d_1_45_38 rfl (lv_at hl 0 rfl) ?_
    refine m_gr (j := 219) (C := "Ballothall") (T := TX11) (N := 14) (ci := 11) (k := 5) hx hb hts iX11 hown hG hP (yi_1 hL) (yt_1 hL) rfl (by decide) w_402 (fun _ h9 => h9) rfl rfl (yr_1_5 hL) d_1_45_39 ?_
    refine lv_iload hx hb d_1_45_42 (lv_at hl 4 rfl) ?_
    refine lv_iload_n hx hb d_1_45_44 rfl (lv_at hl 2 rfl) ?_
    obtain ⟨r5, g5, h⟩ := bd_e h
    refine kVN (As := [.int (oI x4), .int (oI x2)]) (rest := []) (s_Wa_votesIn l z ad E M x4 x2 r5 hL g5) hx hb hml hown hts w_1648 n_1645 w_1647 w_s_a85b93 w_10 md_2866d7 ⟨Nat.le_of_ble_eq_true rfl, Nat.le_of_ble_eq_true rfl⟩ hG hZ hP hD hS hA 219 (wv_o (ci := 10) (yi_219 hL) (yt_219 hL)) rfl rfl rfl hl.1 rfl (Nat.le_of_ble_eq_true rfl) d_1_45_45 ⟨Nat.le_of_ble_eq_true rfl, Nat.le_of_ble_eq_true rfl⟩ (fun _ H locs hP hD hS => ?_)
    have hP : va_P z.1 classes (wv z ad E M) H := hP
    have hD : va_D A (wv z ad E M) := hD
    refine W.eq (g2 := F0 m 48 ls [.int (oI r5)]) rfl ?_
    refine lv_istore (lv' := [(5, .int (oI r5)), (0, .ref (ad 1)), (1, .int (oI x1)), (2, .int (oI x2)), (3, .int (oI x3)), (4, .int (oI x4))]) hx hb d_1_45_48 hl (by decide) rfl (fun ls hl => ?_)
    refine lv_aload_n hx hb d_1_45_50 rfl (lv_at hl 1 rfl) ?_
    refine m_gr (j := 219) (C := "Ballothall") (T := TX11) (N := 14) (ci := 11) (k := 5) hx hb hts iX11 hown hG hP (yi_1 hL) (yt_1 hL) rfl (by decide) w_402 (fun _ h9 => h9) rfl rfl (yr_1_5 hL) d_1_45_51 ?_
    refine lv_iload hx hb d_1_45_54 (lv_at hl 5 rfl) ?_
    refine lv_iconst (v := oI 1) hx hb d_1_45_56 (by decide +kernel) ?_
    refine lv_iload_n hx hb d_1_45_57 rfl (lv_at hl 3 rfl) ?_
    refine lv_isub hx hb d_1_45_58 ?_
    refine nrm (oI_sub _ _) ?_
    obtain ⟨r6, g6, h⟩ := bd_e h
    refine kVN (As := [.int (oI x4), .int (oI (1 - x2))]) (rest := []) (s_Wa_votesIn l z ad E M x4 (1 - x2) r6 hL g6) hx hb hml hown hts w_1648 n_1645 w_1647 w_s_a85b93 w_10 md_2866d7 ⟨Nat.le_of_ble_eq_true rfl, Nat.le_of_ble_eq_true rfl⟩ hG hZ hP hD hS hA 219 (wv_o (ci := 10) (yi_219 hL) (yt_219 hL)) rfl rfl rfl hl.1 rfl (Nat.le_of_ble_eq_true rfl) d_1_45_59 ⟨Nat.le_of_ble_eq_true rfl, Nat.le_of_ble_eq_true rfl⟩ (fun _ H locs hP hD hS => ?_)
    have hP : va_P z.1 classes (wv z ad E M) H := hP
    have hD : va_D A (wv z ad E M) := hD
    refine W.eq (g2 := F0 m 62 ls [.int (oI r6)]) rfl ?_
    refine lv_istore (lv' := [(6, .int (oI r6)), (5, .int (oI r5)), (0, .ref (ad 1)), (1, .int (oI x1)), (2, .int (oI x2)), (3, .int (oI x3)), (4, .int (oI x4))]) hx hb d_1_45_62 hl (by decide) rfl (fun ls hl => ?_)
    refine lv_iload_n hx hb d_1_45_64 rfl (lv_at hl 5 rfl) ?_
    refine lv_iload hx hb d_1_45_65 (lv_at hl 1 rfl) ?_
    refine lv_iload hx hb d_1_45_67 (lv_at hl 0 rfl) ?_
    obtain ⟨ok7, h⟩ := ck_e h
    obtain ⟨ok8, h⟩ := ck_e h
    refine lv_icmp_le (tgt := 87) hx hb d_1_45_69 (by decide) (fun c9 => ?_) (fun c9 => ?_)
    · have h := ite_t ((oI_le (a := r5) (b := r6) ok7 ok8).mp c9) h
      refine lv_iload hx hb d_1_45_87 (lv_at hl 1 rfl) ?_
      refine lv_iadd hx hb d_1_45_89 ?_
      refine nrm (oI_add _ _) ?_
      refine lv_istore_n (lv' := [(3, .int (oI (x3 + r5))), (6, .int (oI r6)), (5, .int (oI r5)), (0, .ref (ad 1)), (1, .int (oI x1)), (2, .int (oI x2)), (4, .int (oI x4))]) hx hb d_1_45_90 rfl hl (by decide) rfl (fun ls hl => ?_)
      refine lv_iinc (v := oI (x4 + 1)) (lv' := [(4, .int (oI (x4 + 1))), (3, .int (oI (x3 + r5))), (6, .int (oI r6)), (5, .int (oI r5)), (0, .ref (ad 1)), (1, .int (oI x1)), (2, .int (oI x2))]) hx hb d_1_45_91 hl (k := 6) rfl (oI_add x4 1) (by decide) rfl (fun ls hl => ?_)
      refine lv_goto (tgt := 32) hx hb d_1_45_94 (by decide) ?_
      obtain ⟨rfl, rfl, rfl, rfl⟩ := in4 h
      exact k0 rfl H locs ls hP hD hS (lv_sub hl [4, 5, 6, 1, 0] rfl)
    · have h := ite_f (fun q => c9 ((oI_le (a := r5) (b := r6) ok7 ok8).mpr q)) h
      refine lv_iload hx hb d_1_45_72 (lv_at hl 1 rfl) ?_
      refine lv_iload hx hb d_1_45_74 (lv_at hl 1 rfl) ?_
      refine lv_iload hx hb d_1_45_76 (lv_at hl 0 rfl) ?_
      refine lv_iadd hx hb d_1_45_78 ?_
      refine nrm (oI_add _ _) ?_
      refine lv_iconst (v := oI 2) hx hb d_1_45_79 (by decide +kernel) ?_
      obtain ⟨ok9, h⟩ := ck_e h
      refine lv_idiv hx hb d_1_45_80 (oI_nz (show psI 2 by decide).1 (show psI 2 by decide).2) ?_
      refine nrm (oI_div (a := (r5 + r6)) (b := (2 : Int)) ok9.1 ok9.2 (show psI 2 by decide).1 (show psI 2 by decide).2) ?_
      refine lv_isub hx hb d_1_45_81 ?_
      refine nrm (oI_sub _ _) ?_
      refine lv_iconst (v := oI 1) hx hb d_1_45_82 (by decide +kernel) ?_
      refine lv_isub hx hb d_1_45_83 ?_
      refine nrm (oI_sub _ _) ?_
      refine lv_goto (tgt := 89) hx hb d_1_45_84 (by decide) ?_
      refine lv_iadd hx hb d_1_45_89 ?_
      refine nrm (oI_add _ _) ?_
      obtain ⟨v10, e10, h⟩ := nb_e h
      refine nrm (congrArg oI e10.symm) ?_
      refine lv_istore_n (lv' := [(3, .int (oI v10)), (6, .int (oI r6)), (5, .int (oI r5)), (0, .ref (ad 1)), (1, .int (oI x1)), (2, .int (oI x2)), (4, .int (oI x4))]) hx hb d_1_45_90 rfl hl (by decide) rfl (fun ls hl => ?_)
      refine lv_iinc (v := oI (x4 + 1)) (lv' := [(4, .int (oI (x4 + 1))), (3, .int (oI v10)), (6, .int (oI r6)), (5, .int (oI r5)), (0, .ref (ad 1)), (1, .int (oI x1)), (2, .int (oI x2))]) hx hb d_1_45_91 hl (k := 6) rfl (oI_add x4 1) (by decide) rfl (fun ls hl => ?_)
      refine lv_goto (tgt := 32) hx hb d_1_45_94 (by decide) ?_
      obtain ⟨rfl, rfl, rfl, rfl⟩ := in4 h
      exact k0 rfl H locs ls hP hD hS (lv_sub hl [4, 5, 6, 1, 0] rfl)
