set_option maxRecDepth 100000 in
set_option maxHeartbeats 4000000 in
theorem s_Bx_init (l : Launch) (z : Zz) (ad : Nat → Nat) (E : Ev) (M : Mm) (p0 : Nat) (F : Ev) (N : Mm) (h : f_Bx_init E M p0 = some (F, N)) : CT l z ⟨"Ballothall$BallotBox", "<init>", "()V"⟩ prog_2_method_1_code 1 none [.ref (ad p0)] (wv z ad E M) 1 40 38 666 (fun u => none) (fun u => wv z (adj E ad u) F N) := by
  refine CT.of (own := "Ballothall$BallotBox") (by decide +kernel) (Nat.le_of_ble_eq_true rfl) rfl (fun p e s m below meth c A ls hx hb hml hr hts hown hlocks hin hA hG hZ hP hD hS hl => ?_)
  have hl : lv_has ls 1 [(0, .ref (ad p0))] := hl
  have key : ∀ (E0 : Ev) (ad0 : Nat → Nat) (mc ms c0 s0 c1 s1 : Nat) (H : Heap) (locs : List Loc) (args : Array Value), c0 + 38 ≤ c1 → s0 + 666 ≤ s1 → c1 ≤ mc → s1 ≤ ms → (∀ i, i < nE E0 → ad i = ad0 i) → nE E0 ≤ nE E → (∀ w ∈ WG, w.before args s = true) → va_P z.1 classes (wv z ad E M) H → va_S A s.heap H locs → W p l e (rmK 1 40 mc ms) s m args below meth c H locs c0 s0 (MQ below (QK z A (fun u => none) (fun u => wv z (adj E0 ad0 u) F N)) args s c1 s1 A) (F0 m 0 ls []) := by
    intro E0 ad0 mc ms c0 s0 c1 s1 H locs args hc hs hm hm2 hag0 hE0 hts hP hS
    unfold f_Bx_init at h
    obtain ⟨h_p0, h⟩ := ck_e h
    refine lv_aload_n hx hb d_2_1_0 rfl (lv_at hl 0 rfl) ?_
    refine W.objInit hx hb hown (hts _ w_45) (hts _ w_38) (hts _ w_obj) rfl (by rw [hml]; exact hl.1) rfl d_2_1_1 (Nat.le_of_ble_eq_true rfl) (Nat.le_of_ble_eq_true rfl) ?_
    refine W.eq (g2 := F0 m 4 ls []) rfl ?_
    refine lv_aload_n hx hb d_2_1_4 rfl (lv_at hl 0 rfl) ?_
    refine lv_bipush (v := oI 30) hx hb d_2_1_5 (by decide +kernel) ?_
    obtain ⟨p0, ep0, h⟩ := nb_e h
    obtain ⟨E0, eE0, h⟩ := nb_e h
    obtain ⟨M0, eM0, h⟩ := nb_e h
    refine m_newI (x := (30 : Int)) (N := 30) hx hb (by decide) (by decide) (by decide) (hts _ w_100) hG hP hD hS hA (show _ ≤ mc by omega) (show _ ≤ ms by omega) d_2_1_7 (fun ad0 H hag0 hP hD hS => ?_)
    have hP : va_P z.1 classes (wv z ad0 E0 M0) H := by rw [eE0, eM0]; exact hP
    have hD : va_D A (wv z ad0 E0 M0) := by rw [eE0, eM0]; exact hD
    refine W.eq (g2 := F0 m 9 ls (.ref (ad0 p0) :: [.ref (ad0 p0)])) (by rw [ep0, hag0 p0 h_p0.1] <;> rfl) ?_
    have hl : lv_has ls 1 [(0, .ref (ad0 p0))] := by rw [hag0 p0 h_p0.1]; exact hl
    have hgw0 : Gw E E0 := by rw [eE0]; exact gw_new _ _
    have hag0 : ∀ i, i < nE E0 → ad0 i = ad0 i := fun i hi => (hag0 i (Nat.lt_of_lt_of_le hi hE0)).trans (hag0 i hi)
    have hE0 : nE E0 ≤ nE E0 := Nat.le_trans hE0 hgw0.1
    have h_p0 : isO 0 E0 p0 := isO_up hgw0 h_p0
    have h_p0 : isIA E0 p0 := by rw [ep0, eE0]; exact ⟨new_i _ _, by rw [new_T]⟩
    obtain ⟨E1, eE1, h⟩ := nb_e h
    refine m_prF (C := "Ballothall$BallotBox") (T := TX0) (N := 10) (ci := 0) (k := 0) (ty := (.array .int)) hx hb hts iX0 hown hG hP hD hS h_p0.1 h_p0.2 rfl (by decide) w_48 (fun _ h9 => h9) rfl rfl tyX0_ok nmX0 rfl hin rfl (by decide +kernel) h_p0.1 (fun _ => rfl) (fun _ => rfl) d_2_1_9 (fun H locs hP hD hS => ?_)
    have hP : va_P z.1 classes (wv z ad0 E1 M0) H := by rw [eE1]; exact hP
    have hD : va_D A (wv z ad0 E1 M0) := by rw [eE1]; exact hD
    have hgw1 : Gw E0 E1 := by rw [eE1]; exact gw_ref _ _ _ _
    have hE0 : nE E0 ≤ nE E1 := Nat.le_trans hE0 hgw1.1
    have h_p0 : isO 0 E1 p0 := isO_up hgw1 h_p0
    refine W.eq (g2 := F0 m 12 ls []) rfl ?_
    refine lv_aload_n hx hb d_2_1_12 rfl (lv_at hl 0 rfl) ?_
    refine lv_bipush (v := oI 8) hx hb d_2_1_13 (by decide +kernel) ?_
    obtain ⟨p2, ep2, h⟩ := nb_e h
    obtain ⟨E2, eE2, h⟩ := nb_e h
    obtain ⟨M2, eM2, h⟩ := nb_e h
    refine m_newI (x := (8 : Int)) (N := 8) hx hb (by decide) (by decide) (by decide) (hts _ w_100) hG hP hD hS hA (show _ ≤ mc by omega) (show _ ≤ ms by omega) d_2_1_15 (fun ad2 H hag2 hP hD hS => ?_)
    have hP : va_P z.1 classes (wv z ad2 E2 M2) H := by rw [eE2, eM2]; exact hP
    have hD : va_D A (wv z ad2 E2 M2) := by rw [eE2, eM2]; exact hD
    refine W.eq (g2 := F0 m 17 ls (.ref (ad2 p2) :: [.ref (ad2 p0)])) (by rw [ep2, hag2 p0 h_p0.1] <;> rfl) ?_
    have hl : lv_has ls 1 [(0, .ref (ad2 p0))] := by rw [hag2 p0 h_p0.1]; exact hl
    have hgw2 : Gw E1 E2 := by rw [eE2]; exact gw_new _ _
    have hag0 : ∀ i, i < nE E0 → ad2 i = ad0 i := fun i hi => (hag2 i (Nat.lt_of_lt_of_le hi hE0)).trans (hag0 i hi)
    have hE0 : nE E0 ≤ nE E2 := Nat.le_trans hE0 hgw2.1
    have h_p0 : isO 0 E2 p0 := isO_up hgw2 h_p0
    have h_p2 : isIA E2 p2 := by rw [ep2, eE2]; exact ⟨new_i _ _, by rw [new_T]⟩
    obtain ⟨E3, eE3, h⟩ := nb_e h
    refine m_prF (C := "Ballothall$BallotBox") (T := TX0) (N := 10) (ci := 0) (k := 4) (ty := (.array .int)) hx hb hts iX0 hown hG hP hD hS h_p0.1 h_p0.2 rfl (by decide) w_61 (fun _ h9 => h9) rfl rfl tyX0_ok nmX0 rfl hin rfl (by decide +kernel) h_p2.1 (fun _ => rfl) (fun _ => rfl) d_2_1_17 (fun H locs hP hD hS => ?_)
    have hP : va_P z.1 classes (wv z ad2 E3 M2) H := by rw [eE3]; exact hP
    have hD : va_D A (wv z ad2 E3 M2) := by rw [eE3]; exact hD
    have hgw3 : Gw E2 E3 := by rw [eE3]; exact gw_ref _ _ _ _
    have hE0 : nE E0 ≤ nE E3 := Nat.le_trans hE0 hgw3.1
    have h_p0 : isO 0 E3 p0 := isO_up hgw3 h_p0
    refine W.eq (g2 := F0 m 20 ls []) rfl ?_
    refine lv_aload_n hx hb d_2_1_20 rfl (lv_at hl 0 rfl) ?_
    refine lv_bipush (v := oI 31) hx hb d_2_1_21 (by decide +kernel) ?_
    obtain ⟨p4, ep4, h⟩ := nb_e h
    obtain ⟨E4, eE4, h⟩ := nb_e h
    obtain ⟨M4, eM4, h⟩ := nb_e h
    refine m_newI (x := (31 : Int)) (N := 31) hx hb (by decide) (by decide) (by decide) (hts _ w_100) hG hP hD hS hA (show _ ≤ mc by omega) (show _ ≤ ms by omega) d_2_1_23 (fun ad4 H hag4 hP hD hS => ?_)
    have hP : va_P z.1 classes (wv z ad4 E4 M4) H := by rw [eE4, eM4]; exact hP
    have hD : va_D A (wv z ad4 E4 M4) := by rw [eE4, eM4]; exact hD
    refine W.eq (g2 := F0 m 25 ls (.ref (ad4 p4) :: [.ref (ad4 p0)])) (by rw [ep4, hag4 p0 h_p0.1] <;> rfl) ?_
    have hl : lv_has ls 1 [(0, .ref (ad4 p0))] := by rw [hag4 p0 h_p0.1]; exact hl
    have hgw4 : Gw E3 E4 := by rw [eE4]; exact gw_new _ _
    have hag0 : ∀ i, i < nE E0 → ad4 i = ad0 i := fun i hi => (hag4 i (Nat.lt_of_lt_of_le hi hE0)).trans (hag0 i hi)
    have hE0 : nE E0 ≤ nE E4 := Nat.le_trans hE0 hgw4.1
    have h_p0 : isO 0 E4 p0 := isO_up hgw4 h_p0
    have h_p4 : isIA E4 p4 := by rw [ep4, eE4]; exact ⟨new_i _ _, by rw [new_T]⟩
    obtain ⟨E5, eE5, h⟩ := nb_e h
    refine m_prF (C := "Ballothall$BallotBox") (T := TX0) (N := 10) (ci := 0) (k := 5) (ty := (.array .int)) hx hb hts iX0 hown hG hP hD hS h_p0.1 h_p0.2 rfl (by decide) w_63 (fun _ h9 => h9) rfl rfl tyX0_ok nmX0 rfl hin rfl (by decide +kernel) h_p4.1 (fun _ => rfl) (fun _ => rfl) d_2_1_25 (fun H locs hP hD hS => ?_)
    have hP : va_P z.1 classes (wv z ad4 E5 M4) H := by rw [eE5]; exact hP
    have hD : va_D A (wv z ad4 E5 M4) := by rw [eE5]; exact hD
    have hgw5 : Gw E4 E5 := by rw [eE5]; exact gw_ref _ _ _ _
    have hE0 : nE E0 ≤ nE E5 := Nat.le_trans hE0 hgw5.1
    have h_p0 : isO 0 E5 p0 := isO_up hgw5 h_p0
    refine W.eq (g2 := F0 m 28 ls []) rfl ?_
    refine lv_aload_n hx hb d_2_1_28 rfl (lv_at hl 0 rfl) ?_
    refine lv_bipush (v := oI 31) hx hb d_2_1_29 (by decide +kernel) ?_
    obtain ⟨p6, ep6, h⟩ := nb_e h
    obtain ⟨E6, eE6, h⟩ := nb_e h
    obtain ⟨M6, eM6, h⟩ := nb_e h
    refine m_newI (x := (31 : Int)) (N := 31) hx hb (by decide) (by decide) (by decide) (hts _ w_100) hG hP hD hS hA (show _ ≤ mc by omega) (show _ ≤ ms by omega) d_2_1_31 (fun ad6 H hag6 hP hD hS => ?_)
    have hP : va_P z.1 classes (wv z ad6 E6 M6) H := by rw [eE6, eM6]; exact hP
    have hD : va_D A (wv z ad6 E6 M6) := by rw [eE6, eM6]; exact hD
    refine W.eq (g2 := F0 m 33 ls (.ref (ad6 p6) :: [.ref (ad6 p0)])) (by rw [ep6, hag6 p0 h_p0.1] <;> rfl) ?_
    have hl : lv_has ls 1 [(0, .ref (ad6 p0))] := by rw [hag6 p0 h_p0.1]; exact hl
    have hgw6 : Gw E5 E6 := by rw [eE6]; exact gw_new _ _
    have hag0 : ∀ i, i < nE E0 → ad6 i = ad0 i := fun i hi => (hag6 i (Nat.lt_of_lt_of_le hi hE0)).trans (hag0 i hi)
    have hE0 : nE E0 ≤ nE E6 := Nat.le_trans hE0 hgw6.1
    have h_p0 : isO 0 E6 p0 := isO_up hgw6 h_p0
    have h_p6 : isIA E6 p6 := by rw [ep6, eE6]; exact ⟨new_i _ _, by rw [new_T]⟩
    obtain ⟨E7, eE7, h⟩ := nb_e h
    refine m_prF (C := "Ballothall$BallotBox") (T := TX0) (N := 10) (ci := 0) (k := 6) (ty := (.array .int)) hx hb hts iX0 hown hG hP hD hS h_p0.1 h_p0.2 rfl (by decide) w_68 (fun _ h9 => h9) rfl rfl tyX0_ok nmX0 rfl hin rfl (by decide +kernel) h_p6.1 (fun _ => rfl) (fun _ => rfl) d_2_1_33 (fun H locs hP hD hS => ?_)
    have hP : va_P z.1 classes (wv z ad6 E7 M6) H := by rw [eE7]; exact hP
    have hD : va_D A (wv z ad6 E7 M6) := by rw [eE7]; exact hD
    have hgw7 : Gw E6 E7 := by rw [eE7]; exact gw_ref _ _ _ _
    have hE0 : nE E0 ≤ nE E7 := Nat.le_trans hE0 hgw7.1
    have h_p0 : isO 0 E7 p0 := isO_up hgw7 h_p0
    refine W.eq (g2 := F0 m 36 ls []) rfl ?_
    refine lv_aload_n hx hb d_2_1_36 rfl (lv_at hl 0 rfl) ?_
    refine lv_bipush (v := oI 31) hx hb d_2_1_37 (by decide +kernel) ?_
    obtain ⟨p8, ep8, h⟩ := nb_e h
    obtain ⟨E8, eE8, h⟩ := nb_e h
    obtain ⟨M8, eM8, h⟩ := nb_e h
    refine m_newI (x := (31 : Int)) (N := 31) hx hb (by decide) (by decide) (by decide) (hts _ w_100) hG hP hD hS hA (show _ ≤ mc by omega) (show _ ≤ ms by omega) d_2_1_39 (fun ad8 H hag8 hP hD hS => ?_)
    have hP : va_P z.1 classes (wv z ad8 E8 M8) H := by rw [eE8, eM8]; exact hP
    have hD : va_D A (wv z ad8 E8 M8) := by rw [eE8, eM8]; exact hD
    refine W.eq (g2 := F0 m 41 ls (.ref (ad8 p8) :: [.ref (ad8 p0)])) (by rw [ep8, hag8 p0 h_p0.1] <;> rfl) ?_
    have hl : lv_has ls 1 [(0, .ref (ad8 p0))] := by rw [hag8 p0 h_p0.1]; exact hl
    have hgw8 : Gw E7 E8 := by rw [eE8]; exact gw_new _ _
    have hag0 : ∀ i, i < nE E0 → ad8 i = ad0 i := fun i hi => (hag8 i (Nat.lt_of_lt_of_le hi hE0)).trans (hag0 i hi)
    have hE0 : nE E0 ≤ nE E8 := Nat.le_trans hE0 hgw8.1
    have h_p0 : isO 0 E8 p0 := isO_up hgw8 h_p0
    have h_p8 : isIA E8 p8 := by rw [ep8, eE8]; exact ⟨new_i _ _, by rw [new_T]⟩
    obtain ⟨E9, eE9, h⟩ := nb_e h
    refine m_prF (C := "Ballothall$BallotBox") (T := TX0) (N := 10) (ci := 0) (k := 7) (ty := (.array .int)) hx hb hts iX0 hown hG hP hD hS h_p0.1 h_p0.2 rfl (by decide) w_72 (fun _ h9 => h9) rfl rfl tyX0_ok nmX0 rfl hin rfl (by decide +kernel) h_p8.1 (fun _ => rfl) (fun _ => rfl) d_2_1_41 (fun H locs hP hD hS => ?_)
    have hP : va_P z.1 classes (wv z ad8 E9 M8) H := by rw [eE9]; exact hP
    have hD : va_D A (wv z ad8 E9 M8) := by rw [eE9]; exact hD
    have hgw9 : Gw E8 E9 := by rw [eE9]; exact gw_ref _ _ _ _
    have hE0 : nE E0 ≤ nE E9 := Nat.le_trans hE0 hgw9.1
    have h_p0 : isO 0 E9 p0 := isO_up hgw9 h_p0
    refine W.eq (g2 := F0 m 44 ls []) rfl ?_
    refine lv_aload_n hx hb d_2_1_44 rfl (lv_at hl 0 rfl) ?_
    refine lv_bipush (v := oI 31) hx hb d_2_1_45 (by decide +kernel) ?_
    refine lv_bipush (v := oI 8) hx hb d_2_1_47 (by decide +kernel) ?_
    obtain ⟨p10, ep10, h⟩ := nb_e h
    obtain ⟨E10, eE10, h⟩ := nb_e h
    obtain ⟨M10, eM10, h⟩ := nb_e h
    refine m_grid (x := (31 : Int)) (y := (8 : Int)) (N := 31) (K := 8) hx hb (by decide) (by decide) (by decide) (by decide) (by decide) (by decide) hown (hts _ w_46) (hts _ w_100) hG hP hD hS hA (show _ ≤ mc by omega) (show _ ≤ ms by omega) d_2_1_49 (fun ad10 H hag10 hP hD hS => ?_)
    have hP : va_P z.1 classes (wv z ad10 E10 M10) H := by rw [eE10, eM10]; exact hP
    have hD : va_D A (wv z ad10 E10 M10) := by rw [eE10, eM10]; exact hD
    refine W.eq (g2 := F0 m 53 ls (.ref (ad10 p10) :: [.ref (ad10 p0)])) (by rw [ep10, hag10 p0 h_p0.1] <;> rfl) ?_
    have hl : lv_has ls 1 [(0, .ref (ad10 p0))] := by rw [hag10 p0 h_p0.1]; exact hl
    have hgw10 : Gw E9 E10 := by rw [eE10]; exact gw_grid _ _ _
    have hag0 : ∀ i, i < nE E0 → ad10 i = ad0 i := fun i hi => (hag10 i (Nat.lt_of_lt_of_le hi hE0)).trans (hag0 i hi)
    have hE0 : nE E0 ≤ nE E10 := Nat.le_trans hE0 hgw10.1
    have h_p0 : isO 0 E10 p0 := isO_up hgw10 h_p0
    have h_p10 : isQ 6 E10 p10 := by rw [ep10, eE10]; exact ⟨grid_i _ _ _, by rw [grid_T]⟩
    obtain ⟨E11, eE11, h⟩ := nb_e h
    refine m_prF (C := "Ballothall$BallotBox") (T := TX0) (N := 10) (ci := 0) (k := 8) (ty := (.array (.array .int))) hx hb hts iX0 hown hG hP hD hS h_p0.1 h_p0.2 rfl (by decide) w_74 (fun _ h9 => h9) rfl rfl tyX0_ok nmX0 rfl hin rfl (by decide +kernel) h_p10.1 (fun _ => rfl) (fun _ => rfl) d_2_1_53 (fun H locs hP hD hS => ?_)
    have hP : va_P z.1 classes (wv z ad10 E11 M10) H := by rw [eE11]; exact hP
    have hD : va_D A (wv z ad10 E11 M10) := by rw [eE11]; exact hD
    have hgw11 : Gw E10 E11 := by rw [eE11]; exact gw_ref _ _ _ _
    have hE0 : nE E0 ≤ nE E11 := Nat.le_trans hE0 hgw11.1
    have h_p0 : isO 0 E11 p0 := isO_up hgw11 h_p0
    refine W.eq (g2 := F0 m 56 ls []) rfl ?_
    refine lv_aload_n hx hb d_2_1_56 rfl (lv_at hl 0 rfl) ?_
    refine lv_sipush (v := oI 256) hx hb d_2_1_57 (by decide +kernel) ?_
    obtain ⟨p12, ep12, h⟩ := nb_e h
    obtain ⟨E12, eE12, h⟩ := nb_e h
    obtain ⟨M12, eM12, h⟩ := nb_e h
    refine m_newI (x := (256 : Int)) (N := 256) hx hb (by decide) (by decide) (by decide) (hts _ w_100) hG hP hD hS hA (show _ ≤ mc by omega) (show _ ≤ ms by omega) d_2_1_60 (fun ad12 H hag12 hP hD hS => ?_)
    have hP : va_P z.1 classes (wv z ad12 E12 M12) H := by rw [eE12, eM12]; exact hP
    have hD : va_D A (wv z ad12 E12 M12) := by rw [eE12, eM12]; exact hD
    refine W.eq (g2 := F0 m 62 ls (.ref (ad12 p12) :: [.ref (ad12 p0)])) (by rw [ep12, hag12 p0 h_p0.1] <;> rfl) ?_
    have hl : lv_has ls 1 [(0, .ref (ad12 p0))] := by rw [hag12 p0 h_p0.1]; exact hl
    have hgw12 : Gw E11 E12 := by rw [eE12]; exact gw_new _ _
    have hag0 : ∀ i, i < nE E0 → ad12 i = ad0 i := fun i hi => (hag12 i (Nat.lt_of_lt_of_le hi hE0)).trans (hag0 i hi)
    have hE0 : nE E0 ≤ nE E12 := Nat.le_trans hE0 hgw12.1
    have h_p0 : isO 0 E12 p0 := isO_up hgw12 h_p0
    have h_p12 : isIA E12 p12 := by rw [ep12, eE12]; exact ⟨new_i _ _, by rw [new_T]⟩
    obtain ⟨E13, eE13, h⟩ := nb_e h
    refine m_prF (C := "Ballothall$BallotBox") (T := TX0) (N := 10) (ci := 0) (k := 9) (ty := (.array .int)) hx hb hts iX0 hown hG hP hD hS h_p0.1 h_p0.2 rfl (by decide) w_77 (fun _ h9 => h9) rfl rfl tyX0_ok nmX0 rfl hin rfl (by decide +kernel) h_p12.1 (fun _ => rfl) (fun _ => rfl) d_2_1_62 (fun H locs hP hD hS => ?_)
    have hP : va_P z.1 classes (wv z ad12 E13 M12) H := by rw [eE13]; exact hP
    have hD : va_D A (wv z ad12 E13 M12) := by rw [eE13]; exact hD
    have hgw13 : Gw E12 E13 := by rw [eE13]; exact gw_ref _ _ _ _
    have hE0 : nE E0 ≤ nE E13 := Nat.le_trans hE0 hgw13.1
    have h_p0 : isO 0 E13 p0 := isO_up hgw13 h_p0
    refine W.eq (g2 := F0 m 65 ls []) rfl ?_
    refine W.wide (k := c1) (n := s1) (by omega) (by omega) ?_
    obtain ⟨rfl, rfl⟩ := in2 h
    exact W.vret hx hb hr (fun t ht hW => qkA hP hD hS ad12 (congrArg (fun q => wv z q E13 M12) (adj_self hag0).symm) rfl ht) hS.2.2 d_2_1_65
  exact key E ad 38 666 0 0 38 666 _ _ _ (by decide) (by decide) (by decide) (by decide) (fun _ _ => rfl) (Nat.le_refl _) hts hP hS
set_option maxRecDepth 100000 in
set_option maxHeartbeats 4000000 in
theorem s_Po_init (l : Launch) (z : Zz) (ad : Nat → Nat) (E : Ev) (M : Mm) (p0 : Nat) (p1 : Nat) (F : Ev) (N : Mm) (h : f_Po_init E M p0 p1 = some (F, N)) : CT l z ⟨"Ballothall$Poll", "<init>", "(LBallothall$BallotBox;)V"⟩ prog_11_method_1_code 2 none [.ref (ad p0), .ref (ad p1)] (wv z ad E M) 1 40 9 455 (fun u => none) (fun u => wv z (adj E ad u) F N) := by
  refine CT.of (own := "Ballothall$Poll") (by decide +kernel) (Nat.le_of_ble_eq_true rfl) rfl (fun p e s m below meth c A ls hx hb hml hr hts hown hlocks hin hA hG hZ hP hD hS hl => ?_)
  have hl : lv_has ls 2 [(0, .ref (ad p0)), (1, .ref (ad p1))] := hl
  have key : ∀ (E0 : Ev) (ad0 : Nat → Nat) (mc ms c0 s0 c1 s1 : Nat) (H : Heap) (locs : List Loc) (args : Array Value), c0 + 9 ≤ c1 → s0 + 455 ≤ s1 → c1 ≤ mc → s1 ≤ ms → (∀ i, i < nE E0 → ad i = ad0 i) → nE E0 ≤ nE E → (∀ w ∈ WG, w.before args s = true) → va_P z.1 classes (wv z ad E M) H → va_S A s.heap H locs → W p l e (rmK 1 40 mc ms) s m args below meth c H locs c0 s0 (MQ below (QK z A (fun u => none) (fun u => wv z (adj E0 ad0 u) F N)) args s c1 s1 A) (F0 m 0 ls []) := by
    intro E0 ad0 mc ms c0 s0 c1 s1 H locs args hc hs hm hm2 hag0 hE0 hts hP hS
    unfold f_Po_init at h
    obtain ⟨h_p0, h⟩ := ck_e h
    obtain ⟨h_p1, h⟩ := ck_e h
    refine lv_aload_n hx hb d_11_1_0 rfl (lv_at hl 0 rfl) ?_
    refine W.objInit hx hb hown (hts _ w_106) (hts _ w_38) (hts _ w_obj) rfl (by rw [hml]; exact hl.1) rfl d_11_1_1 (Nat.le_of_ble_eq_true rfl) (Nat.le_of_ble_eq_true rfl) ?_
    refine W.eq (g2 := F0 m 4 ls []) rfl ?_
    refine lv_aload_n hx hb d_11_1_4 rfl (lv_at hl 0 rfl) ?_
    refine lv_bipush (v := oI 31) hx hb d_11_1_5 (by decide +kernel) ?_
    obtain ⟨p0, ep0, h⟩ := nb_e h
    obtain ⟨E0, eE0, h⟩ := nb_e h
    obtain ⟨M0, eM0, h⟩ := nb_e h
    refine m_newI (x := (31 : Int)) (N := 31) hx hb (by decide) (by decide) (by decide) (hts _ w_100) hG hP hD hS hA (show _ ≤ mc by omega) (show _ ≤ ms by omega) d_11_1_7 (fun ad0 H hag0 hP hD hS => ?_)
    have hP : va_P z.1 classes (wv z ad0 E0 M0) H := by rw [eE0, eM0]; exact hP
    have hD : va_D A (wv z ad0 E0 M0) := by rw [eE0, eM0]; exact hD
    refine W.eq (g2 := F0 m 9 ls (.ref (ad0 p0) :: [.ref (ad0 p0)])) (by rw [ep0, hag0 p0 h_p0.1] <;> rfl) ?_
    have hl : lv_has ls 2 [(0, .ref (ad0 p0)), (1, .ref (ad0 p1))] := by rw [hag0 p0 h_p0.1, hag0 p1 h_p1.1]; exact hl
    have hgw0 : Gw E E0 := by rw [eE0]; exact gw_new _ _
    have hag0 : ∀ i, i < nE E0 → ad0 i = ad0 i := fun i hi => (hag0 i (Nat.lt_of_lt_of_le hi hE0)).trans (hag0 i hi)
    have hE0 : nE E0 ≤ nE E0 := Nat.le_trans hE0 hgw0.1
    have h_p0 : isO 9 E0 p0 := isO_up hgw0 h_p0
    have h_p1 : isO 0 E0 p1 := isO_up hgw0 h_p1
    have h_p0 : isIA E0 p0 := by rw [ep0, eE0]; exact ⟨new_i _ _, by rw [new_T]⟩
    obtain ⟨E1, eE1, h⟩ := nb_e h
    refine m_prF (C := "Ballothall$Poll") (T := TX9) (N := 12) (ci := 9) (k := 3) (ty := (.array .int)) hx hb hts iX9 hown hG hP hD hS h_p0.1 h_p0.2 rfl (by decide) w_110 (fun _ h9 => h9) rfl rfl tyX9_ok nmX9 rfl hin rfl (by decide +kernel) h_p0.1 (fun _ => rfl) (fun _ => rfl) d_11_1_9 (fun H locs hP hD hS => ?_)
    have hP : va_P z.1 classes (wv z ad0 E1 M0) H := by rw [eE1]; exact hP
    have hD : va_D A (wv z ad0 E1 M0) := by rw [eE1]; exact hD
    have hgw1 : Gw E0 E1 := by rw [eE1]; exact gw_ref _ _ _ _
    have hE0 : nE E0 ≤ nE E1 := Nat.le_trans hE0 hgw1.1
    have h_p0 : isO 9 E1 p0 := isO_up hgw1 h_p0
    have h_p1 : isO 0 E1 p1 := isO_up hgw1 h_p1
    refine W.eq (g2 := F0 m 12 ls []) rfl ?_
    refine lv_aload_n hx hb d_11_1_12 rfl (lv_at hl 0 rfl) ?_
    refine lv_bipush (v := oI 8) hx hb d_11_1_13 (by decide +kernel) ?_
    obtain ⟨p2, ep2, h⟩ := nb_e h
    obtain ⟨E2, eE2, h⟩ := nb_e h
    obtain ⟨M2, eM2, h⟩ := nb_e h
    refine m_newI (x := (8 : Int)) (N := 8) hx hb (by decide) (by decide) (by decide) (hts _ w_100) hG hP hD hS hA (show _ ≤ mc by omega) (show _ ≤ ms by omega) d_11_1_15 (fun ad2 H hag2 hP hD hS => ?_)
    have hP : va_P z.1 classes (wv z ad2 E2 M2) H := by rw [eE2, eM2]; exact hP
    have hD : va_D A (wv z ad2 E2 M2) := by rw [eE2, eM2]; exact hD
    refine W.eq (g2 := F0 m 17 ls (.ref (ad2 p2) :: [.ref (ad2 p0)])) (by rw [ep2, hag2 p0 h_p0.1] <;> rfl) ?_
    have hl : lv_has ls 2 [(0, .ref (ad2 p0)), (1, .ref (ad2 p1))] := by rw [hag2 p0 h_p0.1, hag2 p1 h_p1.1]; exact hl
    have hgw2 : Gw E1 E2 := by rw [eE2]; exact gw_new _ _
    have hag0 : ∀ i, i < nE E0 → ad2 i = ad0 i := fun i hi => (hag2 i (Nat.lt_of_lt_of_le hi hE0)).trans (hag0 i hi)
    have hE0 : nE E0 ≤ nE E2 := Nat.le_trans hE0 hgw2.1
    have h_p0 : isO 9 E2 p0 := isO_up hgw2 h_p0
    have h_p1 : isO 0 E2 p1 := isO_up hgw2 h_p1
    have h_p2 : isIA E2 p2 := by rw [ep2, eE2]; exact ⟨new_i _ _, by rw [new_T]⟩
    obtain ⟨E3, eE3, h⟩ := nb_e h
    refine m_prF (C := "Ballothall$Poll") (T := TX9) (N := 12) (ci := 9) (k := 4) (ty := (.array .int)) hx hb hts iX9 hown hG hP hD hS h_p0.1 h_p0.2 rfl (by decide) w_111 (fun _ h9 => h9) rfl rfl tyX9_ok nmX9 rfl hin rfl (by decide +kernel) h_p2.1 (fun _ => rfl) (fun _ => rfl) d_11_1_17 (fun H locs hP hD hS => ?_)
    have hP : va_P z.1 classes (wv z ad2 E3 M2) H := by rw [eE3]; exact hP
    have hD : va_D A (wv z ad2 E3 M2) := by rw [eE3]; exact hD
    have hgw3 : Gw E2 E3 := by rw [eE3]; exact gw_ref _ _ _ _
    have hE0 : nE E0 ≤ nE E3 := Nat.le_trans hE0 hgw3.1
    have h_p0 : isO 9 E3 p0 := isO_up hgw3 h_p0
    have h_p1 : isO 0 E3 p1 := isO_up hgw3 h_p1
    refine W.eq (g2 := F0 m 20 ls []) rfl ?_
    refine lv_aload_n hx hb d_11_1_20 rfl (lv_at hl 0 rfl) ?_
    refine lv_bipush (v := oI 8) hx hb d_11_1_21 (by decide +kernel) ?_
    obtain ⟨p4, ep4, h⟩ := nb_e h
    obtain ⟨E4, eE4, h⟩ := nb_e h
    obtain ⟨M4, eM4, h⟩ := nb_e h
    refine m_newI (x := (8 : Int)) (N := 8) hx hb (by decide) (by decide) (by decide) (hts _ w_100) hG hP hD hS hA (show _ ≤ mc by omega) (show _ ≤ ms by omega) d_11_1_23 (fun ad4 H hag4 hP hD hS => ?_)
    have hP : va_P z.1 classes (wv z ad4 E4 M4) H := by rw [eE4, eM4]; exact hP
    have hD : va_D A (wv z ad4 E4 M4) := by rw [eE4, eM4]; exact hD
    refine W.eq (g2 := F0 m 25 ls (.ref (ad4 p4) :: [.ref (ad4 p0)])) (by rw [ep4, hag4 p0 h_p0.1] <;> rfl) ?_
    have hl : lv_has ls 2 [(0, .ref (ad4 p0)), (1, .ref (ad4 p1))] := by rw [hag4 p0 h_p0.1, hag4 p1 h_p1.1]; exact hl
    have hgw4 : Gw E3 E4 := by rw [eE4]; exact gw_new _ _
    have hag0 : ∀ i, i < nE E0 → ad4 i = ad0 i := fun i hi => (hag4 i (Nat.lt_of_lt_of_le hi hE0)).trans (hag0 i hi)
    have hE0 : nE E0 ≤ nE E4 := Nat.le_trans hE0 hgw4.1
    have h_p0 : isO 9 E4 p0 := isO_up hgw4 h_p0
    have h_p1 : isO 0 E4 p1 := isO_up hgw4 h_p1
    have h_p4 : isIA E4 p4 := by rw [ep4, eE4]; exact ⟨new_i _ _, by rw [new_T]⟩
    obtain ⟨E5, eE5, h⟩ := nb_e h
    refine m_prF (C := "Ballothall$Poll") (T := TX9) (N := 12) (ci := 9) (k := 5) (ty := (.array .int)) hx hb hts iX9 hown hG hP hD hS h_p0.1 h_p0.2 rfl (by decide) w_112 (fun _ h9 => h9) rfl rfl tyX9_ok nmX9 rfl hin rfl (by decide +kernel) h_p4.1 (fun _ => rfl) (fun _ => rfl) d_11_1_25 (fun H locs hP hD hS => ?_)
    have hP : va_P z.1 classes (wv z ad4 E5 M4) H := by rw [eE5]; exact hP
    have hD : va_D A (wv z ad4 E5 M4) := by rw [eE5]; exact hD
    have hgw5 : Gw E4 E5 := by rw [eE5]; exact gw_ref _ _ _ _
    have hE0 : nE E0 ≤ nE E5 := Nat.le_trans hE0 hgw5.1
    have h_p0 : isO 9 E5 p0 := isO_up hgw5 h_p0
    have h_p1 : isO 0 E5 p1 := isO_up hgw5 h_p1
    refine W.eq (g2 := F0 m 28 ls []) rfl ?_
    refine lv_aload_n hx hb d_11_1_28 rfl (lv_at hl 0 rfl) ?_
    refine lv_bipush (v := oI 64) hx hb d_11_1_29 (by decide +kernel) ?_
    obtain ⟨p6, ep6, h⟩ := nb_e h
    obtain ⟨E6, eE6, h⟩ := nb_e h
    obtain ⟨M6, eM6, h⟩ := nb_e h
    refine m_newI (x := (64 : Int)) (N := 64) hx hb (by decide) (by decide) (by decide) (hts _ w_100) hG hP hD hS hA (show _ ≤ mc by omega) (show _ ≤ ms by omega) d_11_1_31 (fun ad6 H hag6 hP hD hS => ?_)
    have hP : va_P z.1 classes (wv z ad6 E6 M6) H := by rw [eE6, eM6]; exact hP
    have hD : va_D A (wv z ad6 E6 M6) := by rw [eE6, eM6]; exact hD
    refine W.eq (g2 := F0 m 33 ls (.ref (ad6 p6) :: [.ref (ad6 p0)])) (by rw [ep6, hag6 p0 h_p0.1] <;> rfl) ?_
    have hl : lv_has ls 2 [(0, .ref (ad6 p0)), (1, .ref (ad6 p1))] := by rw [hag6 p0 h_p0.1, hag6 p1 h_p1.1]; exact hl
    have hgw6 : Gw E5 E6 := by rw [eE6]; exact gw_new _ _
    have hag0 : ∀ i, i < nE E0 → ad6 i = ad0 i := fun i hi => (hag6 i (Nat.lt_of_lt_of_le hi hE0)).trans (hag0 i hi)
    have hE0 : nE E0 ≤ nE E6 := Nat.le_trans hE0 hgw6.1
    have h_p0 : isO 9 E6 p0 := isO_up hgw6 h_p0
    have h_p1 : isO 0 E6 p1 := isO_up hgw6 h_p1
    have h_p6 : isIA E6 p6 := by rw [ep6, eE6]; exact ⟨new_i _ _, by rw [new_T]⟩
    obtain ⟨E7, eE7, h⟩ := nb_e h
    refine m_prF (C := "Ballothall$Poll") (T := TX9) (N := 12) (ci := 9) (k := 6) (ty := (.array .int)) hx hb hts iX9 hown hG hP hD hS h_p0.1 h_p0.2 rfl (by decide) w_113 (fun _ h9 => h9) rfl rfl tyX9_ok nmX9 rfl hin rfl (by decide +kernel) h_p6.1 (fun _ => rfl) (fun _ => rfl) d_11_1_33 (fun H locs hP hD hS => ?_)
    have hP : va_P z.1 classes (wv z ad6 E7 M6) H := by rw [eE7]; exact hP
    have hD : va_D A (wv z ad6 E7 M6) := by rw [eE7]; exact hD
    have hgw7 : Gw E6 E7 := by rw [eE7]; exact gw_ref _ _ _ _
    have hE0 : nE E0 ≤ nE E7 := Nat.le_trans hE0 hgw7.1
    have h_p0 : isO 9 E7 p0 := isO_up hgw7 h_p0
    have h_p1 : isO 0 E7 p1 := isO_up hgw7 h_p1
    refine W.eq (g2 := F0 m 36 ls []) rfl ?_
    refine lv_aload_n hx hb d_11_1_36 rfl (lv_at hl 0 rfl) ?_
    refine lv_bipush (v := oI 8) hx hb d_11_1_37 (by decide +kernel) ?_
    obtain ⟨p8, ep8, h⟩ := nb_e h
    obtain ⟨E8, eE8, h⟩ := nb_e h
    obtain ⟨M8, eM8, h⟩ := nb_e h
    refine m_newI (x := (8 : Int)) (N := 8) hx hb (by decide) (by decide) (by decide) (hts _ w_100) hG hP hD hS hA (show _ ≤ mc by omega) (show _ ≤ ms by omega) d_11_1_39 (fun ad8 H hag8 hP hD hS => ?_)
    have hP : va_P z.1 classes (wv z ad8 E8 M8) H := by rw [eE8, eM8]; exact hP
    have hD : va_D A (wv z ad8 E8 M8) := by rw [eE8, eM8]; exact hD
    refine W.eq (g2 := F0 m 41 ls (.ref (ad8 p8) :: [.ref (ad8 p0)])) (by rw [ep8, hag8 p0 h_p0.1] <;> rfl) ?_
    have hl : lv_has ls 2 [(0, .ref (ad8 p0)), (1, .ref (ad8 p1))] := by rw [hag8 p0 h_p0.1, hag8 p1 h_p1.1]; exact hl
    have hgw8 : Gw E7 E8 := by rw [eE8]; exact gw_new _ _
    have hag0 : ∀ i, i < nE E0 → ad8 i = ad0 i := fun i hi => (hag8 i (Nat.lt_of_lt_of_le hi hE0)).trans (hag0 i hi)
    have hE0 : nE E0 ≤ nE E8 := Nat.le_trans hE0 hgw8.1
    have h_p0 : isO 9 E8 p0 := isO_up hgw8 h_p0
    have h_p1 : isO 0 E8 p1 := isO_up hgw8 h_p1
    have h_p8 : isIA E8 p8 := by rw [ep8, eE8]; exact ⟨new_i _ _, by rw [new_T]⟩
    obtain ⟨E9, eE9, h⟩ := nb_e h
    refine m_prF (C := "Ballothall$Poll") (T := TX9) (N := 12) (ci := 9) (k := 7) (ty := (.array .int)) hx hb hts iX9 hown hG hP hD hS h_p0.1 h_p0.2 rfl (by decide) w_114 (fun _ h9 => h9) rfl rfl tyX9_ok nmX9 rfl hin rfl (by decide +kernel) h_p8.1 (fun _ => rfl) (fun _ => rfl) d_11_1_41 (fun H locs hP hD hS => ?_)
    have hP : va_P z.1 classes (wv z ad8 E9 M8) H := by rw [eE9]; exact hP
    have hD : va_D A (wv z ad8 E9 M8) := by rw [eE9]; exact hD
    have hgw9 : Gw E8 E9 := by rw [eE9]; exact gw_ref _ _ _ _
    have hE0 : nE E0 ≤ nE E9 := Nat.le_trans hE0 hgw9.1
    have h_p0 : isO 9 E9 p0 := isO_up hgw9 h_p0
    have h_p1 : isO 0 E9 p1 := isO_up hgw9 h_p1
    refine W.eq (g2 := F0 m 44 ls []) rfl ?_
    refine lv_aload_n hx hb d_11_1_44 rfl (lv_at hl 0 rfl) ?_
    refine lv_bipush (v := oI 64) hx hb d_11_1_45 (by decide +kernel) ?_
    obtain ⟨p10, ep10, h⟩ := nb_e h
    obtain ⟨E10, eE10, h⟩ := nb_e h
    obtain ⟨M10, eM10, h⟩ := nb_e h
    refine m_newI (x := (64 : Int)) (N := 64) hx hb (by decide) (by decide) (by decide) (hts _ w_100) hG hP hD hS hA (show _ ≤ mc by omega) (show _ ≤ ms by omega) d_11_1_47 (fun ad10 H hag10 hP hD hS => ?_)
    have hP : va_P z.1 classes (wv z ad10 E10 M10) H := by rw [eE10, eM10]; exact hP
    have hD : va_D A (wv z ad10 E10 M10) := by rw [eE10, eM10]; exact hD
    refine W.eq (g2 := F0 m 49 ls (.ref (ad10 p10) :: [.ref (ad10 p0)])) (by rw [ep10, hag10 p0 h_p0.1] <;> rfl) ?_
    have hl : lv_has ls 2 [(0, .ref (ad10 p0)), (1, .ref (ad10 p1))] := by rw [hag10 p0 h_p0.1, hag10 p1 h_p1.1]; exact hl
    have hgw10 : Gw E9 E10 := by rw [eE10]; exact gw_new _ _
    have hag0 : ∀ i, i < nE E0 → ad10 i = ad0 i := fun i hi => (hag10 i (Nat.lt_of_lt_of_le hi hE0)).trans (hag0 i hi)
    have hE0 : nE E0 ≤ nE E10 := Nat.le_trans hE0 hgw10.1
    have h_p0 : isO 9 E10 p0 := isO_up hgw10 h_p0
    have h_p1 : isO 0 E10 p1 := isO_up hgw10 h_p1
    have h_p10 : isIA E10 p10 := by rw [ep10, eE10]; exact ⟨new_i _ _, by rw [new_T]⟩
    obtain ⟨E11, eE11, h⟩ := nb_e h
    refine m_prF (C := "Ballothall$Poll") (T := TX9) (N := 12) (ci := 9) (k := 8) (ty := (.array .int)) hx hb hts iX9 hown hG hP hD hS h_p0.1 h_p0.2 rfl (by decide) w_115 (fun _ h9 => h9) rfl rfl tyX9_ok nmX9 rfl hin rfl (by decide +kernel) h_p10.1 (fun _ => rfl) (fun _ => rfl) d_11_1_49 (fun H locs hP hD hS => ?_)
    have hP : va_P z.1 classes (wv z ad10 E11 M10) H := by rw [eE11]; exact hP
    have hD : va_D A (wv z ad10 E11 M10) := by rw [eE11]; exact hD
    have hgw11 : Gw E10 E11 := by rw [eE11]; exact gw_ref _ _ _ _
    have hE0 : nE E0 ≤ nE E11 := Nat.le_trans hE0 hgw11.1
    have h_p0 : isO 9 E11 p0 := isO_up hgw11 h_p0
    have h_p1 : isO 0 E11 p1 := isO_up hgw11 h_p1
    refine W.eq (g2 := F0 m 52 ls []) rfl ?_
    refine lv_aload_n hx hb d_11_1_52 rfl (lv_at hl 0 rfl) ?_
    refine lv_bipush (v := oI 8) hx hb d_11_1_53 (by decide +kernel) ?_
    obtain ⟨p12, ep12, h⟩ := nb_e h
    obtain ⟨E12, eE12, h⟩ := nb_e h
    obtain ⟨M12, eM12, h⟩ := nb_e h
    refine m_newL (x := (8 : Int)) (N := 8) hx hb (by decide) (by decide) (by decide) (hts _ w_145) hG hP hD hS hA (show _ ≤ mc by omega) (show _ ≤ ms by omega) d_11_1_55 (fun ad12 H hag12 hP hD hS => ?_)
    have hP : va_P z.1 classes (wv z ad12 E12 M12) H := by rw [eE12, eM12]; exact hP
    have hD : va_D A (wv z ad12 E12 M12) := by rw [eE12, eM12]; exact hD
    refine W.eq (g2 := F0 m 57 ls (.ref (ad12 p12) :: [.ref (ad12 p0)])) (by rw [ep12, hag12 p0 h_p0.1] <;> rfl) ?_
    have hl : lv_has ls 2 [(0, .ref (ad12 p0)), (1, .ref (ad12 p1))] := by rw [hag12 p0 h_p0.1, hag12 p1 h_p1.1]; exact hl
    have hgw12 : Gw E11 E12 := by rw [eE12]; exact gw_new _ _
    have hag0 : ∀ i, i < nE E0 → ad12 i = ad0 i := fun i hi => (hag12 i (Nat.lt_of_lt_of_le hi hE0)).trans (hag0 i hi)
    have hE0 : nE E0 ≤ nE E12 := Nat.le_trans hE0 hgw12.1
    have h_p0 : isO 9 E12 p0 := isO_up hgw12 h_p0
    have h_p1 : isO 0 E12 p1 := isO_up hgw12 h_p1
    have h_p12 : isLA E12 p12 := by rw [ep12, eE12]; exact ⟨new_i _ _, by rw [new_T]⟩
    obtain ⟨E13, eE13, h⟩ := nb_e h
    refine m_prF (C := "Ballothall$Poll") (T := TX9) (N := 12) (ci := 9) (k := 9) (ty := (.array .long)) hx hb hts iX9 hown hG hP hD hS h_p0.1 h_p0.2 rfl (by decide) w_116 (fun _ h9 => h9) rfl rfl tyX9_ok nmX9 rfl hin rfl (by decide +kernel) h_p12.1 (fun _ => rfl) (fun _ => rfl) d_11_1_57 (fun H locs hP hD hS => ?_)
    have hP : va_P z.1 classes (wv z ad12 E13 M12) H := by rw [eE13]; exact hP
    have hD : va_D A (wv z ad12 E13 M12) := by rw [eE13]; exact hD
    have hgw13 : Gw E12 E13 := by rw [eE13]; exact gw_ref _ _ _ _
    have hE0 : nE E0 ≤ nE E13 := Nat.le_trans hE0 hgw13.1
    have h_p0 : isO 9 E13 p0 := isO_up hgw13 h_p0
    have h_p1 : isO 0 E13 p1 := isO_up hgw13 h_p1
    refine W.eq (g2 := F0 m 60 ls []) rfl ?_
    refine lv_aload_n hx hb d_11_1_60 rfl (lv_at hl 0 rfl) ?_
    refine lv_bipush (v := oI 8) hx hb d_11_1_61 (by decide +kernel) ?_
    obtain ⟨p14, ep14, h⟩ := nb_e h
    obtain ⟨E14, eE14, h⟩ := nb_e h
    obtain ⟨M14, eM14, h⟩ := nb_e h
    refine m_newI (x := (8 : Int)) (N := 8) hx hb (by decide) (by decide) (by decide) (hts _ w_100) hG hP hD hS hA (show _ ≤ mc by omega) (show _ ≤ ms by omega) d_11_1_63 (fun ad14 H hag14 hP hD hS => ?_)
    have hP : va_P z.1 classes (wv z ad14 E14 M14) H := by rw [eE14, eM14]; exact hP
    have hD : va_D A (wv z ad14 E14 M14) := by rw [eE14, eM14]; exact hD
    refine W.eq (g2 := F0 m 65 ls (.ref (ad14 p14) :: [.ref (ad14 p0)])) (by rw [ep14, hag14 p0 h_p0.1] <;> rfl) ?_
    have hl : lv_has ls 2 [(0, .ref (ad14 p0)), (1, .ref (ad14 p1))] := by rw [hag14 p0 h_p0.1, hag14 p1 h_p1.1]; exact hl
    have hgw14 : Gw E13 E14 := by rw [eE14]; exact gw_new _ _
    have hag0 : ∀ i, i < nE E0 → ad14 i = ad0 i := fun i hi => (hag14 i (Nat.lt_of_lt_of_le hi hE0)).trans (hag0 i hi)
    have hE0 : nE E0 ≤ nE E14 := Nat.le_trans hE0 hgw14.1
    have h_p0 : isO 9 E14 p0 := isO_up hgw14 h_p0
    have h_p1 : isO 0 E14 p1 := isO_up hgw14 h_p1
    have h_p14 : isIA E14 p14 := by rw [ep14, eE14]; exact ⟨new_i _ _, by rw [new_T]⟩
    obtain ⟨E15, eE15, h⟩ := nb_e h
    refine m_prF (C := "Ballothall$Poll") (T := TX9) (N := 12) (ci := 9) (k := 10) (ty := (.array .int)) hx hb hts iX9 hown hG hP hD hS h_p0.1 h_p0.2 rfl (by decide) w_117 (fun _ h9 => h9) rfl rfl tyX9_ok nmX9 rfl hin rfl (by decide +kernel) h_p14.1 (fun _ => rfl) (fun _ => rfl) d_11_1_65 (fun H locs hP hD hS => ?_)
    have hP : va_P z.1 classes (wv z ad14 E15 M14) H := by rw [eE15]; exact hP
    have hD : va_D A (wv z ad14 E15 M14) := by rw [eE15]; exact hD
    have hgw15 : Gw E14 E15 := by rw [eE15]; exact gw_ref _ _ _ _
    have hE0 : nE E0 ≤ nE E15 := Nat.le_trans hE0 hgw15.1
    have h_p0 : isO 9 E15 p0 := isO_up hgw15 h_p0
    have h_p1 : isO 0 E15 p1 := isO_up hgw15 h_p1
    refine W.eq (g2 := F0 m 68 ls []) rfl ?_
    refine lv_aload_n hx hb d_11_1_68 rfl (lv_at hl 0 rfl) ?_
    refine lv_sipush (v := oI 256) hx hb d_11_1_69 (by decide +kernel) ?_
    obtain ⟨p16, ep16, h⟩ := nb_e h
    obtain ⟨E16, eE16, h⟩ := nb_e h
    obtain ⟨M16, eM16, h⟩ := nb_e h
    refine m_newL (x := (256 : Int)) (N := 256) hx hb (by decide) (by decide) (by decide) (hts _ w_145) hG hP hD hS hA (show _ ≤ mc by omega) (show _ ≤ ms by omega) d_11_1_72 (fun ad16 H hag16 hP hD hS => ?_)
    have hP : va_P z.1 classes (wv z ad16 E16 M16) H := by rw [eE16, eM16]; exact hP
    have hD : va_D A (wv z ad16 E16 M16) := by rw [eE16, eM16]; exact hD
    refine W.eq (g2 := F0 m 74 ls (.ref (ad16 p16) :: [.ref (ad16 p0)])) (by rw [ep16, hag16 p0 h_p0.1] <;> rfl) ?_
    have hl : lv_has ls 2 [(0, .ref (ad16 p0)), (1, .ref (ad16 p1))] := by rw [hag16 p0 h_p0.1, hag16 p1 h_p1.1]; exact hl
    have hgw16 : Gw E15 E16 := by rw [eE16]; exact gw_new _ _
    have hag0 : ∀ i, i < nE E0 → ad16 i = ad0 i := fun i hi => (hag16 i (Nat.lt_of_lt_of_le hi hE0)).trans (hag0 i hi)
    have hE0 : nE E0 ≤ nE E16 := Nat.le_trans hE0 hgw16.1
    have h_p0 : isO 9 E16 p0 := isO_up hgw16 h_p0
    have h_p1 : isO 0 E16 p1 := isO_up hgw16 h_p1
    have h_p16 : isLA E16 p16 := by rw [ep16, eE16]; exact ⟨new_i _ _, by rw [new_T]⟩
    obtain ⟨E17, eE17, h⟩ := nb_e h
    refine m_prF (C := "Ballothall$Poll") (T := TX9) (N := 12) (ci := 9) (k := 11) (ty := (.array .long)) hx hb hts iX9 hown hG hP hD hS h_p0.1 h_p0.2 rfl (by decide) w_118 (fun _ h9 => h9) rfl rfl tyX9_ok nmX9 rfl hin rfl (by decide +kernel) h_p16.1 (fun _ => rfl) (fun _ => rfl) d_11_1_74 (fun H locs hP hD hS => ?_)
    have hP : va_P z.1 classes (wv z ad16 E17 M16) H := by rw [eE17]; exact hP
    have hD : va_D A (wv z ad16 E17 M16) := by rw [eE17]; exact hD
    have hgw17 : Gw E16 E17 := by rw [eE17]; exact gw_ref _ _ _ _
    have hE0 : nE E0 ≤ nE E17 := Nat.le_trans hE0 hgw17.1
    have h_p0 : isO 9 E17 p0 := isO_up hgw17 h_p0
    have h_p1 : isO 0 E17 p1 := isO_up hgw17 h_p1
    refine W.eq (g2 := F0 m 77 ls []) rfl ?_
    refine lv_aload_n hx hb d_11_1_77 rfl (lv_at hl 0 rfl) ?_
    refine lv_aload_n hx hb d_11_1_78 rfl (lv_at hl 1 rfl) ?_
    obtain ⟨E18, eE18, h⟩ := nb_e h
    refine m_prF (C := "Ballothall$Poll") (T := TX9) (N := 12) (ci := 9) (k := 0) (ty := (.object "Ballothall$BallotBox")) hx hb hts iX9 hown hG hP hD hS h_p0.1 h_p0.2 rfl (by decide) w_107 (fun _ h9 => h9) rfl rfl tyX9_ok nmX9 rfl hin rfl (by decide +kernel) h_p1.1 (fun _ => rfl) (fun _ => rfl) d_11_1_79 (fun H locs hP hD hS => ?_)
    have hP : va_P z.1 classes (wv z ad16 E18 M16) H := by rw [eE18]; exact hP
    have hD : va_D A (wv z ad16 E18 M16) := by rw [eE18]; exact hD
    have hgw18 : Gw E17 E18 := by rw [eE18]; exact gw_ref _ _ _ _
    have hE0 : nE E0 ≤ nE E18 := Nat.le_trans hE0 hgw18.1
    have h_p0 : isO 9 E18 p0 := isO_up hgw18 h_p0
    have h_p1 : isO 0 E18 p1 := isO_up hgw18 h_p1
    refine W.eq (g2 := F0 m 82 ls []) rfl ?_
    refine W.wide (k := c1) (n := s1) (by omega) (by omega) ?_
    obtain ⟨rfl, rfl⟩ := in2 h
    exact W.vret hx hb hr (fun t ht hW => qkA hP hD hS ad16 (congrArg (fun q => wv z q E18 M16) (adj_self hag0).symm) rfl ht) hS.2.2 d_11_1_82
  exact key E ad 9 455 0 0 9 455 _ _ _ (by decide) (by decide) (by decide) (by decide) (fun _ _ => rfl) (Nat.le_refl _) hts hP hS
set_option maxRecDepth 100000 in
set_option maxHeartbeats 4000000 in
theorem s_Fb_init (l : Launch) (z : Zz) (ad : Nat → Nat) (E : Ev) (M : Mm) (p0 : Nat) (p1 : Nat) (p2 : Nat) (F : Ev) (N : Mm) (h : f_Fb_init E M p0 p1 p2 = some (F, N)) : CT l z ⟨"Ballothall$FalseBallot", "<init>", "(LBallothall$BallotBox;LBallothall$Poll;)V"⟩ prog_7_method_1_code 3 none [.ref (ad p0), .ref (ad p1), .ref (ad p2)] (wv z ad E M) 1 40 1 5 (fun u => none) (fun u => wv z (adj E ad u) F N) := by
  refine CT.of (own := "Ballothall$FalseBallot") (by decide +kernel) (Nat.le_of_ble_eq_true rfl) rfl (fun p e s m below meth c A ls hx hb hml hr hts hown hlocks hin hA hG hZ hP hD hS hl => ?_)
  have hl : lv_has ls 3 [(0, .ref (ad p0)), (1, .ref (ad p1)), (2, .ref (ad p2))] := hl
  have key : ∀ (E0 : Ev) (ad0 : Nat → Nat) (mc ms c0 s0 c1 s1 : Nat) (H : Heap) (locs : List Loc) (args : Array Value), c0 + 1 ≤ c1 → s0 + 5 ≤ s1 → c1 ≤ mc → s1 ≤ ms → (∀ i, i < nE E0 → ad i = ad0 i) → nE E0 ≤ nE E → (∀ w ∈ WG, w.before args s = true) → va_P z.1 classes (wv z ad E M) H → va_S A s.heap H locs → W p l e (rmK 1 40 mc ms) s m args below meth c H locs c0 s0 (MQ below (QK z A (fun u => none) (fun u => wv z (adj E0 ad0 u) F N)) args s c1 s1 A) (F0 m 0 ls []) := by
    intro E0 ad0 mc ms c0 s0 c1 s1 H locs args hc hs hm hm2 hag0 hE0 hts hP hS
    unfold f_Fb_init at h
    obtain ⟨h_p0, h⟩ := ck_e h
    obtain ⟨h_p1, h⟩ := ck_e h
    obtain ⟨h_p2, h⟩ := ck_e h
    refine lv_aload_n hx hb d_7_1_0 rfl (lv_at hl 0 rfl) ?_
    refine W.objInit hx hb hown (hts _ w_151) (hts _ w_38) (hts _ w_obj) rfl (by rw [hml]; exact hl.1) rfl d_7_1_1 (Nat.le_of_ble_eq_true rfl) (Nat.le_of_ble_eq_true rfl) ?_
    refine W.eq (g2 := F0 m 4 ls []) rfl ?_
    refine lv_aload_n hx hb d_7_1_4 rfl (lv_at hl 0 rfl) ?_
    refine lv_iconst (v := oI 5) hx hb d_7_1_5 (by decide +kernel) ?_
    obtain ⟨p0, ep0, h⟩ := nb_e h
    obtain ⟨E0, eE0, h⟩ := nb_e h
    obtain ⟨M0, eM0, h⟩ := nb_e h
    refine m_newI (x := (5 : Int)) (N := 5) hx hb (by decide) (by decide) (by decide) (hts _ w_100) hG hP hD hS hA (show _ ≤ mc by omega) (show _ ≤ ms by omega) d_7_1_6 (fun ad0 H hag0 hP hD hS => ?_)
    have hP : va_P z.1 classes (wv z ad0 E0 M0) H := by rw [eE0, eM0]; exact hP
    have hD : va_D A (wv z ad0 E0 M0) := by rw [eE0, eM0]; exact hD
    refine W.eq (g2 := F0 m 8 ls (.ref (ad0 p0) :: [.ref (ad0 p0)])) (by rw [ep0, hag0 p0 h_p0.1] <;> rfl) ?_
    have hl : lv_has ls 3 [(0, .ref (ad0 p0)), (1, .ref (ad0 p1)), (2, .ref (ad0 p2))] := by rw [hag0 p0 h_p0.1, hag0 p1 h_p1.1, hag0 p2 h_p2.1]; exact hl
    have hgw0 : Gw E E0 := by rw [eE0]; exact gw_new _ _
    have hag0 : ∀ i, i < nE E0 → ad0 i = ad0 i := fun i hi => (hag0 i (Nat.lt_of_lt_of_le hi hE0)).trans (hag0 i hi)
    have hE0 : nE E0 ≤ nE E0 := Nat.le_trans hE0 hgw0.1
    have h_p0 : isO 5 E0 p0 := isO_up hgw0 h_p0
    have h_p1 : isO 0 E0 p1 := isO_up hgw0 h_p1
    have h_p2 : isO 9 E0 p2 := isO_up hgw0 h_p2
    have h_p0 : isIA E0 p0 := by rw [ep0, eE0]; exact ⟨new_i _ _, by rw [new_T]⟩
    obtain ⟨E1, eE1, h⟩ := nb_e h
    refine m_prF (C := "Ballothall$FalseBallot") (T := TX5) (N := 3) (ci := 5) (k := 2) (ty := (.array .int)) hx hb hts iX5 hown hG hP hD hS h_p0.1 h_p0.2 rfl (by decide) w_154 (fun _ h9 => h9) rfl rfl tyX5_ok nmX5 rfl hin rfl (by decide +kernel) h_p0.1 (fun _ => rfl) (fun _ => rfl) d_7_1_8 (fun H locs hP hD hS => ?_)
    have hP : va_P z.1 classes (wv z ad0 E1 M0) H := by rw [eE1]; exact hP
    have hD : va_D A (wv z ad0 E1 M0) := by rw [eE1]; exact hD
    have hgw1 : Gw E0 E1 := by rw [eE1]; exact gw_ref _ _ _ _
    have hE0 : nE E0 ≤ nE E1 := Nat.le_trans hE0 hgw1.1
    have h_p0 : isO 5 E1 p0 := isO_up hgw1 h_p0
    have h_p1 : isO 0 E1 p1 := isO_up hgw1 h_p1
    have h_p2 : isO 9 E1 p2 := isO_up hgw1 h_p2
    refine W.eq (g2 := F0 m 11 ls []) rfl ?_
    refine lv_aload_n hx hb d_7_1_11 rfl (lv_at hl 0 rfl) ?_
    refine lv_aload_n hx hb d_7_1_12 rfl (lv_at hl 1 rfl) ?_
    obtain ⟨E2, eE2, h⟩ := nb_e h
    refine m_prF (C := "Ballothall$FalseBallot") (T := TX5) (N := 3) (ci := 5) (k := 0) (ty := (.object "Ballothall$BallotBox")) hx hb hts iX5 hown hG hP hD hS h_p0.1 h_p0.2 rfl (by decide) w_152 (fun _ h9 => h9) rfl rfl tyX5_ok nmX5 rfl hin rfl (by decide +kernel) h_p1.1 (fun _ => rfl) (fun _ => rfl) d_7_1_13 (fun H locs hP hD hS => ?_)
    have hP : va_P z.1 classes (wv z ad0 E2 M0) H := by rw [eE2]; exact hP
    have hD : va_D A (wv z ad0 E2 M0) := by rw [eE2]; exact hD
    have hgw2 : Gw E1 E2 := by rw [eE2]; exact gw_ref _ _ _ _
    have hE0 : nE E0 ≤ nE E2 := Nat.le_trans hE0 hgw2.1
    have h_p0 : isO 5 E2 p0 := isO_up hgw2 h_p0
    have h_p1 : isO 0 E2 p1 := isO_up hgw2 h_p1
    have h_p2 : isO 9 E2 p2 := isO_up hgw2 h_p2
    refine W.eq (g2 := F0 m 16 ls []) rfl ?_
    refine lv_aload_n hx hb d_7_1_16 rfl (lv_at hl 0 rfl) ?_
    refine lv_aload_n hx hb d_7_1_17 rfl (lv_at hl 2 rfl) ?_
    obtain ⟨E3, eE3, h⟩ := nb_e h
    refine m_prF (C := "Ballothall$FalseBallot") (T := TX5) (N := 3) (ci := 5) (k := 1) (ty := (.object "Ballothall$Poll")) hx hb hts iX5 hown hG hP hD hS h_p0.1 h_p0.2 rfl (by decide) w_153 (fun _ h9 => h9) rfl rfl tyX5_ok nmX5 rfl hin rfl (by decide +kernel) h_p2.1 (fun _ => rfl) (fun _ => rfl) d_7_1_18 (fun H locs hP hD hS => ?_)
    have hP : va_P z.1 classes (wv z ad0 E3 M0) H := by rw [eE3]; exact hP
    have hD : va_D A (wv z ad0 E3 M0) := by rw [eE3]; exact hD
    have hgw3 : Gw E2 E3 := by rw [eE3]; exact gw_ref _ _ _ _
    have hE0 : nE E0 ≤ nE E3 := Nat.le_trans hE0 hgw3.1
    have h_p0 : isO 5 E3 p0 := isO_up hgw3 h_p0
    have h_p1 : isO 0 E3 p1 := isO_up hgw3 h_p1
    have h_p2 : isO 9 E3 p2 := isO_up hgw3 h_p2
    refine W.eq (g2 := F0 m 21 ls []) rfl ?_
    refine W.wide (k := c1) (n := s1) (by omega) (by omega) ?_
    obtain ⟨rfl, rfl⟩ := in2 h
    exact W.vret hx hb hr (fun t ht hW => qkA hP hD hS ad0 (congrArg (fun q => wv z q E3 M0) (adj_self hag0).symm) rfl ht) hS.2.2 d_7_1_21
  exact key E ad 1 5 0 0 1 5 _ _ _ (by decide) (by decide) (by decide) (by decide) (fun _ _ => rfl) (Nat.le_refl _) hts hP hS
set_option maxRecDepth 100000 in
set_option maxHeartbeats 4000000 in
theorem s_Di_init (l : Launch) (z : Zz) (ad : Nat → Nat) (E : Ev) (M : Mm) (p0 : Nat) (F : Ev) (N : Mm) (h : f_Di_init E M p0 = some (F, N)) : CT l z ⟨"Ballothall$Division", "<init>", "()V"⟩ prog_6_method_1_code 1 none [.ref (ad p0)] (wv z ad E M) 1 40 6 101 (fun u => none) (fun u => wv z (adj E ad u) F N) := by
  refine CT.of (own := "Ballothall$Division") (by decide +kernel) (Nat.le_of_ble_eq_true rfl) rfl (fun p e s m below meth c A ls hx hb hml hr hts hown hlocks hin hA hG hZ hP hD hS hl => ?_)
  have hl : lv_has ls 1 [(0, .ref (ad p0))] := hl
  have key : ∀ (E0 : Ev) (ad0 : Nat → Nat) (mc ms c0 s0 c1 s1 : Nat) (H : Heap) (locs : List Loc) (args : Array Value), c0 + 6 ≤ c1 → s0 + 101 ≤ s1 → c1 ≤ mc → s1 ≤ ms → (∀ i, i < nE E0 → ad i = ad0 i) → nE E0 ≤ nE E → (∀ w ∈ WG, w.before args s = true) → va_P z.1 classes (wv z ad E M) H → va_S A s.heap H locs → W p l e (rmK 1 40 mc ms) s m args below meth c H locs c0 s0 (MQ below (QK z A (fun u => none) (fun u => wv z (adj E0 ad0 u) F N)) args s c1 s1 A) (F0 m 0 ls []) := by
    intro E0 ad0 mc ms c0 s0 c1 s1 H locs args hc hs hm hm2 hag0 hE0 hts hP hS
    unfold f_Di_init at h
    obtain ⟨h_p0, h⟩ := ck_e h
    refine lv_aload_n hx hb d_6_1_0 rfl (lv_at hl 0 rfl) ?_
    refine W.objInit hx hb hown (hts _ w_174) (hts _ w_38) (hts _ w_obj) rfl (by rw [hml]; exact hl.1) rfl d_6_1_1 (Nat.le_of_ble_eq_true rfl) (Nat.le_of_ble_eq_true rfl) ?_
    refine W.eq (g2 := F0 m 4 ls []) rfl ?_
    refine lv_aload_n hx hb d_6_1_4 rfl (lv_at hl 0 rfl) ?_
    refine lv_bipush (v := oI 8) hx hb d_6_1_5 (by decide +kernel) ?_
    obtain ⟨p0, ep0, h⟩ := nb_e h
    obtain ⟨E0, eE0, h⟩ := nb_e h
    obtain ⟨M0, eM0, h⟩ := nb_e h
    refine m_newI (x := (8 : Int)) (N := 8) hx hb (by decide) (by decide) (by decide) (hts _ w_100) hG hP hD hS hA (show _ ≤ mc by omega) (show _ ≤ ms by omega) d_6_1_7 (fun ad0 H hag0 hP hD hS => ?_)
    have hP : va_P z.1 classes (wv z ad0 E0 M0) H := by rw [eE0, eM0]; exact hP
    have hD : va_D A (wv z ad0 E0 M0) := by rw [eE0, eM0]; exact hD
    refine W.eq (g2 := F0 m 9 ls (.ref (ad0 p0) :: [.ref (ad0 p0)])) (by rw [ep0, hag0 p0 h_p0.1] <;> rfl) ?_
    have hl : lv_has ls 1 [(0, .ref (ad0 p0))] := by rw [hag0 p0 h_p0.1]; exact hl
    have hgw0 : Gw E E0 := by rw [eE0]; exact gw_new _ _
    have hag0 : ∀ i, i < nE E0 → ad0 i = ad0 i := fun i hi => (hag0 i (Nat.lt_of_lt_of_le hi hE0)).trans (hag0 i hi)
    have hE0 : nE E0 ≤ nE E0 := Nat.le_trans hE0 hgw0.1
    have h_p0 : isO 4 E0 p0 := isO_up hgw0 h_p0
    have h_p0 : isIA E0 p0 := by rw [ep0, eE0]; exact ⟨new_i _ _, by rw [new_T]⟩
    obtain ⟨E1, eE1, h⟩ := nb_e h
    refine m_prF (C := "Ballothall$Division") (T := TX4) (N := 8) (ci := 4) (k := 2) (ty := (.array .int)) hx hb hts iX4 hown hG hP hD hS h_p0.1 h_p0.2 rfl (by decide) w_179 (fun _ h9 => h9) rfl rfl tyX4_ok nmX4 rfl hin rfl (by decide +kernel) h_p0.1 (fun _ => rfl) (fun _ => rfl) d_6_1_9 (fun H locs hP hD hS => ?_)
    have hP : va_P z.1 classes (wv z ad0 E1 M0) H := by rw [eE1]; exact hP
    have hD : va_D A (wv z ad0 E1 M0) := by rw [eE1]; exact hD
    have hgw1 : Gw E0 E1 := by rw [eE1]; exact gw_ref _ _ _ _
    have hE0 : nE E0 ≤ nE E1 := Nat.le_trans hE0 hgw1.1
    have h_p0 : isO 4 E1 p0 := isO_up hgw1 h_p0
    refine W.eq (g2 := F0 m 12 ls []) rfl ?_
    refine lv_aload_n hx hb d_6_1_12 rfl (lv_at hl 0 rfl) ?_
    refine lv_bipush (v := oI 8) hx hb d_6_1_13 (by decide +kernel) ?_
    obtain ⟨p2, ep2, h⟩ := nb_e h
    obtain ⟨E2, eE2, h⟩ := nb_e h
    obtain ⟨M2, eM2, h⟩ := nb_e h
    refine m_newL (x := (8 : Int)) (N := 8) hx hb (by decide) (by decide) (by decide) (hts _ w_145) hG hP hD hS hA (show _ ≤ mc by omega) (show _ ≤ ms by omega) d_6_1_15 (fun ad2 H hag2 hP hD hS => ?_)
    have hP : va_P z.1 classes (wv z ad2 E2 M2) H := by rw [eE2, eM2]; exact hP
    have hD : va_D A (wv z ad2 E2 M2) := by rw [eE2, eM2]; exact hD
    refine W.eq (g2 := F0 m 17 ls (.ref (ad2 p2) :: [.ref (ad2 p0)])) (by rw [ep2, hag2 p0 h_p0.1] <;> rfl) ?_
    have hl : lv_has ls 1 [(0, .ref (ad2 p0))] := by rw [hag2 p0 h_p0.1]; exact hl
    have hgw2 : Gw E1 E2 := by rw [eE2]; exact gw_new _ _
    have hag0 : ∀ i, i < nE E0 → ad2 i = ad0 i := fun i hi => (hag2 i (Nat.lt_of_lt_of_le hi hE0)).trans (hag0 i hi)
    have hE0 : nE E0 ≤ nE E2 := Nat.le_trans hE0 hgw2.1
    have h_p0 : isO 4 E2 p0 := isO_up hgw2 h_p0
    have h_p2 : isLA E2 p2 := by rw [ep2, eE2]; exact ⟨new_i _ _, by rw [new_T]⟩
    obtain ⟨E3, eE3, h⟩ := nb_e h
    refine m_prF (C := "Ballothall$Division") (T := TX4) (N := 8) (ci := 4) (k := 3) (ty := (.array .long)) hx hb hts iX4 hown hG hP hD hS h_p0.1 h_p0.2 rfl (by decide) w_181 (fun _ h9 => h9) rfl rfl tyX4_ok nmX4 rfl hin rfl (by decide +kernel) h_p2.1 (fun _ => rfl) (fun _ => rfl) d_6_1_17 (fun H locs hP hD hS => ?_)
    have hP : va_P z.1 classes (wv z ad2 E3 M2) H := by rw [eE3]; exact hP
    have hD : va_D A (wv z ad2 E3 M2) := by rw [eE3]; exact hD
    have hgw3 : Gw E2 E3 := by rw [eE3]; exact gw_ref _ _ _ _
    have hE0 : nE E0 ≤ nE E3 := Nat.le_trans hE0 hgw3.1
    have h_p0 : isO 4 E3 p0 := isO_up hgw3 h_p0
    refine W.eq (g2 := F0 m 20 ls []) rfl ?_
    refine lv_aload_n hx hb d_6_1_20 rfl (lv_at hl 0 rfl) ?_
    refine lv_bipush (v := oI 8) hx hb d_6_1_21 (by decide +kernel) ?_
    obtain ⟨p4, ep4, h⟩ := nb_e h
    obtain ⟨E4, eE4, h⟩ := nb_e h
    obtain ⟨M4, eM4, h⟩ := nb_e h
    refine m_newI (x := (8 : Int)) (N := 8) hx hb (by decide) (by decide) (by decide) (hts _ w_100) hG hP hD hS hA (show _ ≤ mc by omega) (show _ ≤ ms by omega) d_6_1_23 (fun ad4 H hag4 hP hD hS => ?_)
    have hP : va_P z.1 classes (wv z ad4 E4 M4) H := by rw [eE4, eM4]; exact hP
    have hD : va_D A (wv z ad4 E4 M4) := by rw [eE4, eM4]; exact hD
    refine W.eq (g2 := F0 m 25 ls (.ref (ad4 p4) :: [.ref (ad4 p0)])) (by rw [ep4, hag4 p0 h_p0.1] <;> rfl) ?_
    have hl : lv_has ls 1 [(0, .ref (ad4 p0))] := by rw [hag4 p0 h_p0.1]; exact hl
    have hgw4 : Gw E3 E4 := by rw [eE4]; exact gw_new _ _
    have hag0 : ∀ i, i < nE E0 → ad4 i = ad0 i := fun i hi => (hag4 i (Nat.lt_of_lt_of_le hi hE0)).trans (hag0 i hi)
    have hE0 : nE E0 ≤ nE E4 := Nat.le_trans hE0 hgw4.1
    have h_p0 : isO 4 E4 p0 := isO_up hgw4 h_p0
    have h_p4 : isIA E4 p4 := by rw [ep4, eE4]; exact ⟨new_i _ _, by rw [new_T]⟩
    obtain ⟨E5, eE5, h⟩ := nb_e h
    refine m_prF (C := "Ballothall$Division") (T := TX4) (N := 8) (ci := 4) (k := 4) (ty := (.array .int)) hx hb hts iX4 hown hG hP hD hS h_p0.1 h_p0.2 rfl (by decide) w_182 (fun _ h9 => h9) rfl rfl tyX4_ok nmX4 rfl hin rfl (by decide +kernel) h_p4.1 (fun _ => rfl) (fun _ => rfl) d_6_1_25 (fun H locs hP hD hS => ?_)
    have hP : va_P z.1 classes (wv z ad4 E5 M4) H := by rw [eE5]; exact hP
    have hD : va_D A (wv z ad4 E5 M4) := by rw [eE5]; exact hD
    have hgw5 : Gw E4 E5 := by rw [eE5]; exact gw_ref _ _ _ _
    have hE0 : nE E0 ≤ nE E5 := Nat.le_trans hE0 hgw5.1
    have h_p0 : isO 4 E5 p0 := isO_up hgw5 h_p0
    refine W.eq (g2 := F0 m 28 ls []) rfl ?_
    refine lv_aload_n hx hb d_6_1_28 rfl (lv_at hl 0 rfl) ?_
    refine lv_bipush (v := oI 8) hx hb d_6_1_29 (by decide +kernel) ?_
    obtain ⟨p6, ep6, h⟩ := nb_e h
    obtain ⟨E6, eE6, h⟩ := nb_e h
    obtain ⟨M6, eM6, h⟩ := nb_e h
    refine m_newI (x := (8 : Int)) (N := 8) hx hb (by decide) (by decide) (by decide) (hts _ w_100) hG hP hD hS hA (show _ ≤ mc by omega) (show _ ≤ ms by omega) d_6_1_31 (fun ad6 H hag6 hP hD hS => ?_)
    have hP : va_P z.1 classes (wv z ad6 E6 M6) H := by rw [eE6, eM6]; exact hP
    have hD : va_D A (wv z ad6 E6 M6) := by rw [eE6, eM6]; exact hD
    refine W.eq (g2 := F0 m 33 ls (.ref (ad6 p6) :: [.ref (ad6 p0)])) (by rw [ep6, hag6 p0 h_p0.1] <;> rfl) ?_
    have hl : lv_has ls 1 [(0, .ref (ad6 p0))] := by rw [hag6 p0 h_p0.1]; exact hl
    have hgw6 : Gw E5 E6 := by rw [eE6]; exact gw_new _ _
    have hag0 : ∀ i, i < nE E0 → ad6 i = ad0 i := fun i hi => (hag6 i (Nat.lt_of_lt_of_le hi hE0)).trans (hag0 i hi)
    have hE0 : nE E0 ≤ nE E6 := Nat.le_trans hE0 hgw6.1
    have h_p0 : isO 4 E6 p0 := isO_up hgw6 h_p0
    have h_p6 : isIA E6 p6 := by rw [ep6, eE6]; exact ⟨new_i _ _, by rw [new_T]⟩
    obtain ⟨E7, eE7, h⟩ := nb_e h
    refine m_prF (C := "Ballothall$Division") (T := TX4) (N := 8) (ci := 4) (k := 5) (ty := (.array .int)) hx hb hts iX4 hown hG hP hD hS h_p0.1 h_p0.2 rfl (by decide) w_183 (fun _ h9 => h9) rfl rfl tyX4_ok nmX4 rfl hin rfl (by decide +kernel) h_p6.1 (fun _ => rfl) (fun _ => rfl) d_6_1_33 (fun H locs hP hD hS => ?_)
    have hP : va_P z.1 classes (wv z ad6 E7 M6) H := by rw [eE7]; exact hP
    have hD : va_D A (wv z ad6 E7 M6) := by rw [eE7]; exact hD
    have hgw7 : Gw E6 E7 := by rw [eE7]; exact gw_ref _ _ _ _
    have hE0 : nE E0 ≤ nE E7 := Nat.le_trans hE0 hgw7.1
    have h_p0 : isO 4 E7 p0 := isO_up hgw7 h_p0
    refine W.eq (g2 := F0 m 36 ls []) rfl ?_
    refine lv_aload_n hx hb d_6_1_36 rfl (lv_at hl 0 rfl) ?_
    refine lv_bipush (v := oI 8) hx hb d_6_1_37 (by decide +kernel) ?_
    obtain ⟨p8, ep8, h⟩ := nb_e h
    obtain ⟨E8, eE8, h⟩ := nb_e h
    obtain ⟨M8, eM8, h⟩ := nb_e h
    refine m_newL (x := (8 : Int)) (N := 8) hx hb (by decide) (by decide) (by decide) (hts _ w_145) hG hP hD hS hA (show _ ≤ mc by omega) (show _ ≤ ms by omega) d_6_1_39 (fun ad8 H hag8 hP hD hS => ?_)
    have hP : va_P z.1 classes (wv z ad8 E8 M8) H := by rw [eE8, eM8]; exact hP
    have hD : va_D A (wv z ad8 E8 M8) := by rw [eE8, eM8]; exact hD
    refine W.eq (g2 := F0 m 41 ls (.ref (ad8 p8) :: [.ref (ad8 p0)])) (by rw [ep8, hag8 p0 h_p0.1] <;> rfl) ?_
    have hl : lv_has ls 1 [(0, .ref (ad8 p0))] := by rw [hag8 p0 h_p0.1]; exact hl
    have hgw8 : Gw E7 E8 := by rw [eE8]; exact gw_new _ _
    have hag0 : ∀ i, i < nE E0 → ad8 i = ad0 i := fun i hi => (hag8 i (Nat.lt_of_lt_of_le hi hE0)).trans (hag0 i hi)
    have hE0 : nE E0 ≤ nE E8 := Nat.le_trans hE0 hgw8.1
    have h_p0 : isO 4 E8 p0 := isO_up hgw8 h_p0
    have h_p8 : isLA E8 p8 := by rw [ep8, eE8]; exact ⟨new_i _ _, by rw [new_T]⟩
    obtain ⟨E9, eE9, h⟩ := nb_e h
    refine m_prF (C := "Ballothall$Division") (T := TX4) (N := 8) (ci := 4) (k := 6) (ty := (.array .long)) hx hb hts iX4 hown hG hP hD hS h_p0.1 h_p0.2 rfl (by decide) w_185 (fun _ h9 => h9) rfl rfl tyX4_ok nmX4 rfl hin rfl (by decide +kernel) h_p8.1 (fun _ => rfl) (fun _ => rfl) d_6_1_41 (fun H locs hP hD hS => ?_)
    have hP : va_P z.1 classes (wv z ad8 E9 M8) H := by rw [eE9]; exact hP
    have hD : va_D A (wv z ad8 E9 M8) := by rw [eE9]; exact hD
    have hgw9 : Gw E8 E9 := by rw [eE9]; exact gw_ref _ _ _ _
    have hE0 : nE E0 ≤ nE E9 := Nat.le_trans hE0 hgw9.1
    have h_p0 : isO 4 E9 p0 := isO_up hgw9 h_p0
    refine W.eq (g2 := F0 m 44 ls []) rfl ?_
    refine lv_aload_n hx hb d_6_1_44 rfl (lv_at hl 0 rfl) ?_
    refine lv_bipush (v := oI 61) hx hb d_6_1_45 (by decide +kernel) ?_
    obtain ⟨p10, ep10, h⟩ := nb_e h
    obtain ⟨E10, eE10, h⟩ := nb_e h
    obtain ⟨M10, eM10, h⟩ := nb_e h
    refine m_newI (x := (61 : Int)) (N := 61) hx hb (by decide) (by decide) (by decide) (hts _ w_100) hG hP hD hS hA (show _ ≤ mc by omega) (show _ ≤ ms by omega) d_6_1_47 (fun ad10 H hag10 hP hD hS => ?_)
    have hP : va_P z.1 classes (wv z ad10 E10 M10) H := by rw [eE10, eM10]; exact hP
    have hD : va_D A (wv z ad10 E10 M10) := by rw [eE10, eM10]; exact hD
    refine W.eq (g2 := F0 m 49 ls (.ref (ad10 p10) :: [.ref (ad10 p0)])) (by rw [ep10, hag10 p0 h_p0.1] <;> rfl) ?_
    have hl : lv_has ls 1 [(0, .ref (ad10 p0))] := by rw [hag10 p0 h_p0.1]; exact hl
    have hgw10 : Gw E9 E10 := by rw [eE10]; exact gw_new _ _
    have hag0 : ∀ i, i < nE E0 → ad10 i = ad0 i := fun i hi => (hag10 i (Nat.lt_of_lt_of_le hi hE0)).trans (hag0 i hi)
    have hE0 : nE E0 ≤ nE E10 := Nat.le_trans hE0 hgw10.1
    have h_p0 : isO 4 E10 p0 := isO_up hgw10 h_p0
    have h_p10 : isIA E10 p10 := by rw [ep10, eE10]; exact ⟨new_i _ _, by rw [new_T]⟩
    obtain ⟨E11, eE11, h⟩ := nb_e h
    refine m_prF (C := "Ballothall$Division") (T := TX4) (N := 8) (ci := 4) (k := 7) (ty := (.array .int)) hx hb hts iX4 hown hG hP hD hS h_p0.1 h_p0.2 rfl (by decide) w_186 (fun _ h9 => h9) rfl rfl tyX4_ok nmX4 rfl hin rfl (by decide +kernel) h_p10.1 (fun _ => rfl) (fun _ => rfl) d_6_1_49 (fun H locs hP hD hS => ?_)
    have hP : va_P z.1 classes (wv z ad10 E11 M10) H := by rw [eE11]; exact hP
    have hD : va_D A (wv z ad10 E11 M10) := by rw [eE11]; exact hD
    have hgw11 : Gw E10 E11 := by rw [eE11]; exact gw_ref _ _ _ _
    have hE0 : nE E0 ≤ nE E11 := Nat.le_trans hE0 hgw11.1
    have h_p0 : isO 4 E11 p0 := isO_up hgw11 h_p0
    refine W.eq (g2 := F0 m 52 ls []) rfl ?_
    refine W.wide (k := c1) (n := s1) (by omega) (by omega) ?_
    obtain ⟨rfl, rfl⟩ := in2 h
    exact W.vret hx hb hr (fun t ht hW => qkA hP hD hS ad10 (congrArg (fun q => wv z q E11 M10) (adj_self hag0).symm) rfl ht) hS.2.2 d_6_1_52
  exact key E ad 6 101 0 0 6 101 _ _ _ (by decide) (by decide) (by decide) (by decide) (fun _ _ => rfl) (Nat.le_refl _) hts hP hS
set_option maxRecDepth 100000 in
set_option maxHeartbeats 4000000 in
theorem s_Ks_init (l : Launch) (z : Zz) (ad : Nat → Nat) (E : Ev) (M : Mm) (p0 : Nat) (F : Ev) (N : Mm) (h : f_Ks_init E M p0 = some (F, N)) : CT l z ⟨"Ballothall$KeptSeats", "<init>", "()V"⟩ prog_8_method_1_code 1 none [.ref (ad p0)] (wv z ad E M) 1 40 4 84 (fun u => none) (fun u => wv z (adj E ad u) F N) := by
  refine CT.of (own := "Ballothall$KeptSeats") (by decide +kernel) (Nat.le_of_ble_eq_true rfl) rfl (fun p e s m below meth c A ls hx hb hml hr hts hown hlocks hin hA hG hZ hP hD hS hl => ?_)
  have hl : lv_has ls 1 [(0, .ref (ad p0))] := hl
  have key : ∀ (E0 : Ev) (ad0 : Nat → Nat) (mc ms c0 s0 c1 s1 : Nat) (H : Heap) (locs : List Loc) (args : Array Value), c0 + 4 ≤ c1 → s0 + 84 ≤ s1 → c1 ≤ mc → s1 ≤ ms → (∀ i, i < nE E0 → ad i = ad0 i) → nE E0 ≤ nE E → (∀ w ∈ WG, w.before args s = true) → va_P z.1 classes (wv z ad E M) H → va_S A s.heap H locs → W p l e (rmK 1 40 mc ms) s m args below meth c H locs c0 s0 (MQ below (QK z A (fun u => none) (fun u => wv z (adj E0 ad0 u) F N)) args s c1 s1 A) (F0 m 0 ls []) := by
    intro E0 ad0 mc ms c0 s0 c1 s1 H locs args hc hs hm hm2 hag0 hE0 hts hP hS
    unfold f_Ks_init at h
    obtain ⟨h_p0, h⟩ := ck_e h
    refine lv_aload_n hx hb d_8_1_0 rfl (lv_at hl 0 rfl) ?_
    refine W.objInit hx hb hown (hts _ w_211) (hts _ w_38) (hts _ w_obj) rfl (by rw [hml]; exact hl.1) rfl d_8_1_1 (Nat.le_of_ble_eq_true rfl) (Nat.le_of_ble_eq_true rfl) ?_
    refine W.eq (g2 := F0 m 4 ls []) rfl ?_
    refine lv_aload_n hx hb d_8_1_4 rfl (lv_at hl 0 rfl) ?_
    refine lv_bipush (v := oI 60) hx hb d_8_1_5 (by decide +kernel) ?_
    obtain ⟨p0, ep0, h⟩ := nb_e h
    obtain ⟨E0, eE0, h⟩ := nb_e h
    obtain ⟨M0, eM0, h⟩ := nb_e h
    refine m_newI (x := (60 : Int)) (N := 60) hx hb (by decide) (by decide) (by decide) (hts _ w_100) hG hP hD hS hA (show _ ≤ mc by omega) (show _ ≤ ms by omega) d_8_1_7 (fun ad0 H hag0 hP hD hS => ?_)
    have hP : va_P z.1 classes (wv z ad0 E0 M0) H := by rw [eE0, eM0]; exact hP
    have hD : va_D A (wv z ad0 E0 M0) := by rw [eE0, eM0]; exact hD
    refine W.eq (g2 := F0 m 9 ls (.ref (ad0 p0) :: [.ref (ad0 p0)])) (by rw [ep0, hag0 p0 h_p0.1] <;> rfl) ?_
    have hl : lv_has ls 1 [(0, .ref (ad0 p0))] := by rw [hag0 p0 h_p0.1]; exact hl
    have hgw0 : Gw E E0 := by rw [eE0]; exact gw_new _ _
    have hag0 : ∀ i, i < nE E0 → ad0 i = ad0 i := fun i hi => (hag0 i (Nat.lt_of_lt_of_le hi hE0)).trans (hag0 i hi)
    have hE0 : nE E0 ≤ nE E0 := Nat.le_trans hE0 hgw0.1
    have h_p0 : isO 6 E0 p0 := isO_up hgw0 h_p0
    have h_p0 : isIA E0 p0 := by rw [ep0, eE0]; exact ⟨new_i _ _, by rw [new_T]⟩
    obtain ⟨E1, eE1, h⟩ := nb_e h
    refine m_prF (C := "Ballothall$KeptSeats") (T := TX6) (N := 7) (ci := 6) (k := 3) (ty := (.array .int)) hx hb hts iX6 hown hG hP hD hS h_p0.1 h_p0.2 rfl (by decide) w_217 (fun _ h9 => h9) rfl rfl tyX6_ok nmX6 rfl hin rfl (by decide +kernel) h_p0.1 (fun _ => rfl) (fun _ => rfl) d_8_1_9 (fun H locs hP hD hS => ?_)
    have hP : va_P z.1 classes (wv z ad0 E1 M0) H := by rw [eE1]; exact hP
    have hD : va_D A (wv z ad0 E1 M0) := by rw [eE1]; exact hD
    have hgw1 : Gw E0 E1 := by rw [eE1]; exact gw_ref _ _ _ _
    have hE0 : nE E0 ≤ nE E1 := Nat.le_trans hE0 hgw1.1
    have h_p0 : isO 6 E1 p0 := isO_up hgw1 h_p0
    refine W.eq (g2 := F0 m 12 ls []) rfl ?_
    refine lv_aload_n hx hb d_8_1_12 rfl (lv_at hl 0 rfl) ?_
    refine lv_bipush (v := oI 8) hx hb d_8_1_13 (by decide +kernel) ?_
    obtain ⟨p2, ep2, h⟩ := nb_e h
    obtain ⟨E2, eE2, h⟩ := nb_e h
    obtain ⟨M2, eM2, h⟩ := nb_e h
    refine m_newI (x := (8 : Int)) (N := 8) hx hb (by decide) (by decide) (by decide) (hts _ w_100) hG hP hD hS hA (show _ ≤ mc by omega) (show _ ≤ ms by omega) d_8_1_15 (fun ad2 H hag2 hP hD hS => ?_)
    have hP : va_P z.1 classes (wv z ad2 E2 M2) H := by rw [eE2, eM2]; exact hP
    have hD : va_D A (wv z ad2 E2 M2) := by rw [eE2, eM2]; exact hD
    refine W.eq (g2 := F0 m 17 ls (.ref (ad2 p2) :: [.ref (ad2 p0)])) (by rw [ep2, hag2 p0 h_p0.1] <;> rfl) ?_
    have hl : lv_has ls 1 [(0, .ref (ad2 p0))] := by rw [hag2 p0 h_p0.1]; exact hl
    have hgw2 : Gw E1 E2 := by rw [eE2]; exact gw_new _ _
    have hag0 : ∀ i, i < nE E0 → ad2 i = ad0 i := fun i hi => (hag2 i (Nat.lt_of_lt_of_le hi hE0)).trans (hag0 i hi)
    have hE0 : nE E0 ≤ nE E2 := Nat.le_trans hE0 hgw2.1
    have h_p0 : isO 6 E2 p0 := isO_up hgw2 h_p0
    have h_p2 : isIA E2 p2 := by rw [ep2, eE2]; exact ⟨new_i _ _, by rw [new_T]⟩
    obtain ⟨E3, eE3, h⟩ := nb_e h
    refine m_prF (C := "Ballothall$KeptSeats") (T := TX6) (N := 7) (ci := 6) (k := 4) (ty := (.array .int)) hx hb hts iX6 hown hG hP hD hS h_p0.1 h_p0.2 rfl (by decide) w_220 (fun _ h9 => h9) rfl rfl tyX6_ok nmX6 rfl hin rfl (by decide +kernel) h_p2.1 (fun _ => rfl) (fun _ => rfl) d_8_1_17 (fun H locs hP hD hS => ?_)
    have hP : va_P z.1 classes (wv z ad2 E3 M2) H := by rw [eE3]; exact hP
    have hD : va_D A (wv z ad2 E3 M2) := by rw [eE3]; exact hD
    have hgw3 : Gw E2 E3 := by rw [eE3]; exact gw_ref _ _ _ _
    have hE0 : nE E0 ≤ nE E3 := Nat.le_trans hE0 hgw3.1
    have h_p0 : isO 6 E3 p0 := isO_up hgw3 h_p0
    refine W.eq (g2 := F0 m 20 ls []) rfl ?_
    refine lv_aload_n hx hb d_8_1_20 rfl (lv_at hl 0 rfl) ?_
    refine lv_bipush (v := oI 8) hx hb d_8_1_21 (by decide +kernel) ?_
    obtain ⟨p4, ep4, h⟩ := nb_e h
    obtain ⟨E4, eE4, h⟩ := nb_e h
    obtain ⟨M4, eM4, h⟩ := nb_e h
    refine m_newI (x := (8 : Int)) (N := 8) hx hb (by decide) (by decide) (by decide) (hts _ w_100) hG hP hD hS hA (show _ ≤ mc by omega) (show _ ≤ ms by omega) d_8_1_23 (fun ad4 H hag4 hP hD hS => ?_)
    have hP : va_P z.1 classes (wv z ad4 E4 M4) H := by rw [eE4, eM4]; exact hP
    have hD : va_D A (wv z ad4 E4 M4) := by rw [eE4, eM4]; exact hD
    refine W.eq (g2 := F0 m 25 ls (.ref (ad4 p4) :: [.ref (ad4 p0)])) (by rw [ep4, hag4 p0 h_p0.1] <;> rfl) ?_
    have hl : lv_has ls 1 [(0, .ref (ad4 p0))] := by rw [hag4 p0 h_p0.1]; exact hl
    have hgw4 : Gw E3 E4 := by rw [eE4]; exact gw_new _ _
    have hag0 : ∀ i, i < nE E0 → ad4 i = ad0 i := fun i hi => (hag4 i (Nat.lt_of_lt_of_le hi hE0)).trans (hag0 i hi)
    have hE0 : nE E0 ≤ nE E4 := Nat.le_trans hE0 hgw4.1
    have h_p0 : isO 6 E4 p0 := isO_up hgw4 h_p0
    have h_p4 : isIA E4 p4 := by rw [ep4, eE4]; exact ⟨new_i _ _, by rw [new_T]⟩
    obtain ⟨E5, eE5, h⟩ := nb_e h
    refine m_prF (C := "Ballothall$KeptSeats") (T := TX6) (N := 7) (ci := 6) (k := 5) (ty := (.array .int)) hx hb hts iX6 hown hG hP hD hS h_p0.1 h_p0.2 rfl (by decide) w_223 (fun _ h9 => h9) rfl rfl tyX6_ok nmX6 rfl hin rfl (by decide +kernel) h_p4.1 (fun _ => rfl) (fun _ => rfl) d_8_1_25 (fun H locs hP hD hS => ?_)
    have hP : va_P z.1 classes (wv z ad4 E5 M4) H := by rw [eE5]; exact hP
    have hD : va_D A (wv z ad4 E5 M4) := by rw [eE5]; exact hD
    have hgw5 : Gw E4 E5 := by rw [eE5]; exact gw_ref _ _ _ _
    have hE0 : nE E0 ≤ nE E5 := Nat.le_trans hE0 hgw5.1
    have h_p0 : isO 6 E5 p0 := isO_up hgw5 h_p0
    refine W.eq (g2 := F0 m 28 ls []) rfl ?_
    refine lv_aload_n hx hb d_8_1_28 rfl (lv_at hl 0 rfl) ?_
    refine lv_bipush (v := oI 8) hx hb d_8_1_29 (by decide +kernel) ?_
    obtain ⟨p6, ep6, h⟩ := nb_e h
    obtain ⟨E6, eE6, h⟩ := nb_e h
    obtain ⟨M6, eM6, h⟩ := nb_e h
    refine m_newI (x := (8 : Int)) (N := 8) hx hb (by decide) (by decide) (by decide) (hts _ w_100) hG hP hD hS hA (show _ ≤ mc by omega) (show _ ≤ ms by omega) d_8_1_31 (fun ad6 H hag6 hP hD hS => ?_)
    have hP : va_P z.1 classes (wv z ad6 E6 M6) H := by rw [eE6, eM6]; exact hP
    have hD : va_D A (wv z ad6 E6 M6) := by rw [eE6, eM6]; exact hD
    refine W.eq (g2 := F0 m 33 ls (.ref (ad6 p6) :: [.ref (ad6 p0)])) (by rw [ep6, hag6 p0 h_p0.1] <;> rfl) ?_
    have hl : lv_has ls 1 [(0, .ref (ad6 p0))] := by rw [hag6 p0 h_p0.1]; exact hl
    have hgw6 : Gw E5 E6 := by rw [eE6]; exact gw_new _ _
    have hag0 : ∀ i, i < nE E0 → ad6 i = ad0 i := fun i hi => (hag6 i (Nat.lt_of_lt_of_le hi hE0)).trans (hag0 i hi)
    have hE0 : nE E0 ≤ nE E6 := Nat.le_trans hE0 hgw6.1
    have h_p0 : isO 6 E6 p0 := isO_up hgw6 h_p0
    have h_p6 : isIA E6 p6 := by rw [ep6, eE6]; exact ⟨new_i _ _, by rw [new_T]⟩
    obtain ⟨E7, eE7, h⟩ := nb_e h
    refine m_prF (C := "Ballothall$KeptSeats") (T := TX6) (N := 7) (ci := 6) (k := 6) (ty := (.array .int)) hx hb hts iX6 hown hG hP hD hS h_p0.1 h_p0.2 rfl (by decide) w_225 (fun _ h9 => h9) rfl rfl tyX6_ok nmX6 rfl hin rfl (by decide +kernel) h_p6.1 (fun _ => rfl) (fun _ => rfl) d_8_1_33 (fun H locs hP hD hS => ?_)
    have hP : va_P z.1 classes (wv z ad6 E7 M6) H := by rw [eE7]; exact hP
    have hD : va_D A (wv z ad6 E7 M6) := by rw [eE7]; exact hD
    have hgw7 : Gw E6 E7 := by rw [eE7]; exact gw_ref _ _ _ _
    have hE0 : nE E0 ≤ nE E7 := Nat.le_trans hE0 hgw7.1
    have h_p0 : isO 6 E7 p0 := isO_up hgw7 h_p0
    refine W.eq (g2 := F0 m 36 ls []) rfl ?_
    refine W.wide (k := c1) (n := s1) (by omega) (by omega) ?_
    obtain ⟨rfl, rfl⟩ := in2 h
    exact W.vret hx hb hr (fun t ht hW => qkA hP hD hS ad6 (congrArg (fun q => wv z q E7 M6) (adj_self hag0).symm) rfl ht) hS.2.2 d_8_1_36
  exact key E ad 4 84 0 0 4 84 _ _ _ (by decide) (by decide) (by decide) (by decide) (fun _ _ => rfl) (Nat.le_refl _) hts hP hS
set_option maxRecDepth 100000 in
set_option maxHeartbeats 4000000 in
theorem b_Li_init_77b (l : Launch) (z : Zz) (E0 : Ev) (ad0 : Nat → Nat) (ad : Nat → Nat) (E : Ev) (M : Mm) (q0 : Nat) (x1 : Int) (t : Nat) (w1 : Int) (F : Ev) (N : Mm) {Q : State → Prop} {p : Program} {e : Env} {s : State} {m : MethodId} {below : List Frame} {meth : Method} {c : Code} {A : Nat → Prop} {args : Array Value} (hx : p.tables.exec = Jvm.exec) (hb : c.code = prog_9_method_1_code) (hml : c.maxLocals = 2) (hts : ∀ w ∈ WG, w.before args s = true) (hown : s.vm.findClass "Ballothall$Lists" = some m.cls) (hlocks : meth.locks = false) (hA : ∀ q, s.heap.size ≤ q → A q) (hG : KG z s) (hZ : FZ z A s) (mc ms c0 s0 c1 s1 : Nat) (hc : c0 + 5 ≤ c1) (hs : s0 + 91 ≤ s1) (hm : c1 ≤ mc) (hm2 : s1 ≤ ms) (hag0 : ∀ i, i < nE E0 → ad i = ad0 i) (hE0 : nE E0 ≤ nE E) (h : Li_init_77b E M q0 x1 = some (t, w1, F, N)) (k0 : ∀ (ad1 : Nat → Nat), (∀ i, i < nE E0 → ad1 i = ad0 i) → nE E0 ≤ nE F → t = 0 → ∀ (H : Heap) (locs : List Loc) (ls : Array Slot), va_P z.1 classes (wv z ad1 F N) H → va_D A (wv z ad1 F N) → va_S A s.heap H locs → lv_has ls 2 [(0, .ref (ad1 q0)), (1, .int (oI w1))] → W p l e (rmK 2 60 mc ms) s m args below meth c H locs c1 s1 Q (F0 m 77 ls [])) (k1 : ∀ (ad1 : Nat → Nat), (∀ i, i < nE E0 → ad1 i = ad0 i) → nE E0 ≤ nE F → t = 1 → ∀ (H : Heap) (locs : List Loc) (ls : Array Slot), va_P z.1 classes (wv z ad1 F N) H → va_D A (wv z ad1 F N) → va_S A s.heap H locs → lv_has ls 2 [] → W p l e (rmK 2 60 mc ms) s m args below meth c H locs c1 s1 Q (F0 m 102 ls [])) : ∀ (H : Heap) (locs : List Loc) (ls : Array Slot), va_P z.1 classes (wv z ad E M) H → va_D A (wv z ad E M) → va_S A s.heap H locs → lv_has ls 2 [(0, .ref (ad q0)), (1, .int (oI x1))] → W p l e (rmK 2 60 mc ms) s m args below meth c H locs c0 s0 Q (F0 m 77 ls []) := by
  intro H locs ls hP hD hS hl
  unfold Li_init_77b at h
  obtain ⟨h_q0, h⟩ := ck_e h
  refine lv_iload_n hx hb d_9_1_77 rfl (lv_at hl 1 rfl) ?_
  refine lv_bipush (v := oI 21) hx hb d_9_1_78 (by decide +kernel) ?_
  obtain ⟨ok18, h⟩ := ck_e h
  refine lv_icmp_ge (tgt := 102) hx hb d_9_1_80 (by decide) (fun c9 => ?_) (fun c9 => ?_)
  · have h := ite_t ((oI_le (a := (21 : Int)) (b := x1) (by decide) ok18).mp c9) h
    obtain ⟨rfl, rfl, rfl, rfl⟩ := in4 h
    exact W.wide (by omega) (by omega) (k1 ad hag0 hE0 rfl H locs ls hP hD hS (lv_sub hl [] rfl))
  · have h := ite_f (fun q => c9 ((oI_le (a := (21 : Int)) (b := x1) (by decide) ok18).mpr q)) h
    refine lv_aload_n hx hb d_9_1_83 rfl (lv_at hl 0 rfl) ?_
    obtain ⟨p19, g19, h⟩ := bd_e h
    obtain ⟨h_p19, h⟩ := ck_e h
    refine m_gr (j := p19) (C := "Ballothall$Lists") (T := TX7) (N := 11) (ci := 7) (k := 9) hx hb hts iX7 hown hG hP h_q0.1 h_q0.2 rfl (by decide) w_254 (fun _ h9 => h9) rfl rfl g19 d_9_1_84 ?_
    refine lv_iload_n hx hb d_9_1_87 rfl (lv_at hl 1 rfl) ?_
    obtain ⟨p20, ep20, h⟩ := nb_e h
    obtain ⟨E20, eE20, h⟩ := nb_e h
    obtain ⟨M20, eM20, h⟩ := nb_e h
    refine m_newO (ci := 6) (C := "Ballothall$KeptSeats") (T := TX6) (n := 7) hx hb hts iX6 tyX6_ok hown w_205 w_207 w_7 rfl (fun _ => fsX6) hG hP hD hS hA (show _ ≤ mc by omega) (show _ ≤ ms by omega) d_9_1_88 (fun ad20 H hag20 hP hD hS => ?_)
    have hP : va_P z.1 classes (wv z ad20 E20 M20) H := by rw [eE20, eM20]; exact hP
    have hD : va_D A (wv z ad20 E20 M20) := by rw [eE20, eM20]; exact hD
    refine W.eq (g2 := F0 m 91 ls (.ref (ad20 p20) :: [.int (oI x1), .ref (ad20 p19)])) (by rw [ep20, hag20 p19 h_p19.1] <;> rfl) ?_
    have hl : lv_has ls 2 [(0, .ref (ad20 q0)), (1, .int (oI x1))] := by rw [hag20 q0 h_q0.1]; exact hl
    have hgw20 : Gw E E20 := by rw [eE20]; exact gw_new _ _
    have hag0 : ∀ i, i < nE E0 → ad20 i = ad0 i := fun i hi => (hag20 i (Nat.lt_of_lt_of_le hi hE0)).trans (hag0 i hi)
    have hE0 : nE E0 ≤ nE E20 := Nat.le_trans hE0 hgw20.1
    have h_q0 : isO 7 E20 q0 := isO_up hgw20 h_q0
    have h_p19 : isQ 3 E20 p19 := isA_up hgw20 h_p19
    have h_p20 : isO 6 E20 p20 := by rw [ep20, eE20]; exact ⟨new_i _ _, new_T _ _⟩
    refine lv_dup hx hb d_9_1_91 rfl ?_
    obtain ⟨⟨E21, M21⟩, g21, h⟩ := bd_e h
    obtain ⟨hgw21, h⟩ := ck_e h
    refine kIN (As := []) (rest := [.ref (ad20 p20), .int (oI x1), .ref (ad20 p19)]) (s_Ks_init l z ad20 E20 M20 p20 E21 M21 g21) hx hb hml hown hts w_210 n_208 w_209 rfl w_7 md_a689da ⟨Nat.le_of_ble_eq_true rfl, Nat.le_of_ble_eq_true rfl⟩ hG hZ hP hD hS hA rfl hl.1 rfl (Nat.le_of_ble_eq_true rfl) d_9_1_92 ⟨(show _ ≤ mc by omega), (show _ ≤ ms by omega)⟩ (fun u21 H locs hP hD hS => ?_)
    obtain ⟨ad21, had21⟩ : ∃ q, q = adj E20 ad20 u21 := ⟨_, rfl⟩
    have hP : va_P z.1 classes (wv z ad21 E21 M21) H := by rw [had21]; exact hP
    have hD : va_D A (wv z ad21 E21 M21) := by rw [had21]; exact hD
    have hag21 : ∀ i, i < nE E20 → ad21 i = ad20 i := fun i hi => by rw [had21]; exact adj_lt hi
    have hl : lv_has ls 2 [(0, .ref (ad21 q0)), (1, .int (oI x1))] := by rw [hag21 q0 h_q0.1]; exact hl
    refine W.eq (g2 := F0 m 95 ls [.ref (ad21 p20), .int (oI x1), .ref (ad21 p19)]) (by rw [hag21 p20 h_p20.1, hag21 p19 h_p19.1] <;> rfl) ?_
    have hag0 : ∀ i, i < nE E0 → ad21 i = ad0 i := fun i hi => (hag21 i (Nat.lt_of_lt_of_le hi hE0)).trans (hag0 i hi)
    have hE0 : nE E0 ≤ nE E21 := Nat.le_trans hE0 hgw21.1
    have h_q0 : isO 7 E21 q0 := isO_up hgw21 h_q0
    have h_p20 : isO 6 E21 p20 := isO_up hgw21 h_p20
    have h_p19 : isQ 3 E21 p19 := isA_up hgw21 h_p19
    obtain ⟨ok22, h⟩ := ck_e h
    obtain ⟨E23, eE23, h⟩ := nb_e h
    refine m_as (t := 3) (ci := 6) (r := ("Ballothall$KeptSeats", TX6, 7)) (x := x1) hx hb hG hP hD hS h_p19.1 (isQ_T h_p19) rfl rfl h_p20.1 h_p20.2 rfl ok22 d_9_1_95 (fun H locs hP hD hS => ?_)
    have hP : va_P z.1 classes (wv z ad21 E23 M21) H := by rw [eE23]; exact hP
    have hD : va_D A (wv z ad21 E23 M21) := by rw [eE23]; exact hD
    have hgw23 : Gw E21 E23 := by rw [eE23]; exact gw_ref _ _ _ _
    have hE0 : nE E0 ≤ nE E23 := Nat.le_trans hE0 hgw23.1
    have h_q0 : isO 7 E23 q0 := isO_up hgw23 h_q0
    refine W.eq (g2 := F0 m 96 ls []) rfl ?_
    refine lv_iinc (v := oI (x1 + 1)) (lv' := [(1, .int (oI (x1 + 1))), (0, .ref (ad21 q0))]) hx hb d_9_1_96 hl (k := 1) rfl (oI_add x1 1) (by decide) rfl (fun ls hl => ?_)
    refine lv_goto (tgt := 77) hx hb d_9_1_99 (by decide) ?_
    obtain ⟨rfl, rfl, rfl, rfl⟩ := in4 h
    exact W.wide (by omega) (by omega) (k0 ad21 hag0 hE0 rfl H locs ls hP hD hS (lv_sub hl [1, 0] rfl))
set_option maxRecDepth 100000 in
set_option maxHeartbeats 4000000 in
theorem s_Li_init_77 (l : Launch) (z : Zz) (E0 : Ev) (ad0 : Nat → Nat) (q0 : Nat) {Q : State → Prop} {p : Program} {e : Env} {s : State} {m : MethodId} {below : List Frame} {meth : Method} {c : Code} {A : Nat → Prop} {args : Array Value} (hx : p.tables.exec = Jvm.exec) (hb : c.code = prog_9_method_1_code) (hml : c.maxLocals = 2) (hts : ∀ w ∈ WG, w.before args s = true) (hown : s.vm.findClass "Ballothall$Lists" = some m.cls) (hlocks : meth.locks = false) (hA : ∀ q, s.heap.size ≤ q → A q) (hG : KG z s) (hZ : FZ z A s) (mc ms c1 s1 : Nat) (hm : c1 ≤ mc) (hm2 : s1 ≤ ms) : ∀ (fu c0 s0 : Nat) (ad : Nat → Nat) (E : Ev) (M : Mm) (x1 : Int) (t : Nat) (w1 : Int) (F : Ev) (N : Mm), c0 + fu * 5 ≤ c1 → s0 + fu * 91 ≤ s1 → (∀ i, i < nE E0 → ad i = ad0 i) → nE E0 ≤ nE E → l_Li_init_77 q0 fu E M x1 = some (t, w1, F, N) → (∀ (ad1 : Nat → Nat), (∀ i, i < nE E0 → ad1 i = ad0 i) → nE E0 ≤ nE F → t = 1 → ∀ (H : Heap) (locs : List Loc) (ls : Array Slot), va_P z.1 classes (wv z ad1 F N) H → va_D A (wv z ad1 F N) → va_S A s.heap H locs → lv_has ls 2 [] → W p l e (rmK 2 60 mc ms) s m args below meth c H locs c1 s1 Q (F0 m 102 ls [])) → ∀ (H : Heap) (locs : List Loc) (ls : Array Slot), va_P z.1 classes (wv z ad E M) H → va_D A (wv z ad E M) → va_S A s.heap H locs → lv_has ls 2 [(0, .ref (ad q0)), (1, .int (oI x1))] → W p l e (rmK 2 60 mc ms) s m args below meth c H locs c0 s0 Q (F0 m 77 ls []) := by
  intro fu
  induction fu with
  | zero =>
    intro c0 s0 ad E M x1 t w1 F N hc hs hag0 hE0 h
    have h : (none : Option (Nat × Int × Ev × Mm)) = some _ := h
    cases h
  | succ fu ih =>
    intro c0 s0 ad E M x1 t w1 F N hc hs hag0 hE0 h k1 H locs ls hP hD hS hl
    obtain ⟨⟨t0, w10, F9, N9⟩, g0, h⟩ := bd_e h
    refine W.wide (Nat.le_refl _) (Nat.le_refl _) (b_Li_init_77b l z E0 ad0 ad E M q0 x1 t0 w10 F9 N9 hx hb hml hts hown hlocks hA hG hZ mc ms c0 s0 (c0 + 5) (s0 + 91) (Nat.le_refl _) (Nat.le_refl _) (by omega) (by omega) hag0 hE0 g0 (fun ad1 ha he e0 => ?_) (fun ad1 ha he e0 => ?_) H locs ls hP hD hS hl)
    · subst e0
      have h := ite_t rfl h
      exact ih (c0 + 5) (s0 + 91) ad1 F9 N9 w10 t w1 F N (by omega) (by omega) ha he h k1
    · subst e0
      have h := ite_f (by decide) h
      obtain ⟨rfl, rfl, rfl, rfl⟩ := in4 h
      exact fun H locs ls hP hD hS hl => W.wide (by omega) (by omega) (k1 ad1 ha he rfl H locs ls hP hD hS hl)
set_option maxRecDepth 100000 in
set_option maxHeartbeats 4000000 in
theorem s_Li_init (l : Launch) (z : Zz) (ad : Nat → Nat) (E : Ev) (M : Mm) (p0 : Nat) (F : Ev) (N : Mm) (h : f_Li_init E M p0 = some (F, N)) : CT l z ⟨"Ballothall$Lists", "<init>", "()V"⟩ prog_9_method_1_code 2 none [.ref (ad p0)] (wv z ad E M) 2 60 180 3191 (fun u => none) (fun u => wv z (adj E ad u) F N) := by
  refine CT.of (own := "Ballothall$Lists") (by decide +kernel) (Nat.le_of_ble_eq_true rfl) rfl (fun p e s m below meth c A ls hx hb hml hr hts hown hlocks hin hA hG hZ hP hD hS hl => ?_)
  have hl : lv_has ls 2 [(0, .ref (ad p0))] := hl
  have key : ∀ (E0 : Ev) (ad0 : Nat → Nat) (mc ms c0 s0 c1 s1 : Nat) (H : Heap) (locs : List Loc) (args : Array Value), c0 + 180 ≤ c1 → s0 + 3191 ≤ s1 → c1 ≤ mc → s1 ≤ ms → (∀ i, i < nE E0 → ad i = ad0 i) → nE E0 ≤ nE E → (∀ w ∈ WG, w.before args s = true) → va_P z.1 classes (wv z ad E M) H → va_S A s.heap H locs → W p l e (rmK 2 60 mc ms) s m args below meth c H locs c0 s0 (MQ below (QK z A (fun u => none) (fun u => wv z (adj E0 ad0 u) F N)) args s c1 s1 A) (F0 m 0 ls []) := by
    intro E0 ad0 mc ms c0 s0 c1 s1 H locs args hc hs hm hm2 hag0 hE0 hts hP hS
    unfold f_Li_init at h
    obtain ⟨h_p0, h⟩ := ck_e h
    refine lv_aload_n hx hb d_9_1_0 rfl (lv_at hl 0 rfl) ?_
    refine W.objInit hx hb hown (hts _ w_168) (hts _ w_38) (hts _ w_obj) rfl (by rw [hml]; exact hl.1) rfl d_9_1_1 (Nat.le_of_ble_eq_true rfl) (Nat.le_of_ble_eq_true rfl) ?_
    refine W.eq (g2 := F0 m 4 ls []) rfl ?_
    refine lv_aload_n hx hb d_9_1_4 rfl (lv_at hl 0 rfl) ?_
    refine lv_bipush (v := oI 8) hx hb d_9_1_5 (by decide +kernel) ?_
    obtain ⟨p0, ep0, h⟩ := nb_e h
    obtain ⟨E0, eE0, h⟩ := nb_e h
    obtain ⟨M0, eM0, h⟩ := nb_e h
    refine m_newI (x := (8 : Int)) (N := 8) hx hb (by decide) (by decide) (by decide) (hts _ w_100) hG hP hD hS hA (show _ ≤ mc by omega) (show _ ≤ ms by omega) d_9_1_7 (fun ad0 H hag0 hP hD hS => ?_)
    have hP : va_P z.1 classes (wv z ad0 E0 M0) H := by rw [eE0, eM0]; exact hP
    have hD : va_D A (wv z ad0 E0 M0) := by rw [eE0, eM0]; exact hD
    refine W.eq (g2 := F0 m 9 ls (.ref (ad0 p0) :: [.ref (ad0 p0)])) (by rw [ep0, hag0 p0 h_p0.1] <;> rfl) ?_
    have hl : lv_has ls 2 [(0, .ref (ad0 p0))] := by rw [hag0 p0 h_p0.1]; exact hl
    have hgw0 : Gw E E0 := by rw [eE0]; exact gw_new _ _
    have hag0 : ∀ i, i < nE E0 → ad0 i = ad0 i := fun i hi => (hag0 i (Nat.lt_of_lt_of_le hi hE0)).trans (hag0 i hi)
    have hE0 : nE E0 ≤ nE E0 := Nat.le_trans hE0 hgw0.1
    have h_p0 : isO 7 E0 p0 := isO_up hgw0 h_p0
    have h_p0 : isIA E0 p0 := by rw [ep0, eE0]; exact ⟨new_i _ _, by rw [new_T]⟩
    obtain ⟨E1, eE1, h⟩ := nb_e h
    refine m_prF (C := "Ballothall$Lists") (T := TX7) (N := 11) (ci := 7) (k := 1) (ty := (.array .int)) hx hb hts iX7 hown hG hP hD hS h_p0.1 h_p0.2 rfl (by decide) w_244 (fun _ h9 => h9) rfl rfl tyX7_ok nmX7 rfl hin rfl (by decide +kernel) h_p0.1 (fun _ => rfl) (fun _ => rfl) d_9_1_9 (fun H locs hP hD hS => ?_)
    have hP : va_P z.1 classes (wv z ad0 E1 M0) H := by rw [eE1]; exact hP
    have hD : va_D A (wv z ad0 E1 M0) := by rw [eE1]; exact hD
    have hgw1 : Gw E0 E1 := by rw [eE1]; exact gw_ref _ _ _ _
    have hE0 : nE E0 ≤ nE E1 := Nat.le_trans hE0 hgw1.1
    have h_p0 : isO 7 E1 p0 := isO_up hgw1 h_p0
    refine W.eq (g2 := F0 m 12 ls []) rfl ?_
    refine lv_aload_n hx hb d_9_1_12 rfl (lv_at hl 0 rfl) ?_
    refine lv_bipush (v := oI 8) hx hb d_9_1_13 (by decide +kernel) ?_
    obtain ⟨p2, ep2, h⟩ := nb_e h
    obtain ⟨E2, eE2, h⟩ := nb_e h
    obtain ⟨M2, eM2, h⟩ := nb_e h
    refine m_newI (x := (8 : Int)) (N := 8) hx hb (by decide) (by decide) (by decide) (hts _ w_100) hG hP hD hS hA (show _ ≤ mc by omega) (show _ ≤ ms by omega) d_9_1_15 (fun ad2 H hag2 hP hD hS => ?_)
    have hP : va_P z.1 classes (wv z ad2 E2 M2) H := by rw [eE2, eM2]; exact hP
    have hD : va_D A (wv z ad2 E2 M2) := by rw [eE2, eM2]; exact hD
    refine W.eq (g2 := F0 m 17 ls (.ref (ad2 p2) :: [.ref (ad2 p0)])) (by rw [ep2, hag2 p0 h_p0.1] <;> rfl) ?_
    have hl : lv_has ls 2 [(0, .ref (ad2 p0))] := by rw [hag2 p0 h_p0.1]; exact hl
    have hgw2 : Gw E1 E2 := by rw [eE2]; exact gw_new _ _
    have hag0 : ∀ i, i < nE E0 → ad2 i = ad0 i := fun i hi => (hag2 i (Nat.lt_of_lt_of_le hi hE0)).trans (hag0 i hi)
    have hE0 : nE E0 ≤ nE E2 := Nat.le_trans hE0 hgw2.1
    have h_p0 : isO 7 E2 p0 := isO_up hgw2 h_p0
    have h_p2 : isIA E2 p2 := by rw [ep2, eE2]; exact ⟨new_i _ _, by rw [new_T]⟩
    obtain ⟨E3, eE3, h⟩ := nb_e h
    refine m_prF (C := "Ballothall$Lists") (T := TX7) (N := 11) (ci := 7) (k := 2) (ty := (.array .int)) hx hb hts iX7 hown hG hP hD hS h_p0.1 h_p0.2 rfl (by decide) w_245 (fun _ h9 => h9) rfl rfl tyX7_ok nmX7 rfl hin rfl (by decide +kernel) h_p2.1 (fun _ => rfl) (fun _ => rfl) d_9_1_17 (fun H locs hP hD hS => ?_)
    have hP : va_P z.1 classes (wv z ad2 E3 M2) H := by rw [eE3]; exact hP
    have hD : va_D A (wv z ad2 E3 M2) := by rw [eE3]; exact hD
    have hgw3 : Gw E2 E3 := by rw [eE3]; exact gw_ref _ _ _ _
    have hE0 : nE E0 ≤ nE E3 := Nat.le_trans hE0 hgw3.1
    have h_p0 : isO 7 E3 p0 := isO_up hgw3 h_p0
    refine W.eq (g2 := F0 m 20 ls []) rfl ?_
    refine lv_aload_n hx hb d_9_1_20 rfl (lv_at hl 0 rfl) ?_
    refine lv_bipush (v := oI 8) hx hb d_9_1_21 (by decide +kernel) ?_
    obtain ⟨p4, ep4, h⟩ := nb_e h
    obtain ⟨E4, eE4, h⟩ := nb_e h
    obtain ⟨M4, eM4, h⟩ := nb_e h
    refine m_newI (x := (8 : Int)) (N := 8) hx hb (by decide) (by decide) (by decide) (hts _ w_100) hG hP hD hS hA (show _ ≤ mc by omega) (show _ ≤ ms by omega) d_9_1_23 (fun ad4 H hag4 hP hD hS => ?_)
    have hP : va_P z.1 classes (wv z ad4 E4 M4) H := by rw [eE4, eM4]; exact hP
    have hD : va_D A (wv z ad4 E4 M4) := by rw [eE4, eM4]; exact hD
    refine W.eq (g2 := F0 m 25 ls (.ref (ad4 p4) :: [.ref (ad4 p0)])) (by rw [ep4, hag4 p0 h_p0.1] <;> rfl) ?_
    have hl : lv_has ls 2 [(0, .ref (ad4 p0))] := by rw [hag4 p0 h_p0.1]; exact hl
    have hgw4 : Gw E3 E4 := by rw [eE4]; exact gw_new _ _
    have hag0 : ∀ i, i < nE E0 → ad4 i = ad0 i := fun i hi => (hag4 i (Nat.lt_of_lt_of_le hi hE0)).trans (hag0 i hi)
    have hE0 : nE E0 ≤ nE E4 := Nat.le_trans hE0 hgw4.1
    have h_p0 : isO 7 E4 p0 := isO_up hgw4 h_p0
    have h_p4 : isIA E4 p4 := by rw [ep4, eE4]; exact ⟨new_i _ _, by rw [new_T]⟩
    obtain ⟨E5, eE5, h⟩ := nb_e h
    refine m_prF (C := "Ballothall$Lists") (T := TX7) (N := 11) (ci := 7) (k := 3) (ty := (.array .int)) hx hb hts iX7 hown hG hP hD hS h_p0.1 h_p0.2 rfl (by decide) w_247 (fun _ h9 => h9) rfl rfl tyX7_ok nmX7 rfl hin rfl (by decide +kernel) h_p4.1 (fun _ => rfl) (fun _ => rfl) d_9_1_25 (fun H locs hP hD hS => ?_)
    have hP : va_P z.1 classes (wv z ad4 E5 M4) H := by rw [eE5]; exact hP
    have hD : va_D A (wv z ad4 E5 M4) := by rw [eE5]; exact hD
    have hgw5 : Gw E4 E5 := by rw [eE5]; exact gw_ref _ _ _ _
    have hE0 : nE E0 ≤ nE E5 := Nat.le_trans hE0 hgw5.1
    have h_p0 : isO 7 E5 p0 := isO_up hgw5 h_p0
    refine W.eq (g2 := F0 m 28 ls []) rfl ?_
    refine lv_aload_n hx hb d_9_1_28 rfl (lv_at hl 0 rfl) ?_
    obtain ⟨p6, ep6, h⟩ := nb_e h
    obtain ⟨E6, eE6, h⟩ := nb_e h
    obtain ⟨M6, eM6, h⟩ := nb_e h
    refine m_newO (ci := 4) (C := "Ballothall$Division") (T := TX4) (n := 8) hx hb hts iX4 tyX4_ok hown w_169 w_170 w_6 rfl (fun _ => fsX4) hG hP hD hS hA (show _ ≤ mc by omega) (show _ ≤ ms by omega) d_9_1_29 (fun ad6 H hag6 hP hD hS => ?_)
    have hP : va_P z.1 classes (wv z ad6 E6 M6) H := by rw [eE6, eM6]; exact hP
    have hD : va_D A (wv z ad6 E6 M6) := by rw [eE6, eM6]; exact hD
    refine W.eq (g2 := F0 m 32 ls (.ref (ad6 p6) :: [.ref (ad6 p0)])) (by rw [ep6, hag6 p0 h_p0.1] <;> rfl) ?_
    have hl : lv_has ls 2 [(0, .ref (ad6 p0))] := by rw [hag6 p0 h_p0.1]; exact hl
    have hgw6 : Gw E5 E6 := by rw [eE6]; exact gw_new _ _
    have hag0 : ∀ i, i < nE E0 → ad6 i = ad0 i := fun i hi => (hag6 i (Nat.lt_of_lt_of_le hi hE0)).trans (hag0 i hi)
    have hE0 : nE E0 ≤ nE E6 := Nat.le_trans hE0 hgw6.1
    have h_p0 : isO 7 E6 p0 := isO_up hgw6 h_p0
    have h_p6 : isO 4 E6 p6 := by rw [ep6, eE6]; exact ⟨new_i _ _, new_T _ _⟩
    refine lv_dup hx hb d_9_1_32 rfl ?_
    obtain ⟨⟨E7, M7⟩, g7, h⟩ := bd_e h
    obtain ⟨hgw7, h⟩ := ck_e h
    refine kIN (As := []) (rest := [.ref (ad6 p6), .ref (ad6 p0)]) (s_Di_init l z ad6 E6 M6 p6 E7 M7 g7) hx hb hml hown hts w_173 n_171 w_172 rfl w_6 md_813ec5 ⟨Nat.le_of_ble_eq_true rfl, Nat.le_of_ble_eq_true rfl⟩ hG hZ hP hD hS hA rfl hl.1 rfl (Nat.le_of_ble_eq_true rfl) d_9_1_33 ⟨(show _ ≤ mc by omega), (show _ ≤ ms by omega)⟩ (fun u7 H locs hP hD hS => ?_)
    obtain ⟨ad7, had7⟩ : ∃ q, q = adj E6 ad6 u7 := ⟨_, rfl⟩
    have hP : va_P z.1 classes (wv z ad7 E7 M7) H := by rw [had7]; exact hP
    have hD : va_D A (wv z ad7 E7 M7) := by rw [had7]; exact hD
    have hag7 : ∀ i, i < nE E6 → ad7 i = ad6 i := fun i hi => by rw [had7]; exact adj_lt hi
    have hl : lv_has ls 2 [(0, .ref (ad7 p0))] := by rw [hag7 p0 h_p0.1]; exact hl
    refine W.eq (g2 := F0 m 36 ls [.ref (ad7 p6), .ref (ad7 p0)]) (by rw [hag7 p6 h_p6.1, hag7 p0 h_p0.1] <;> rfl) ?_
    have hag0 : ∀ i, i < nE E0 → ad7 i = ad0 i := fun i hi => (hag7 i (Nat.lt_of_lt_of_le hi hE0)).trans (hag0 i hi)
    have hE0 : nE E0 ≤ nE E7 := Nat.le_trans hE0 hgw7.1
    have h_p0 : isO 7 E7 p0 := isO_up hgw7 h_p0
    have h_p6 : isO 4 E7 p6 := isO_up hgw7 h_p6
    obtain ⟨E8, eE8, h⟩ := nb_e h
    refine m_prF (C := "Ballothall$Lists") (T := TX7) (N := 11) (ci := 7) (k := 4) (ty := (.object "Ballothall$Division")) hx hb hts iX7 hown hG hP hD hS h_p0.1 h_p0.2 rfl (by decide) w_249 (fun _ h9 => h9) rfl rfl tyX7_ok nmX7 rfl hin rfl (by decide +kernel) h_p6.1 (fun _ => rfl) (fun _ => rfl) d_9_1_36 (fun H locs hP hD hS => ?_)
    have hP : va_P z.1 classes (wv z ad7 E8 M7) H := by rw [eE8]; exact hP
    have hD : va_D A (wv z ad7 E8 M7) := by rw [eE8]; exact hD
    have hgw8 : Gw E7 E8 := by rw [eE8]; exact gw_ref _ _ _ _
    have hE0 : nE E0 ≤ nE E8 := Nat.le_trans hE0 hgw8.1
    have h_p0 : isO 7 E8 p0 := isO_up hgw8 h_p0
    refine W.eq (g2 := F0 m 39 ls []) rfl ?_
    refine lv_aload_n hx hb d_9_1_39 rfl (lv_at hl 0 rfl) ?_
    obtain ⟨p9, ep9, h⟩ := nb_e h
    obtain ⟨E9, eE9, h⟩ := nb_e h
    obtain ⟨M9, eM9, h⟩ := nb_e h
    refine m_newO (ci := 4) (C := "Ballothall$Division") (T := TX4) (n := 8) hx hb hts iX4 tyX4_ok hown w_169 w_170 w_6 rfl (fun _ => fsX4) hG hP hD hS hA (show _ ≤ mc by omega) (show _ ≤ ms by omega) d_9_1_40 (fun ad9 H hag9 hP hD hS => ?_)
    have hP : va_P z.1 classes (wv z ad9 E9 M9) H := by rw [eE9, eM9]; exact hP
    have hD : va_D A (wv z ad9 E9 M9) := by rw [eE9, eM9]; exact hD
    refine W.eq (g2 := F0 m 43 ls (.ref (ad9 p9) :: [.ref (ad9 p0)])) (by rw [ep9, hag9 p0 h_p0.1] <;> rfl) ?_
    have hl : lv_has ls 2 [(0, .ref (ad9 p0))] := by rw [hag9 p0 h_p0.1]; exact hl
    have hgw9 : Gw E8 E9 := by rw [eE9]; exact gw_new _ _
    have hag0 : ∀ i, i < nE E0 → ad9 i = ad0 i := fun i hi => (hag9 i (Nat.lt_of_lt_of_le hi hE0)).trans (hag0 i hi)
    have hE0 : nE E0 ≤ nE E9 := Nat.le_trans hE0 hgw9.1
    have h_p0 : isO 7 E9 p0 := isO_up hgw9 h_p0
    have h_p9 : isO 4 E9 p9 := by rw [ep9, eE9]; exact ⟨new_i _ _, new_T _ _⟩
    refine lv_dup hx hb d_9_1_43 rfl ?_
    obtain ⟨⟨E10, M10⟩, g10, h⟩ := bd_e h
    obtain ⟨hgw10, h⟩ := ck_e h
    refine kIN (As := []) (rest := [.ref (ad9 p9), .ref (ad9 p0)]) (s_Di_init l z ad9 E9 M9 p9 E10 M10 g10) hx hb hml hown hts w_173 n_171 w_172 rfl w_6 md_813ec5 ⟨Nat.le_of_ble_eq_true rfl, Nat.le_of_ble_eq_true rfl⟩ hG hZ hP hD hS hA rfl hl.1 rfl (Nat.le_of_ble_eq_true rfl) d_9_1_44 ⟨(show _ ≤ mc by omega), (show _ ≤ ms by omega)⟩ (fun u10 H locs hP hD hS => ?_)
    obtain ⟨ad10, had10⟩ : ∃ q, q = adj E9 ad9 u10 := ⟨_, rfl⟩
    have hP : va_P z.1 classes (wv z ad10 E10 M10) H := by rw [had10]; exact hP
    have hD : va_D A (wv z ad10 E10 M10) := by rw [had10]; exact hD
    have hag10 : ∀ i, i < nE E9 → ad10 i = ad9 i := fun i hi => by rw [had10]; exact adj_lt hi
    have hl : lv_has ls 2 [(0, .ref (ad10 p0))] := by rw [hag10 p0 h_p0.1]; exact hl
    refine W.eq (g2 := F0 m 47 ls [.ref (ad10 p9), .ref (ad10 p0)]) (by rw [hag10 p9 h_p9.1, hag10 p0 h_p0.1] <;> rfl) ?_
    have hag0 : ∀ i, i < nE E0 → ad10 i = ad0 i := fun i hi => (hag10 i (Nat.lt_of_lt_of_le hi hE0)).trans (hag0 i hi)
    have hE0 : nE E0 ≤ nE E10 := Nat.le_trans hE0 hgw10.1
    have h_p0 : isO 7 E10 p0 := isO_up hgw10 h_p0
    have h_p9 : isO 4 E10 p9 := isO_up hgw10 h_p9
    obtain ⟨E11, eE11, h⟩ := nb_e h
    refine m_prF (C := "Ballothall$Lists") (T := TX7) (N := 11) (ci := 7) (k := 5) (ty := (.object "Ballothall$Division")) hx hb hts iX7 hown hG hP hD hS h_p0.1 h_p0.2 rfl (by decide) w_250 (fun _ h9 => h9) rfl rfl tyX7_ok nmX7 rfl hin rfl (by decide +kernel) h_p9.1 (fun _ => rfl) (fun _ => rfl) d_9_1_47 (fun H locs hP hD hS => ?_)
    have hP : va_P z.1 classes (wv z ad10 E11 M10) H := by rw [eE11]; exact hP
    have hD : va_D A (wv z ad10 E11 M10) := by rw [eE11]; exact hD
    have hgw11 : Gw E10 E11 := by rw [eE11]; exact gw_ref _ _ _ _
    have hE0 : nE E0 ≤ nE E11 := Nat.le_trans hE0 hgw11.1
    have h_p0 : isO 7 E11 p0 := isO_up hgw11 h_p0
    refine W.eq (g2 := F0 m 50 ls []) rfl ?_
    refine lv_aload_n hx hb d_9_1_50 rfl (lv_at hl 0 rfl) ?_
    refine lv_bipush (v := oI 8) hx hb d_9_1_51 (by decide +kernel) ?_
    obtain ⟨p12, ep12, h⟩ := nb_e h
    obtain ⟨E12, eE12, h⟩ := nb_e h
    obtain ⟨M12, eM12, h⟩ := nb_e h
    refine m_newI (x := (8 : Int)) (N := 8) hx hb (by decide) (by decide) (by decide) (hts _ w_100) hG hP hD hS hA (show _ ≤ mc by omega) (show _ ≤ ms by omega) d_9_1_53 (fun ad12 H hag12 hP hD hS => ?_)
    have hP : va_P z.1 classes (wv z ad12 E12 M12) H := by rw [eE12, eM12]; exact hP
    have hD : va_D A (wv z ad12 E12 M12) := by rw [eE12, eM12]; exact hD
    refine W.eq (g2 := F0 m 55 ls (.ref (ad12 p12) :: [.ref (ad12 p0)])) (by rw [ep12, hag12 p0 h_p0.1] <;> rfl) ?_
    have hl : lv_has ls 2 [(0, .ref (ad12 p0))] := by rw [hag12 p0 h_p0.1]; exact hl
    have hgw12 : Gw E11 E12 := by rw [eE12]; exact gw_new _ _
    have hag0 : ∀ i, i < nE E0 → ad12 i = ad0 i := fun i hi => (hag12 i (Nat.lt_of_lt_of_le hi hE0)).trans (hag0 i hi)
    have hE0 : nE E0 ≤ nE E12 := Nat.le_trans hE0 hgw12.1
    have h_p0 : isO 7 E12 p0 := isO_up hgw12 h_p0
    have h_p12 : isIA E12 p12 := by rw [ep12, eE12]; exact ⟨new_i _ _, by rw [new_T]⟩
    obtain ⟨E13, eE13, h⟩ := nb_e h
    refine m_prF (C := "Ballothall$Lists") (T := TX7) (N := 11) (ci := 7) (k := 7) (ty := (.array .int)) hx hb hts iX7 hown hG hP hD hS h_p0.1 h_p0.2 rfl (by decide) w_252 (fun _ h9 => h9) rfl rfl tyX7_ok nmX7 rfl hin rfl (by decide +kernel) h_p12.1 (fun _ => rfl) (fun _ => rfl) d_9_1_55 (fun H locs hP hD hS => ?_)
    have hP : va_P z.1 classes (wv z ad12 E13 M12) H := by rw [eE13]; exact hP
    have hD : va_D A (wv z ad12 E13 M12) := by rw [eE13]; exact hD
    have hgw13 : Gw E12 E13 := by rw [eE13]; exact gw_ref _ _ _ _
    have hE0 : nE E0 ≤ nE E13 := Nat.le_trans hE0 hgw13.1
    have h_p0 : isO 7 E13 p0 := isO_up hgw13 h_p0
    refine W.eq (g2 := F0 m 58 ls []) rfl ?_
    refine lv_aload_n hx hb d_9_1_58 rfl (lv_at hl 0 rfl) ?_
    refine lv_bipush (v := oI 8) hx hb d_9_1_59 (by decide +kernel) ?_
    obtain ⟨p14, ep14, h⟩ := nb_e h
    obtain ⟨E14, eE14, h⟩ := nb_e h
    obtain ⟨M14, eM14, h⟩ := nb_e h
    refine m_newI (x := (8 : Int)) (N := 8) hx hb (by decide) (by decide) (by decide) (hts _ w_100) hG hP hD hS hA (show _ ≤ mc by omega) (show _ ≤ ms by omega) d_9_1_61 (fun ad14 H hag14 hP hD hS => ?_)
    have hP : va_P z.1 classes (wv z ad14 E14 M14) H := by rw [eE14, eM14]; exact hP
    have hD : va_D A (wv z ad14 E14 M14) := by rw [eE14, eM14]; exact hD
    refine W.eq (g2 := F0 m 63 ls (.ref (ad14 p14) :: [.ref (ad14 p0)])) (by rw [ep14, hag14 p0 h_p0.1] <;> rfl) ?_
    have hl : lv_has ls 2 [(0, .ref (ad14 p0))] := by rw [hag14 p0 h_p0.1]; exact hl
    have hgw14 : Gw E13 E14 := by rw [eE14]; exact gw_new _ _
    have hag0 : ∀ i, i < nE E0 → ad14 i = ad0 i := fun i hi => (hag14 i (Nat.lt_of_lt_of_le hi hE0)).trans (hag0 i hi)
    have hE0 : nE E0 ≤ nE E14 := Nat.le_trans hE0 hgw14.1
    have h_p0 : isO 7 E14 p0 := isO_up hgw14 h_p0
    have h_p14 : isIA E14 p14 := by rw [ep14, eE14]; exact ⟨new_i _ _, by rw [new_T]⟩
    obtain ⟨E15, eE15, h⟩ := nb_e h
    refine m_prF (C := "Ballothall$Lists") (T := TX7) (N := 11) (ci := 7) (k := 8) (ty := (.array .int)) hx hb hts iX7 hown hG hP hD hS h_p0.1 h_p0.2 rfl (by decide) w_253 (fun _ h9 => h9) rfl rfl tyX7_ok nmX7 rfl hin rfl (by decide +kernel) h_p14.1 (fun _ => rfl) (fun _ => rfl) d_9_1_63 (fun H locs hP hD hS => ?_)
    have hP : va_P z.1 classes (wv z ad14 E15 M14) H := by rw [eE15]; exact hP
    have hD : va_D A (wv z ad14 E15 M14) := by rw [eE15]; exact hD
    have hgw15 : Gw E14 E15 := by rw [eE15]; exact gw_ref _ _ _ _
    have hE0 : nE E0 ≤ nE E15 := Nat.le_trans hE0 hgw15.1
    have h_p0 : isO 7 E15 p0 := isO_up hgw15 h_p0
    refine W.eq (g2 := F0 m 66 ls []) rfl ?_
    refine lv_aload_n hx hb d_9_1_66 rfl (lv_at hl 0 rfl) ?_
    refine lv_bipush (v := oI 21) hx hb d_9_1_67 (by decide +kernel) ?_
    obtain ⟨p16, ep16, h⟩ := nb_e h
    obtain ⟨E16, eE16, h⟩ := nb_e h
    obtain ⟨M16, eM16, h⟩ := nb_e h
    refine m_newq (C := "Ballothall$KeptSeats") (t := 3) (x := (21 : Int)) (N := 21) hx hb (by decide) (by decide) (by decide) hown (hts _ w_205) (by decide) rfl (fun _ h => ty_eq3 h) hG hP hD hS hA (show _ ≤ mc by omega) (show _ ≤ ms by omega) d_9_1_69 (fun ad16 H hag16 hP hD hS => ?_)
    have hP : va_P z.1 classes (wv z ad16 E16 M16) H := by rw [eE16, eM16]; exact hP
    have hD : va_D A (wv z ad16 E16 M16) := by rw [eE16, eM16]; exact hD
    refine W.eq (g2 := F0 m 72 ls (.ref (ad16 p16) :: [.ref (ad16 p0)])) (by rw [ep16, hag16 p0 h_p0.1] <;> rfl) ?_
    have hl : lv_has ls 2 [(0, .ref (ad16 p0))] := by rw [hag16 p0 h_p0.1]; exact hl
    have hgw16 : Gw E15 E16 := by rw [eE16]; exact gw_new _ _
    have hag0 : ∀ i, i < nE E0 → ad16 i = ad0 i := fun i hi => (hag16 i (Nat.lt_of_lt_of_le hi hE0)).trans (hag0 i hi)
    have hE0 : nE E0 ≤ nE E16 := Nat.le_trans hE0 hgw16.1
    have h_p0 : isO 7 E16 p0 := isO_up hgw16 h_p0
    have h_p16 : isQ 3 E16 p16 := by rw [ep16, eE16]; exact ⟨new_i _ _, by rw [new_T]⟩
    obtain ⟨E17, eE17, h⟩ := nb_e h
    refine m_prF (C := "Ballothall$Lists") (T := TX7) (N := 11) (ci := 7) (k := 9) (ty := (.array (.object "Ballothall$KeptSeats"))) hx hb hts iX7 hown hG hP hD hS h_p0.1 h_p0.2 rfl (by decide) w_254 (fun _ h9 => h9) rfl rfl tyX7_ok nmX7 rfl hin rfl (by decide +kernel) h_p16.1 (fun _ => rfl) (fun _ => rfl) d_9_1_72 (fun H locs hP hD hS => ?_)
    have hP : va_P z.1 classes (wv z ad16 E17 M16) H := by rw [eE17]; exact hP
    have hD : va_D A (wv z ad16 E17 M16) := by rw [eE17]; exact hD
    have hgw17 : Gw E16 E17 := by rw [eE17]; exact gw_ref _ _ _ _
    have hE0 : nE E0 ≤ nE E17 := Nat.le_trans hE0 hgw17.1
    have h_p0 : isO 7 E17 p0 := isO_up hgw17 h_p0
    refine W.eq (g2 := F0 m 75 ls []) rfl ?_
    refine lv_iconst (v := oI 0) hx hb d_9_1_75 (by decide +kernel) ?_
    refine lv_istore_n (lv' := [(1, .int (oI 0)), (0, .ref (ad16 p0))]) hx hb d_9_1_76 rfl hl (by decide) rfl (fun ls hl => ?_)
    obtain ⟨⟨t24, v24_1, E24, M24⟩, g24, h⟩ := bd_e h
    obtain ⟨hgw24, h⟩ := ck_e h
    obtain ⟨ok24, h⟩ := ck_e h
    refine s_Li_init_77 l z E17 ad16 p0 hx hb hml hts hown hlocks hA hG hZ mc ms (c0 + 180) (s0 + 3191) (by omega) (by omega) 32 _ _ ad16 E17 M16 0 t24 v24_1 E24 M24 (by omega) (by omega) (fun _ _ => rfl) (Nat.le_refl _) g24 (fun ad24 hag24 hEE24 e24 H locs ls hP hD hS hl => ?_) H locs ls hP hD hS (lv_sub hl [1, 0] rfl)
    have hag0 : ∀ i, i < nE E0 → ad24 i = ad0 i := fun i hi => (hag24 i (Nat.lt_of_lt_of_le hi hE0)).trans (hag0 i hi)
    have hE0 : nE E0 ≤ nE E24 := Nat.le_trans hE0 hgw24.1
    refine W.wide (k := c1) (n := s1) (by omega) (by omega) ?_
    obtain ⟨rfl, rfl⟩ := in2 h
    exact W.vret hx hb hr (fun t ht hW => qkA hP hD hS ad24 (congrArg (fun q => wv z q E24 M24) (adj_self hag0).symm) rfl ht) hS.2.2 d_9_1_102
  exact key E ad 180 3191 0 0 180 3191 _ _ _ (by decide) (by decide) (by decide) (by decide) (fun _ _ => rfl) (Nat.le_refl _) hts hP hS
set_option maxRecDepth 100000 in
set_option maxHeartbeats 4000000 in
theorem s_Na_init (l : Launch) (z : Zz) (ad : Nat → Nat) (E : Ev) (M : Mm) (p0 : Nat) (F : Ev) (N : Mm) (h : f_Na_init E M p0 = some (F, N)) : CT l z ⟨"Ballothall$Natural", "<init>", "()V"⟩ prog_10_method_1_code 1 none [.ref (ad p0)] (wv z ad E M) 1 40 1 13 (fun u => none) (fun u => wv z (adj E ad u) F N) := by
  refine CT.of (own := "Ballothall$Natural") (by decide +kernel) (Nat.le_of_ble_eq_true rfl) rfl (fun p e s m below meth c A ls hx hb hml hr hts hown hlocks hin hA hG hZ hP hD hS hl => ?_)
  have hl : lv_has ls 1 [(0, .ref (ad p0))] := hl
  have key : ∀ (E0 : Ev) (ad0 : Nat → Nat) (mc ms c0 s0 c1 s1 : Nat) (H : Heap) (locs : List Loc) (args : Array Value), c0 + 1 ≤ c1 → s0 + 13 ≤ s1 → c1 ≤ mc → s1 ≤ ms → (∀ i, i < nE E0 → ad i = ad0 i) → nE E0 ≤ nE E → (∀ w ∈ WG, w.before args s = true) → va_P z.1 classes (wv z ad E M) H → va_S A s.heap H locs → W p l e (rmK 1 40 mc ms) s m args below meth c H locs c0 s0 (MQ below (QK z A (fun u => none) (fun u => wv z (adj E0 ad0 u) F N)) args s c1 s1 A) (F0 m 0 ls []) := by
    intro E0 ad0 mc ms c0 s0 c1 s1 H locs args hc hs hm hm2 hag0 hE0 hts hP hS
    unfold f_Na_init at h
    obtain ⟨h_p0, h⟩ := ck_e h
    refine lv_aload_n hx hb d_10_1_0 rfl (lv_at hl 0 rfl) ?_
    refine W.objInit hx hb hown (hts _ w_293) (hts _ w_38) (hts _ w_obj) rfl (by rw [hml]; exact hl.1) rfl d_10_1_1 (Nat.le_of_ble_eq_true rfl) (Nat.le_of_ble_eq_true rfl) ?_
    refine W.eq (g2 := F0 m 4 ls []) rfl ?_
    refine lv_aload_n hx hb d_10_1_4 rfl (lv_at hl 0 rfl) ?_
    refine lv_bipush (v := oI 13) hx hb d_10_1_5 (by decide +kernel) ?_
    obtain ⟨p0, ep0, h⟩ := nb_e h
    obtain ⟨E0, eE0, h⟩ := nb_e h
    obtain ⟨M0, eM0, h⟩ := nb_e h
    refine m_newI (x := (13 : Int)) (N := 13) hx hb (by decide) (by decide) (by decide) (hts _ w_100) hG hP hD hS hA (show _ ≤ mc by omega) (show _ ≤ ms by omega) d_10_1_7 (fun ad0 H hag0 hP hD hS => ?_)
    have hP : va_P z.1 classes (wv z ad0 E0 M0) H := by rw [eE0, eM0]; exact hP
    have hD : va_D A (wv z ad0 E0 M0) := by rw [eE0, eM0]; exact hD
    refine W.eq (g2 := F0 m 9 ls (.ref (ad0 p0) :: [.ref (ad0 p0)])) (by rw [ep0, hag0 p0 h_p0.1] <;> rfl) ?_
    have hl : lv_has ls 1 [(0, .ref (ad0 p0))] := by rw [hag0 p0 h_p0.1]; exact hl
    have hgw0 : Gw E E0 := by rw [eE0]; exact gw_new _ _
    have hag0 : ∀ i, i < nE E0 → ad0 i = ad0 i := fun i hi => (hag0 i (Nat.lt_of_lt_of_le hi hE0)).trans (hag0 i hi)
    have hE0 : nE E0 ≤ nE E0 := Nat.le_trans hE0 hgw0.1
    have h_p0 : isO 8 E0 p0 := isO_up hgw0 h_p0
    have h_p0 : isIA E0 p0 := by rw [ep0, eE0]; exact ⟨new_i _ _, by rw [new_T]⟩
    obtain ⟨E1, eE1, h⟩ := nb_e h
    refine m_prF (C := "Ballothall$Natural") (T := TX8) (N := 2) (ci := 8) (k := 0) (ty := (.array .int)) hx hb hts iX8 hown hG hP hD hS h_p0.1 h_p0.2 rfl (by decide) w_294 (fun _ h9 => h9) rfl rfl tyX8_ok nmX8 rfl hin rfl (by decide +kernel) h_p0.1 (fun _ => rfl) (fun _ => rfl) d_10_1_9 (fun H locs hP hD hS => ?_)
    have hP : va_P z.1 classes (wv z ad0 E1 M0) H := by rw [eE1]; exact hP
    have hD : va_D A (wv z ad0 E1 M0) := by rw [eE1]; exact hD
    have hgw1 : Gw E0 E1 := by rw [eE1]; exact gw_ref _ _ _ _
    have hE0 : nE E0 ≤ nE E1 := Nat.le_trans hE0 hgw1.1
    have h_p0 : isO 8 E1 p0 := isO_up hgw1 h_p0
    refine W.eq (g2 := F0 m 12 ls []) rfl ?_
    refine W.wide (k := c1) (n := s1) (by omega) (by omega) ?_
    obtain ⟨rfl, rfl⟩ := in2 h
    exact W.vret hx hb hr (fun t ht hW => qkA hP hD hS ad0 (congrArg (fun q => wv z q E1 M0) (adj_self hag0).symm) rfl ht) hS.2.2 d_10_1_12
  exact key E ad 1 13 0 0 1 13 _ _ _ (by decide) (by decide) (by decide) (by decide) (fun _ _ => rfl) (Nat.le_refl _) hts hP hS
