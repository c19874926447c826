set_option maxRecDepth 100000 in
set_option maxHeartbeats 4000000 in
theorem s_Bx_init (l : Launch) (z : Zz) (ad : Nat → Nat) (E : Ev) (M : Mm) (p0 : Nat) (F : Ev) (N : Mm) (h : f_Bx_init E M p0 = some (F, N)) : CT l z ⟨"Ballothall$BallotBox", "<init>", "()V"⟩ prog_2_method_1_code 1 none [.ref (ad p0)] (wv z ad E M) 1 40 38 666 (fun u => none) (fun u => wv z (adj E ad u) F N) := by
  refine CT.of (own := "Ballothall$BallotBox") (by decide +kernel) (Nat.le_of_ble_eq_true rfl) rfl (fun p e s m below meth c A ls hx hb hml hr hts hown hlocks hin hA hG hZ hP hD hS hl => ?_)
  have hl : lv_has ls 1 [(0, .ref (ad p0))] := hl
  have key : ∀ (E0 : Ev) (ad0 : Nat → Nat) (mc ms c0 s0 c1 s1 : Nat) (H : Heap) (locs : List Loc) (args : Array Value), c0 + 38 ≤ c1 → s0 + 666 ≤ s1 → c1 ≤ mc → s1 ≤ ms → (∀ i, i < nE E0 → ad i = ad0 i) → nE E0 ≤ nE E → (∀ w ∈ WG, w.before args s = true) → va_P z.1 classes (wv z ad E M) H → va_S A s.heap H locs → W p l e (rmK 1 40 mc ms) s m args below meth c H locs c0 s0 (MQ below (QK z A (fun u => none) (fun u => wv z (adj E0 ad0 u) F N)) args s c1 s1 A) (F0 m 0 ls []) := by
    intro E0 ad0 mc ms c0 s0 c1 s1 H locs args hc hs hm hm2 hag0 hE0 hts hP hS
    unfold f_Bx_init at h
    obtain ⟨h_p0, h⟩ := ck_e h
    refine lv_aload_n hx hb d_2_1_0 rfl (lv_at hl 0 rfl) ?_
    refine W.objInit hx hb hown (hts _ w_45) (hts _ w_38) (hts _ w_obj) rfl (by rw [hml]; exact hl.1) rfl d_2_1_1 (Nat.le_of_ble_eq_true rfl) (Nat.le_of_ble_eq_true rfl) ?_
    refine W.eq (g2 := F0 m 4 ls []) rfl ?_
    refine lv_aload_n hx hb d_2_1_4 rfl (lv_at hl 0 rfl) ?_
    refine lv_bipush (v := oI 30) hx hb d_2_1_5 (by decide +kernel) ?_
    obtain ⟨p100, ep100, h⟩ := nb_e h
    obtain ⟨E100, eE100, h⟩ := nb_e h
    obtain ⟨M100, eM100, h⟩ := nb_e h
    refine m_newI (x := (30 : Int)) (N := 30) hx hb (by decide) (by decide) (by decide) (hts _ w_100) hG hP hD hS hA (show _ ≤ mc by omega) (show _ ≤ ms by omega) d_2_1_7 (fun ad100 H hag100 hP hD hS => ?_)
    have hP : va_P z.1 classes (wv z ad100 E100 M100) H := by rw [eE100, eM100]; exact hP
    have hD : va_D A (wv z ad100 E100 M100) := by rw [eE100, eM100]; exact hD
    refine W.eq (g2 := F0 m 9 ls (.ref (ad100 p100) :: [.ref (ad100 p0)])) (by rw [ep100, hag100 p0 h_p0.1] <;> rfl) ?_
    have hl : lv_has ls 1 [(0, .ref (ad100 p0))] := by rw [hag100 p0 h_p0.1]; exact hl
    have hgw100 : Gw E E100 := by rw [eE100]; exact gw_new _ _
    have hag0 : ∀ i, i < nE E0 → ad100 i = ad0 i := fun i hi => (hag100 i (Nat.lt_of_lt_of_le hi hE0)).trans (hag0 i hi)
    have hE0 : nE E0 ≤ nE E100 := Nat.le_trans hE0 hgw100.1
    have h_p0 : isO 0 E100 p0 := isO_up hgw100 h_p0
    have h_p100 : isIA E100 p100 := by rw [ep100, eE100]; exact ⟨new_i _ _, by rw [new_T]⟩
    obtain ⟨E101, eE101, h⟩ := nb_e h
    refine m_prF (C := "Ballothall$BallotBox") (T := TX0) (N := 10) (ci := 0) (k := 0) (ty := (.array .int)) hx hb hts iX0 hown hG hP hD hS h_p0.1 h_p0.2 rfl (by decide) w_48 (fun _ h9 => h9) rfl rfl tyX0_ok nmX0 rfl hin rfl (by decide +kernel) h_p100.1 (fun _ => rfl) (fun _ => rfl) d_2_1_9 (fun H locs hP hD hS => ?_)
    have hP : va_P z.1 classes (wv z ad100 E101 M100) H := by rw [eE101]; exact hP
    have hD : va_D A (wv z ad100 E101 M100) := by rw [eE101]; exact hD
    have hgw101 : Gw E100 E101 := by rw [eE101]; exact gw_ref _ _ _ _
    have hE0 : nE E0 ≤ nE E101 := Nat.le_trans hE0 hgw101.1
    have h_p0 : isO 0 E101 p0 := isO_up hgw101 h_p0
    refine W.eq (g2 := F0 m 12 ls []) rfl ?_
    refine lv_aload_n hx hb d_2_1_12 rfl (lv_at hl 0 rfl) ?_
    refine lv_bipush (v := oI 8) hx hb d_2_1_13 (by decide +kernel) ?_
    obtain ⟨p102, ep102, h⟩ := nb_e h
    obtain ⟨E102, eE102, h⟩ := nb_e h
    obtain ⟨M102, eM102, h⟩ := nb_e h
    refine m_newI (x := (8 : Int)) (N := 8) hx hb (by decide) (by decide) (by decide) (hts _ w_100) hG hP hD hS hA (show _ ≤ mc by omega) (show _ ≤ ms by omega) d_2_1_15 (fun ad102 H hag102 hP hD hS => ?_)
    have hP : va_P z.1 classes (wv z ad102 E102 M102) H := by rw [eE102, eM102]; exact hP
    have hD : va_D A (wv z ad102 E102 M102) := by rw [eE102, eM102]; exact hD
    refine W.eq (g2 := F0 m 17 ls (.ref (ad102 p102) :: [.ref (ad102 p0)])) (by rw [ep102, hag102 p0 h_p0.1] <;> rfl) ?_
    have hl : lv_has ls 1 [(0, .ref (ad102 p0))] := by rw [hag102 p0 h_p0.1]; exact hl
    have hgw102 : Gw E101 E102 := by rw [eE102]; exact gw_new _ _
    have hag0 : ∀ i, i < nE E0 → ad102 i = ad0 i := fun i hi => (hag102 i (Nat.lt_of_lt_of_le hi hE0)).trans (hag0 i hi)
    have hE0 : nE E0 ≤ nE E102 := Nat.le_trans hE0 hgw102.1
    have h_p0 : isO 0 E102 p0 := isO_up hgw102 h_p0
    have h_p102 : isIA E102 p102 := by rw [ep102, eE102]; exact ⟨new_i _ _, by rw [new_T]⟩
    obtain ⟨E103, eE103, h⟩ := nb_e h
    refine m_prF (C := "Ballothall$BallotBox") (T := TX0) (N := 10) (ci := 0) (k := 4) (ty := (.array .int)) hx hb hts iX0 hown hG hP hD hS h_p0.1 h_p0.2 rfl (by decide) w_61 (fun _ h9 => h9) rfl rfl tyX0_ok nmX0 rfl hin rfl (by decide +kernel) h_p102.1 (fun _ => rfl) (fun _ => rfl) d_2_1_17 (fun H locs hP hD hS => ?_)
    have hP : va_P z.1 classes (wv z ad102 E103 M102) H := by rw [eE103]; exact hP
    have hD : va_D A (wv z ad102 E103 M102) := by rw [eE103]; exact hD
    have hgw103 : Gw E102 E103 := by rw [eE103]; exact gw_ref _ _ _ _
    have hE0 : nE E0 ≤ nE E103 := Nat.le_trans hE0 hgw103.1
    have h_p0 : isO 0 E103 p0 := isO_up hgw103 h_p0
    refine W.eq (g2 := F0 m 20 ls []) rfl ?_
    refine lv_aload_n hx hb d_2_1_20 rfl (lv_at hl 0 rfl) ?_
    refine lv_bipush (v := oI 31) hx hb d_2_1_21 (by decide +kernel) ?_
    obtain ⟨p104, ep104, h⟩ := nb_e h
    obtain ⟨E104, eE104, h⟩ := nb_e h
    obtain ⟨M104, eM104, h⟩ := nb_e h
    refine m_newI (x := (31 : Int)) (N := 31) hx hb (by decide) (by decide) (by decide) (hts _ w_100) hG hP hD hS hA (show _ ≤ mc by omega) (show _ ≤ ms by omega) d_2_1_23 (fun ad104 H hag104 hP hD hS => ?_)
    have hP : va_P z.1 classes (wv z ad104 E104 M104) H := by rw [eE104, eM104]; exact hP
    have hD : va_D A (wv z ad104 E104 M104) := by rw [eE104, eM104]; exact hD
    refine W.eq (g2 := F0 m 25 ls (.ref (ad104 p104) :: [.ref (ad104 p0)])) (by rw [ep104, hag104 p0 h_p0.1] <;> rfl) ?_
    have hl : lv_has ls 1 [(0, .ref (ad104 p0))] := by rw [hag104 p0 h_p0.1]; exact hl
    have hgw104 : Gw E103 E104 := by rw [eE104]; exact gw_new _ _
    have hag0 : ∀ i, i < nE E0 → ad104 i = ad0 i := fun i hi => (hag104 i (Nat.lt_of_lt_of_le hi hE0)).trans (hag0 i hi)
    have hE0 : nE E0 ≤ nE E104 := Nat.le_trans hE0 hgw104.1
    have h_p0 : isO 0 E104 p0 := isO_up hgw104 h_p0
    have h_p104 : isIA E104 p104 := by rw [ep104, eE104]; exact ⟨new_i _ _, by rw [new_T]⟩
    obtain ⟨E105, eE105, h⟩ := nb_e h
    refine m_prF (C := "Ballothall$BallotBox") (T := TX0) (N := 10) (ci := 0) (k := 5) (ty := (.array .int)) hx hb hts iX0 hown hG hP hD hS h_p0.1 h_p0.2 rfl (by decide) w_63 (fun _ h9 => h9) rfl rfl tyX0_ok nmX0 rfl hin rfl (by decide +kernel) h_p104.1 (fun _ => rfl) (fun _ => rfl) d_2_1_25 (fun H locs hP hD hS => ?_)
    have hP : va_P z.1 classes (wv z ad104 E105 M104) H := by rw [eE105]; exact hP
    have hD : va_D A (wv z ad104 E105 M104) := by rw [eE105]; exact hD
    have hgw105 : Gw E104 E105 := by rw [eE105]; exact gw_ref _ _ _ _
    have hE0 : nE E0 ≤ nE E105 := Nat.le_trans hE0 hgw105.1
    have h_p0 : isO 0 E105 p0 := isO_up hgw105 h_p0
    refine W.eq (g2 := F0 m 28 ls []) rfl ?_
    refine lv_aload_n hx hb d_2_1_28 rfl (lv_at hl 0 rfl) ?_
    refine lv_bipush (v := oI 31) hx hb d_2_1_29 (by decide +kernel) ?_
    obtain ⟨p106, ep106, h⟩ := nb_e h
    obtain ⟨E106, eE106, h⟩ := nb_e h
    obtain ⟨M106, eM106, h⟩ := nb_e h
    refine m_newI (x := (31 : Int)) (N := 31) hx hb (by decide) (by decide) (by decide) (hts _ w_100) hG hP hD hS hA (show _ ≤ mc by omega) (show _ ≤ ms by omega) d_2_1_31 (fun ad106 H hag106 hP hD hS => ?_)
    have hP : va_P z.1 classes (wv z ad106 E106 M106) H := by rw [eE106, eM106]; exact hP
    have hD : va_D A (wv z ad106 E106 M106) := by rw [eE106, eM106]; exact hD
    refine W.eq (g2 := F0 m 33 ls (.ref (ad106 p106) :: [.ref (ad106 p0)])) (by rw [ep106, hag106 p0 h_p0.1] <;> rfl) ?_
    have hl : lv_has ls 1 [(0, .ref (ad106 p0))] := by rw [hag106 p0 h_p0.1]; exact hl
    have hgw106 : Gw E105 E106 := by rw [eE106]; exact gw_new _ _
    have hag0 : ∀ i, i < nE E0 → ad106 i = ad0 i := fun i hi => (hag106 i (Nat.lt_of_lt_of_le hi hE0)).trans (hag0 i hi)
    have hE0 : nE E0 ≤ nE E106 := Nat.le_trans hE0 hgw106.1
    have h_p0 : isO 0 E106 p0 := isO_up hgw106 h_p0
    have h_p106 : isIA E106 p106 := by rw [ep106, eE106]; exact ⟨new_i _ _, by rw [new_T]⟩
    obtain ⟨E107, eE107, h⟩ := nb_e h
    refine m_prF (C := "Ballothall$BallotBox") (T := TX0) (N := 10) (ci := 0) (k := 6) (ty := (.array .int)) hx hb hts iX0 hown hG hP hD hS h_p0.1 h_p0.2 rfl (by decide) w_68 (fun _ h9 => h9) rfl rfl tyX0_ok nmX0 rfl hin rfl (by decide +kernel) h_p106.1 (fun _ => rfl) (fun _ => rfl) d_2_1_33 (fun H locs hP hD hS => ?_)
    have hP : va_P z.1 classes (wv z ad106 E107 M106) H := by rw [eE107]; exact hP
    have hD : va_D A (wv z ad106 E107 M106) := by rw [eE107]; exact hD
    have hgw107 : Gw E106 E107 := by rw [eE107]; exact gw_ref _ _ _ _
    have hE0 : nE E0 ≤ nE E107 := Nat.le_trans hE0 hgw107.1
    have h_p0 : isO 0 E107 p0 := isO_up hgw107 h_p0
    refine W.eq (g2 := F0 m 36 ls []) rfl ?_
    refine lv_aload_n hx hb d_2_1_36 rfl (lv_at hl 0 rfl) ?_
    refine lv_bipush (v := oI 31) hx hb d_2_1_37 (by decide +kernel) ?_
    obtain ⟨p108, ep108, h⟩ := nb_e h
    obtain ⟨E108, eE108, h⟩ := nb_e h
    obtain ⟨M108, eM108, h⟩ := nb_e h
    refine m_newI (x := (31 : Int)) (N := 31) hx hb (by decide) (by decide) (by decide) (hts _ w_100) hG hP hD hS hA (show _ ≤ mc by omega) (show _ ≤ ms by omega) d_2_1_39 (fun ad108 H hag108 hP hD hS => ?_)
    have hP : va_P z.1 classes (wv z ad108 E108 M108) H := by rw [eE108, eM108]; exact hP
    have hD : va_D A (wv z ad108 E108 M108) := by rw [eE108, eM108]; exact hD
    refine W.eq (g2 := F0 m 41 ls (.ref (ad108 p108) :: [.ref (ad108 p0)])) (by rw [ep108, hag108 p0 h_p0.1] <;> rfl) ?_
    have hl : lv_has ls 1 [(0, .ref (ad108 p0))] := by rw [hag108 p0 h_p0.1]; exact hl
    have hgw108 : Gw E107 E108 := by rw [eE108]; exact gw_new _ _
    have hag0 : ∀ i, i < nE E0 → ad108 i = ad0 i := fun i hi => (hag108 i (Nat.lt_of_lt_of_le hi hE0)).trans (hag0 i hi)
    have hE0 : nE E0 ≤ nE E108 := Nat.le_trans hE0 hgw108.1
    have h_p0 : isO 0 E108 p0 := isO_up hgw108 h_p0
    have h_p108 : isIA E108 p108 := by rw [ep108, eE108]; exact ⟨new_i _ _, by rw [new_T]⟩
    obtain ⟨E109, eE109, h⟩ := nb_e h
    refine m_prF (C := "Ballothall$BallotBox") (T := TX0) (N := 10) (ci := 0) (k := 7) (ty := (.array .int)) hx hb hts iX0 hown hG hP hD hS h_p0.1 h_p0.2 rfl (by decide) w_72 (fun _ h9 => h9) rfl rfl tyX0_ok nmX0 rfl hin rfl (by decide +kernel) h_p108.1 (fun _ => rfl) (fun _ => rfl) d_2_1_41 (fun H locs hP hD hS => ?_)
    have hP : va_P z.1 classes (wv z ad108 E109 M108) H := by rw [eE109]; exact hP
    have hD : va_D A (wv z ad108 E109 M108) := by rw [eE109]; exact hD
    have hgw109 : Gw E108 E109 := by rw [eE109]; exact gw_ref _ _ _ _
    have hE0 : nE E0 ≤ nE E109 := Nat.le_trans hE0 hgw109.1
    have h_p0 : isO 0 E109 p0 := isO_up hgw109 h_p0
    refine W.eq (g2 := F0 m 44 ls []) rfl ?_
    refine lv_aload_n hx hb d_2_1_44 rfl (lv_at hl 0 rfl) ?_
    refine lv_bipush (v := oI 31) hx hb d_2_1_45 (by decide +kernel) ?_
    refine lv_bipush (v := oI 8) hx hb d_2_1_47 (by decide +kernel) ?_
    obtain ⟨p110, ep110, h⟩ := nb_e h
    obtain ⟨E110, eE110, h⟩ := nb_e h
    obtain ⟨M110, eM110, h⟩ := nb_e h
    refine m_grid (x := (31 : Int)) (y := (8 : Int)) (N := 31) (K := 8) hx hb (by decide) (by decide) (by decide) (by decide) (by decide) (by decide) hown (hts _ w_46) (hts _ w_100) hG hP hD hS hA (show _ ≤ mc by omega) (show _ ≤ ms by omega) d_2_1_49 (fun ad110 H hag110 hP hD hS => ?_)
    have hP : va_P z.1 classes (wv z ad110 E110 M110) H := by rw [eE110, eM110]; exact hP
    have hD : va_D A (wv z ad110 E110 M110) := by rw [eE110, eM110]; exact hD
    refine W.eq (g2 := F0 m 53 ls (.ref (ad110 p110) :: [.ref (ad110 p0)])) (by rw [ep110, hag110 p0 h_p0.1] <;> rfl) ?_
    have hl : lv_has ls 1 [(0, .ref (ad110 p0))] := by rw [hag110 p0 h_p0.1]; exact hl
    have hgw110 : Gw E109 E110 := by rw [eE110]; exact gw_grid _ _ _
    have hag0 : ∀ i, i < nE E0 → ad110 i = ad0 i := fun i hi => (hag110 i (Nat.lt_of_lt_of_le hi hE0)).trans (hag0 i hi)
    have hE0 : nE E0 ≤ nE E110 := Nat.le_trans hE0 hgw110.1
    have h_p0 : isO 0 E110 p0 := isO_up hgw110 h_p0
    have h_p110 : isQ 6 E110 p110 := by rw [ep110, eE110]; exact ⟨grid_i _ _ _, by rw [grid_T]⟩
    obtain ⟨E111, eE111, h⟩ := nb_e h
    refine m_prF (C := "Ballothall$BallotBox") (T := TX0) (N := 10) (ci := 0) (k := 8) (ty := (.array (.array .int))) hx hb hts iX0 hown hG hP hD hS h_p0.1 h_p0.2 rfl (by decide) w_74 (fun _ h9 => h9) rfl rfl tyX0_ok nmX0 rfl hin rfl (by decide +kernel) h_p110.1 (fun _ => rfl) (fun _ => rfl) d_2_1_53 (fun H locs hP hD hS => ?_)
    have hP : va_P z.1 classes (wv z ad110 E111 M110) H := by rw [eE111]; exact hP
    have hD : va_D A (wv z ad110 E111 M110) := by rw [eE111]; exact hD
    have hgw111 : Gw E110 E111 := by rw [eE111]; exact gw_ref _ _ _ _
    have hE0 : nE E0 ≤ nE E111 := Nat.le_trans hE0 hgw111.1
    have h_p0 : isO 0 E111 p0 := isO_up hgw111 h_p0
    refine W.eq (g2 := F0 m 56 ls []) rfl ?_
    refine lv_aload_n hx hb d_2_1_56 rfl (lv_at hl 0 rfl) ?_
    refine lv_sipush (v := oI 256) hx hb d_2_1_57 (by decide +kernel) ?_
    obtain ⟨p112, ep112, h⟩ := nb_e h
    obtain ⟨E112, eE112, h⟩ := nb_e h
    obtain ⟨M112, eM112, h⟩ := nb_e h
    refine m_newI (x := (256 : Int)) (N := 256) hx hb (by decide) (by decide) (by decide) (hts _ w_100) hG hP hD hS hA (show _ ≤ mc by omega) (show _ ≤ ms by omega) d_2_1_60 (fun ad112 H hag112 hP hD hS => ?_)
    have hP : va_P z.1 classes (wv z ad112 E112 M112) H := by rw [eE112, eM112]; exact hP
    have hD : va_D A (wv z ad112 E112 M112) := by rw [eE112, eM112]; exact hD
    refine W.eq (g2 := F0 m 62 ls (.ref (ad112 p112) :: [.ref (ad112 p0)])) (by rw [ep112, hag112 p0 h_p0.1] <;> rfl) ?_
    have hl : lv_has ls 1 [(0, .ref (ad112 p0))] := by rw [hag112 p0 h_p0.1]; exact hl
    have hgw112 : Gw E111 E112 := by rw [eE112]; exact gw_new _ _
    have hag0 : ∀ i, i < nE E0 → ad112 i = ad0 i := fun i hi => (hag112 i (Nat.lt_of_lt_of_le hi hE0)).trans (hag0 i hi)
    have hE0 : nE E0 ≤ nE E112 := Nat.le_trans hE0 hgw112.1
    have h_p0 : isO 0 E112 p0 := isO_up hgw112 h_p0
    have h_p112 : isIA E112 p112 := by rw [ep112, eE112]; exact ⟨new_i _ _, by rw [new_T]⟩
    obtain ⟨E113, eE113, h⟩ := nb_e h
    refine m_prF (C := "Ballothall$BallotBox") (T := TX0) (N := 10) (ci := 0) (k := 9) (ty := (.array .int)) hx hb hts iX0 hown hG hP hD hS h_p0.1 h_p0.2 rfl (by decide) w_77 (fun _ h9 => h9) rfl rfl tyX0_ok nmX0 rfl hin rfl (by decide +kernel) h_p112.1 (fun _ => rfl) (fun _ => rfl) d_2_1_62 (fun H locs hP hD hS => ?_)
    have hP : va_P z.1 classes (wv z ad112 E113 M112) H := by rw [eE113]; exact hP
    have hD : va_D A (wv z ad112 E113 M112) := by rw [eE113]; exact hD
    have hgw113 : Gw E112 E113 := by rw [eE113]; exact gw_ref _ _ _ _
    have hE0 : nE E0 ≤ nE E113 := Nat.le_trans hE0 hgw113.1
    have h_p0 : isO 0 E113 p0 := isO_up hgw113 h_p0
    refine W.eq (g2 := F0 m 65 ls []) rfl ?_
    refine W.wide (k := c1) (n := s1) (by omega) (by omega) ?_
    obtain ⟨rfl, rfl⟩ := in2 h
    exact W.vret hx hb hr (fun t ht hW => qkA hP hD hS ad112 (congrArg (fun q => wv z q E113 M112) (adj_self hag0).symm) rfl ht) hS.2.2 d_2_1_65
  exact key E ad 38 666 0 0 38 666 _ _ _ (by decide) (by decide) (by decide) (by decide) (fun _ _ => rfl) (Nat.le_refl _) hts hP hS
set_option maxRecDepth 100000 in
set_option maxHeartbeats 4000000 in
theorem s_Po_init (l : Launch) (z : Zz) (ad : Nat → Nat) (E : Ev) (M : Mm) (p0 : Nat) (p1 : Nat) (F : Ev) (N : Mm) (h : f_Po_init E M p0 p1 = some (F, N)) : CT l z ⟨"Ballothall$Poll", "<init>", "(LBallothall$BallotBox;)V"⟩ prog_11_method_1_code 2 none [.ref (ad p0), .ref (ad p1)] (wv z ad E M) 1 40 9 455 (fun u => none) (fun u => wv z (adj E ad u) F N) := by
  refine CT.of (own := "Ballothall$Poll") (by decide +kernel) (Nat.le_of_ble_eq_true rfl) rfl (fun p e s m below meth c A ls hx hb hml hr hts hown hlocks hin hA hG hZ hP hD hS hl => ?_)
  have hl : lv_has ls 2 [(0, .ref (ad p0)), (1, .ref (ad p1))] := hl
  have key : ∀ (E0 : Ev) (ad0 : Nat → Nat) (mc ms c0 s0 c1 s1 : Nat) (H : Heap) (locs : List Loc) (args : Array Value), c0 + 9 ≤ c1 → s0 + 455 ≤ s1 → c1 ≤ mc → s1 ≤ ms → (∀ i, i < nE E0 → ad i = ad0 i) → nE E0 ≤ nE E → (∀ w ∈ WG, w.before args s = true) → va_P z.1 classes (wv z ad E M) H → va_S A s.heap H locs → W p l e (rmK 1 40 mc ms) s m args below meth c H locs c0 s0 (MQ below (QK z A (fun u => none) (fun u => wv z (adj E0 ad0 u) F N)) args s c1 s1 A) (F0 m 0 ls []) := by
    intro E0 ad0 mc ms c0 s0 c1 s1 H locs args hc hs hm hm2 hag0 hE0 hts hP hS
    unfold f_Po_init at h
    obtain ⟨h_p0, h⟩ := ck_e h
    obtain ⟨h_p1, h⟩ := ck_e h
    refine lv_aload_n hx hb d_11_1_0 rfl (lv_at hl 0 rfl) ?_
    refine W.objInit hx hb hown (hts _ w_106) (hts _ w_38) (hts _ w_obj) rfl (by rw [hml]; exact hl.1) rfl d_11_1_1 (Nat.le_of_ble_eq_true rfl) (Nat.le_of_ble_eq_true rfl) ?_
    refine W.eq (g2 := F0 m 4 ls []) rfl ?_
    refine lv_aload_n hx hb d_11_1_4 rfl (lv_at hl 0 rfl) ?_
    refine lv_bipush (v := oI 31) hx hb d_11_1_5 (by decide +kernel) ?_
    obtain ⟨p100, ep100, h⟩ := nb_e h
    obtain ⟨E100, eE100, h⟩ := nb_e h
    obtain ⟨M100, eM100, h⟩ := nb_e h
    refine m_newI (x := (31 : Int)) (N := 31) hx hb (by decide) (by decide) (by decide) (hts _ w_100) hG hP hD hS hA (show _ ≤ mc by omega) (show _ ≤ ms by omega) d_11_1_7 (fun ad100 H hag100 hP hD hS => ?_)
    have hP : va_P z.1 classes (wv z ad100 E100 M100) H := by rw [eE100, eM100]; exact hP
    have hD : va_D A (wv z ad100 E100 M100) := by rw [eE100, eM100]; exact hD
    refine W.eq (g2 := F0 m 9 ls (.ref (ad100 p100) :: [.ref (ad100 p0)])) (by rw [ep100, hag100 p0 h_p0.1] <;> rfl) ?_
    have hl : lv_has ls 2 [(0, .ref (ad100 p0)), (1, .ref (ad100 p1))] := by rw [hag100 p0 h_p0.1, hag100 p1 h_p1.1]; exact hl
    have hgw100 : Gw E E100 := by rw [eE100]; exact gw_new _ _
    have hag0 : ∀ i, i < nE E0 → ad100 i = ad0 i := fun i hi => (hag100 i (Nat.lt_of_lt_of_le hi hE0)).trans (hag0 i hi)
    have hE0 : nE E0 ≤ nE E100 := Nat.le_trans hE0 hgw100.1
    have h_p0 : isO 9 E100 p0 := isO_up hgw100 h_p0
    have h_p1 : isO 0 E100 p1 := isO_up hgw100 h_p1
    have h_p100 : isIA E100 p100 := by rw [ep100, eE100]; exact ⟨new_i _ _, by rw [new_T]⟩
    obtain ⟨E101, eE101, h⟩ := nb_e h
    refine m_prF (C := "Ballothall$Poll") (T := TX9) (N := 12) (ci := 9) (k := 3) (ty := (.array .int)) hx hb hts iX9 hown hG hP hD hS h_p0.1 h_p0.2 rfl (by decide) w_110 (fun _ h9 => h9) rfl rfl tyX9_ok nmX9 rfl hin rfl (by decide +kernel) h_p100.1 (fun _ => rfl) (fun _ => rfl) d_11_1_9 (fun H locs hP hD hS => ?_)
    have hP : va_P z.1 classes (wv z ad100 E101 M100) H := by rw [eE101]; exact hP
    have hD : va_D A (wv z ad100 E101 M100) := by rw [eE101]; exact hD
    have hgw101 : Gw E100 E101 := by rw [eE101]; exact gw_ref _ _ _ _
    have hE0 : nE E0 ≤ nE E101 := Nat.le_trans hE0 hgw101.1
    have h_p0 : isO 9 E101 p0 := isO_up hgw101 h_p0
    have h_p1 : isO 0 E101 p1 := isO_up hgw101 h_p1
    refine W.eq (g2 := F0 m 12 ls []) rfl ?_
    refine lv_aload_n hx hb d_11_1_12 rfl (lv_at hl 0 rfl) ?_
    refine lv_bipush (v := oI 8) hx hb d_11_1_13 (by decide +kernel) ?_
    obtain ⟨p102, ep102, h⟩ := nb_e h
    obtain ⟨E102, eE102, h⟩ := nb_e h
    obtain ⟨M102, eM102, h⟩ := nb_e h
    refine m_newI (x := (8 : Int)) (N := 8) hx hb (by decide) (by decide) (by decide) (hts _ w_100) hG hP hD hS hA (show _ ≤ mc by omega) (show _ ≤ ms by omega) d_11_1_15 (fun ad102 H hag102 hP hD hS => ?_)
    have hP : va_P z.1 classes (wv z ad102 E102 M102) H := by rw [eE102, eM102]; exact hP
    have hD : va_D A (wv z ad102 E102 M102) := by rw [eE102, eM102]; exact hD
    refine W.eq (g2 := F0 m 17 ls (.ref (ad102 p102) :: [.ref (ad102 p0)])) (by rw [ep102, hag102 p0 h_p0.1] <;> rfl) ?_
    have hl : lv_has ls 2 [(0, .ref (ad102 p0)), (1, .ref (ad102 p1))] := by rw [hag102 p0 h_p0.1, hag102 p1 h_p1.1]; exact hl
    have hgw102 : Gw E101 E102 := by rw [eE102]; exact gw_new _ _
    have hag0 : ∀ i, i < nE E0 → ad102 i = ad0 i := fun i hi => (hag102 i (Nat.lt_of_lt_of_le hi hE0)).trans (hag0 i hi)
    have hE0 : nE E0 ≤ nE E102 := Nat.le_trans hE0 hgw102.1
    have h_p0 : isO 9 E102 p0 := isO_up hgw102 h_p0
    have h_p1 : isO 0 E102 p1 := isO_up hgw102 h_p1
    have h_p102 : isIA E102 p102 := by rw [ep102, eE102]; exact ⟨new_i _ _, by rw [new_T]⟩
    obtain ⟨E103, eE103, h⟩ := nb_e h
    refine m_prF (C := "Ballothall$Poll") (T := TX9) (N := 12) (ci := 9) (k := 4) (ty := (.array .int)) hx hb hts iX9 hown hG hP hD hS h_p0.1 h_p0.2 rfl (by decide) w_111 (fun _ h9 => h9) rfl rfl tyX9_ok nmX9 rfl hin rfl (by decide +kernel) h_p102.1 (fun _ => rfl) (fun _ => rfl) d_11_1_17 (fun H locs hP hD hS => ?_)
    have hP : va_P z.1 classes (wv z ad102 E103 M102) H := by rw [eE103]; exact hP
    have hD : va_D A (wv z ad102 E103 M102) := by rw [eE103]; exact hD
    have hgw103 : Gw E102 E103 := by rw [eE103]; exact gw_ref _ _ _ _
    have hE0 : nE E0 ≤ nE E103 := Nat.le_trans hE0 hgw103.1
    have h_p0 : isO 9 E103 p0 := isO_up hgw103 h_p0
    have h_p1 : isO 0 E103 p1 := isO_up hgw103 h_p1
    refine W.eq (g2 := F0 m 20 ls []) rfl ?_
    refine lv_aload_n hx hb d_11_1_20 rfl (lv_at hl 0 rfl) ?_
    refine lv_bipush (v := oI 8) hx hb d_11_1_21 (by decide +kernel) ?_
    obtain ⟨p104, ep104, h⟩ := nb_e h
    obtain ⟨E104, eE104, h⟩ := nb_e h
    obtain ⟨M104, eM104, h⟩ := nb_e h
    refine m_newI (x := (8 : Int)) (N := 8) hx hb (by decide) (by decide) (by decide) (hts _ w_100) hG hP hD hS hA (show _ ≤ mc by omega) (show _ ≤ ms by omega) d_11_1_23 (fun ad104 H hag104 hP hD hS => ?_)
    have hP : va_P z.1 classes (wv z ad104 E104 M104) H := by rw [eE104, eM104]; exact hP
    have hD : va_D A (wv z ad104 E104 M104) := by rw [eE104, eM104]; exact hD
    refine W.eq (g2 := F0 m 25 ls (.ref (ad104 p104) :: [.ref (ad104 p0)])) (by rw [ep104, hag104 p0 h_p0.1] <;> rfl) ?_
    have hl : lv_has ls 2 [(0, .ref (ad104 p0)), (1, .ref (ad104 p1))] := by rw [hag104 p0 h_p0.1, hag104 p1 h_p1.1]; exact hl
    have hgw104 : Gw E103 E104 := by rw [eE104]; exact gw_new _ _
    have hag0 : ∀ i, i < nE E0 → ad104 i = ad0 i := fun i hi => (hag104 i (Nat.lt_of_lt_of_le hi hE0)).trans (hag0 i hi)
    have hE0 : nE E0 ≤ nE E104 := Nat.le_trans hE0 hgw104.1
    have h_p0 : isO 9 E104 p0 := isO_up hgw104 h_p0
    have h_p1 : isO 0 E104 p1 := isO_up hgw104 h_p1
    have h_p104 : isIA E104 p104 := by rw [ep104, eE104]; exact ⟨new_i _ _, by rw [new_T]⟩
    obtain ⟨E105, eE105, h⟩ := nb_e h
    refine m_prF (C := "Ballothall$Poll") (T := TX9) (N := 12) (ci := 9) (k := 5) (ty := (.array .int)) hx hb hts iX9 hown hG hP hD hS h_p0.1 h_p0.2 rfl (by decide) w_112 (fun _ h9 => h9) rfl rfl tyX9_ok nmX9 rfl hin rfl (by decide +kernel) h_p104.1 (fun _ => rfl) (fun _ => rfl) d_11_1_25 (fun H locs hP hD hS => ?_)
    have hP : va_P z.1 classes (wv z ad104 E105 M104) H := by rw [eE105]; exact hP
    have hD : va_D A (wv z ad104 E105 M104) := by rw [eE105]; exact hD
    have hgw105 : Gw E104 E105 := by rw [eE105]; exact gw_ref _ _ _ _
    have hE0 : nE E0 ≤ nE E105 := Nat.le_trans hE0 hgw105.1
    have h_p0 : isO 9 E105 p0 := isO_up hgw105 h_p0
    have h_p1 : isO 0 E105 p1 := isO_up hgw105 h_p1
    refine W.eq (g2 := F0 m 28 ls []) rfl ?_
    refine lv_aload_n hx hb d_11_1_28 rfl (lv_at hl 0 rfl) ?_
    refine lv_bipush (v := oI 64) hx hb d_11_1_29 (by decide +kernel) ?_
    obtain ⟨p106, ep106, h⟩ := nb_e h
    obtain ⟨E106, eE106, h⟩ := nb_e h
    obtain ⟨M106, eM106, h⟩ := nb_e h
    refine m_newI (x := (64 : Int)) (N := 64) hx hb (by decide) (by decide) (by decide) (hts _ w_100) hG hP hD hS hA (show _ ≤ mc by omega) (show _ ≤ ms by omega) d_11_1_31 (fun ad106 H hag106 hP hD hS => ?_)
    have hP : va_P z.1 classes (wv z ad106 E106 M106) H := by rw [eE106, eM106]; exact hP
    have hD : va_D A (wv z ad106 E106 M106) := by rw [eE106, eM106]; exact hD
    refine W.eq (g2 := F0 m 33 ls (.ref (ad106 p106) :: [.ref (ad106 p0)])) (by rw [ep106, hag106 p0 h_p0.1] <;> rfl) ?_
    have hl : lv_has ls 2 [(0, .ref (ad106 p0)), (1, .ref (ad106 p1))] := by rw [hag106 p0 h_p0.1, hag106 p1 h_p1.1]; exact hl
    have hgw106 : Gw E105 E106 := by rw [eE106]; exact gw_new _ _
    have hag0 : ∀ i, i < nE E0 → ad106 i = ad0 i := fun i hi => (hag106 i (Nat.lt_of_lt_of_le hi hE0)).trans (hag0 i hi)
    have hE0 : nE E0 ≤ nE E106 := Nat.le_trans hE0 hgw106.1
    have h_p0 : isO 9 E106 p0 := isO_up hgw106 h_p0
    have h_p1 : isO 0 E106 p1 := isO_up hgw106 h_p1
    have h_p106 : isIA E106 p106 := by rw [ep106, eE106]; exact ⟨new_i _ _, by rw [new_T]⟩
    obtain ⟨E107, eE107, h⟩ := nb_e h
    refine m_prF (C := "Ballothall$Poll") (T := TX9) (N := 12) (ci := 9) (k := 6) (ty := (.array .int)) hx hb hts iX9 hown hG hP hD hS h_p0.1 h_p0.2 rfl (by decide) w_113 (fun _ h9 => h9) rfl rfl tyX9_ok nmX9 rfl hin rfl (by decide +kernel) h_p106.1 (fun _ => rfl) (fun _ => rfl) d_11_1_33 (fun H locs hP hD hS => ?_)
    have hP : va_P z.1 classes (wv z ad106 E107 M106) H := by rw [eE107]; exact hP
    have hD : va_D A (wv z ad106 E107 M106) := by rw [eE107]; exact hD
    have hgw107 : Gw E106 E107 := by rw [eE107]; exact gw_ref _ _ _ _
    have hE0 : nE E0 ≤ nE E107 := Nat.le_trans hE0 hgw107.1
    have h_p0 : isO 9 E107 p0 := isO_up hgw107 h_p0
    have h_p1 : isO 0 E107 p1 := isO_up hgw107 h_p1
    refine W.eq (g2 := F0 m 36 ls []) rfl ?_
    refine lv_aload_n hx hb d_11_1_36 rfl (lv_at hl 0 rfl) ?_
    refine lv_bipush (v := oI 8) hx hb d_11_1_37 (by decide +kernel) ?_
    obtain ⟨p108, ep108, h⟩ := nb_e h
    obtain ⟨E108, eE108, h⟩ := nb_e h
    obtain ⟨M108, eM108, h⟩ := nb_e h
    refine m_newI (x := (8 : Int)) (N := 8) hx hb (by decide) (by decide) (by decide) (hts _ w_100) hG hP hD hS hA (show _ ≤ mc by omega) (show _ ≤ ms by omega) d_11_1_39 (fun ad108 H hag108 hP hD hS => ?_)
    have hP : va_P z.1 classes (wv z ad108 E108 M108) H := by rw [eE108, eM108]; exact hP
    have hD : va_D A (wv z ad108 E108 M108) := by rw [eE108, eM108]; exact hD
    refine W.eq (g2 := F0 m 41 ls (.ref (ad108 p108) :: [.ref (ad108 p0)])) (by rw [ep108, hag108 p0 h_p0.1] <;> rfl) ?_
    have hl : lv_has ls 2 [(0, .ref (ad108 p0)), (1, .ref (ad108 p1))] := by rw [hag108 p0 h_p0.1, hag108 p1 h_p1.1]; exact hl
    have hgw108 : Gw E107 E108 := by rw [eE108]; exact gw_new _ _
    have hag0 : ∀ i, i < nE E0 → ad108 i = ad0 i := fun i hi => (hag108 i (Nat.lt_of_lt_of_le hi hE0)).trans (hag0 i hi)
    have hE0 : nE E0 ≤ nE E108 := Nat.le_trans hE0 hgw108.1
    have h_p0 : isO 9 E108 p0 := isO_up hgw108 h_p0
    have h_p1 : isO 0 E108 p1 := isO_up hgw108 h_p1
    have h_p108 : isIA E108 p108 := by rw [ep108, eE108]; exact ⟨new_i _ _, by rw [new_T]⟩
    obtain ⟨E109, eE109, h⟩ := nb_e h
    refine m_prF (C := "Ballothall$Poll") (T := TX9) (N := 12) (ci := 9) (k := 7) (ty := (.array .int)) hx hb hts iX9 hown hG hP hD hS h_p0.1 h_p0.2 rfl (by decide) w_114 (fun _ h9 => h9) rfl rfl tyX9_ok nmX9 rfl hin rfl (by decide +kernel) h_p108.1 (fun _ => rfl) (fun _ => rfl) d_11_1_41 (fun H locs hP hD hS => ?_)
    have hP : va_P z.1 classes (wv z ad108 E109 M108) H := by rw [eE109]; exact hP
    have hD : va_D A (wv z ad108 E109 M108) := by rw [eE109]; exact hD
    have hgw109 : Gw E108 E109 := by rw [eE109]; exact gw_ref _ _ _ _
    have hE0 : nE E0 ≤ nE E109 := Nat.le_trans hE0 hgw109.1
    have h_p0 : isO 9 E109 p0 := isO_up hgw109 h_p0
    have h_p1 : isO 0 E109 p1 := isO_up hgw109 h_p1
    refine W.eq (g2 := F0 m 44 ls []) rfl ?_
    refine lv_aload_n hx hb d_11_1_44 rfl (lv_at hl 0 rfl) ?_
    refine lv_bipush (v := oI 64) hx hb d_11_1_45 (by decide +kernel) ?_
    obtain ⟨p110, ep110, h⟩ := nb_e h
    obtain ⟨E110, eE110, h⟩ := nb_e h
    obtain ⟨M110, eM110, h⟩ := nb_e h
    refine m_newI (x := (64 : Int)) (N := 64) hx hb (by decide) (by decide) (by decide) (hts _ w_100) hG hP hD hS hA (show _ ≤ mc by omega) (show _ ≤ ms by omega) d_11_1_47 (fun ad110 H hag110 hP hD hS => ?_)
    have hP : va_P z.1 classes (wv z ad110 E110 M110) H := by rw [eE110, eM110]; exact hP
    have hD : va_D A (wv z ad110 E110 M110) := by rw [eE110, eM110]; exact hD
    refine W.eq (g2 := F0 m 49 ls (.ref (ad110 p110) :: [.ref (ad110 p0)])) (by rw [ep110, hag110 p0 h_p0.1] <;> rfl) ?_
    have hl : lv_has ls 2 [(0, .ref (ad110 p0)), (1, .ref (ad110 p1))] := by rw [hag110 p0 h_p0.1, hag110 p1 h_p1.1]; exact hl
    have hgw110 : Gw E109 E110 := by rw [eE110]; exact gw_new _ _
    have hag0 : ∀ i, i < nE E0 → ad110 i = ad0 i := fun i hi => (hag110 i (Nat.lt_of_lt_of_le hi hE0)).trans (hag0 i hi)
    have hE0 : nE E0 ≤ nE E110 := Nat.le_trans hE0 hgw110.1
    have h_p0 : isO 9 E110 p0 := isO_up hgw110 h_p0
    have h_p1 : isO 0 E110 p1 := isO_up hgw110 h_p1
    have h_p110 : isIA E110 p110 := by rw [ep110, eE110]; exact ⟨new_i _ _, by rw [new_T]⟩
    obtain ⟨E111, eE111, h⟩ := nb_e h
    refine m_prF (C := "Ballothall$Poll") (T := TX9) (N := 12) (ci := 9) (k := 8) (ty := (.array .int)) hx hb hts iX9 hown hG hP hD hS h_p0.1 h_p0.2 rfl (by decide) w_115 (fun _ h9 => h9) rfl rfl tyX9_ok nmX9 rfl hin rfl (by decide +kernel) h_p110.1 (fun _ => rfl) (fun _ => rfl) d_11_1_49 (fun H locs hP hD hS => ?_)
    have hP : va_P z.1 classes (wv z ad110 E111 M110) H := by rw [eE111]; exact hP
    have hD : va_D A (wv z ad110 E111 M110) := by rw [eE111]; exact hD
    have hgw111 : Gw E110 E111 := by rw [eE111]; exact gw_ref _ _ _ _
    have hE0 : nE E0 ≤ nE E111 := Nat.le_trans hE0 hgw111.1
    have h_p0 : isO 9 E111 p0 := isO_up hgw111 h_p0
    have h_p1 : isO 0 E111 p1 := isO_up hgw111 h_p1
    refine W.eq (g2 := F0 m 52 ls []) rfl ?_
    refine lv_aload_n hx hb d_11_1_52 rfl (lv_at hl 0 rfl) ?_
    refine lv_bipush (v := oI 8) hx hb d_11_1_53 (by decide +kernel) ?_
    obtain ⟨p112, ep112, h⟩ := nb_e h
    obtain ⟨E112, eE112, h⟩ := nb_e h
    obtain ⟨M112, eM112, h⟩ := nb_e h
    refine m_newL (x := (8 : Int)) (N := 8) hx hb (by decide) (by decide) (by decide) (hts _ w_145) hG hP hD hS hA (show _ ≤ mc by omega) (show _ ≤ ms by omega) d_11_1_55 (fun ad112 H hag112 hP hD hS => ?_)
    have hP : va_P z.1 classes (wv z ad112 E112 M112) H := by rw [eE112, eM112]; exact hP
    have hD : va_D A (wv z ad112 E112 M112) := by rw [eE112, eM112]; exact hD
    refine W.eq (g2 := F0 m 57 ls (.ref (ad112 p112) :: [.ref (ad112 p0)])) (by rw [ep112, hag112 p0 h_p0.1] <;> rfl) ?_
    have hl : lv_has ls 2 [(0, .ref (ad112 p0)), (1, .ref (ad112 p1))] := by rw [hag112 p0 h_p0.1, hag112 p1 h_p1.1]; exact hl
    have hgw112 : Gw E111 E112 := by rw [eE112]; exact gw_new _ _
    have hag0 : ∀ i, i < nE E0 → ad112 i = ad0 i := fun i hi => (hag112 i (Nat.lt_of_lt_of_le hi hE0)).trans (hag0 i hi)
    have hE0 : nE E0 ≤ nE E112 := Nat.le_trans hE0 hgw112.1
    have h_p0 : isO 9 E112 p0 := isO_up hgw112 h_p0
    have h_p1 : isO 0 E112 p1 := isO_up hgw112 h_p1
    have h_p112 : isLA E112 p112 := by rw [ep112, eE112]; exact ⟨new_i _ _, by rw [new_T]⟩
    obtain ⟨E113, eE113, h⟩ := nb_e h
    refine m_prF (C := "Ballothall$Poll") (T := TX9) (N := 12) (ci := 9) (k := 9) (ty := (.array .long)) hx hb hts iX9 hown hG hP hD hS h_p0.1 h_p0.2 rfl (by decide) w_116 (fun _ h9 => h9) rfl rfl tyX9_ok nmX9 rfl hin rfl (by decide +kernel) h_p112.1 (fun _ => rfl) (fun _ => rfl) d_11_1_57 (fun H locs hP hD hS => ?_)
    have hP : va_P z.1 classes (wv z ad112 E113 M112) H := by rw [eE113]; exact hP
    have hD : va_D A (wv z ad112 E113 M112) := by rw [eE113]; exact hD
    have hgw113 : Gw E112 E113 := by rw [eE113]; exact gw_ref _ _ _ _
    have hE0 : nE E0 ≤ nE E113 := Nat.le_trans hE0 hgw113.1
    have h_p0 : isO 9 E113 p0 := isO_up hgw113 h_p0
    have h_p1 : isO 0 E113 p1 := isO_up hgw113 h_p1
    refine W.eq (g2 := F0 m 60 ls []) rfl ?_
    refine lv_aload_n hx hb d_11_1_60 rfl (lv_at hl 0 rfl) ?_
    refine lv_bipush (v := oI 8) hx hb d_11_1_61 (by decide +kernel) ?_
    obtain ⟨p114, ep114, h⟩ := nb_e h
    obtain ⟨E114, eE114, h⟩ := nb_e h
    obtain ⟨M114, eM114, h⟩ := nb_e h
    refine m_newI (x := (8 : Int)) (N := 8) hx hb (by decide) (by decide) (by decide) (hts _ w_100) hG hP hD hS hA (show _ ≤ mc by omega) (show _ ≤ ms by omega) d_11_1_63 (fun ad114 H hag114 hP hD hS => ?_)
    have hP : va_P z.1 classes (wv z ad114 E114 M114) H := by rw [eE114, eM114]; exact hP
    have hD : va_D A (wv z ad114 E114 M114) := by rw [eE114, eM114]; exact hD
    refine W.eq (g2 := F0 m 65 ls (.ref (ad114 p114) :: [.ref (ad114 p0)])) (by rw [ep114, hag114 p0 h_p0.1] <;> rfl) ?_
    have hl : lv_has ls 2 [(0, .ref (ad114 p0)), (1, .ref (ad114 p1))] := by rw [hag114 p0 h_p0.1, hag114 p1 h_p1.1]; exact hl
    have hgw114 : Gw E113 E114 := by rw [eE114]; exact gw_new _ _
    have hag0 : ∀ i, i < nE E0 → ad114 i = ad0 i := fun i hi => (hag114 i (Nat.lt_of_lt_of_le hi hE0)).trans (hag0 i hi)
    have hE0 : nE E0 ≤ nE E114 := Nat.le_trans hE0 hgw114.1
    have h_p0 : isO 9 E114 p0 := isO_up hgw114 h_p0
    have h_p1 : isO 0 E114 p1 := isO_up hgw114 h_p1
    have h_p114 : isIA E114 p114 := by rw [ep114, eE114]; exact ⟨new_i _ _, by rw [new_T]⟩
    obtain ⟨E115, eE115, h⟩ := nb_e h
    refine m_prF (C := "Ballothall$Poll") (T := TX9) (N := 12) (ci := 9) (k := 10) (ty := (.array .int)) hx hb hts iX9 hown hG hP hD hS h_p0.1 h_p0.2 rfl (by decide) w_117 (fun _ h9 => h9) rfl rfl tyX9_ok nmX9 rfl hin rfl (by decide +kernel) h_p114.1 (fun _ => rfl) (fun _ => rfl) d_11_1_65 (fun H locs hP hD hS => ?_)
    have hP : va_P z.1 classes (wv z ad114 E115 M114) H := by rw [eE115]; exact hP
    have hD : va_D A (wv z ad114 E115 M114) := by rw [eE115]; exact hD
    have hgw115 : Gw E114 E115 := by rw [eE115]; exact gw_ref _ _ _ _
    have hE0 : nE E0 ≤ nE E115 := Nat.le_trans hE0 hgw115.1
    have h_p0 : isO 9 E115 p0 := isO_up hgw115 h_p0
    have h_p1 : isO 0 E115 p1 := isO_up hgw115 h_p1
    refine W.eq (g2 := F0 m 68 ls []) rfl ?_
    refine lv_aload_n hx hb d_11_1_68 rfl (lv_at hl 0 rfl) ?_
    refine lv_sipush (v := oI 256) hx hb d_11_1_69 (by decide +kernel) ?_
    obtain ⟨p116, ep116, h⟩ := nb_e h
    obtain ⟨E116, eE116, h⟩ := nb_e h
    obtain ⟨M116, eM116, h⟩ := nb_e h
    refine m_newL (x := (256 : Int)) (N := 256) hx hb (by decide) (by decide) (by decide) (hts _ w_145) hG hP hD hS hA (show _ ≤ mc by omega) (show _ ≤ ms by omega) d_11_1_72 (fun ad116 H hag116 hP hD hS => ?_)
    have hP : va_P z.1 classes (wv z ad116 E116 M116) H := by rw [eE116, eM116]; exact hP
    have hD : va_D A (wv z ad116 E116 M116) := by rw [eE116, eM116]; exact hD
    refine W.eq (g2 := F0 m 74 ls (.ref (ad116 p116) :: [.ref (ad116 p0)])) (by rw [ep116, hag116 p0 h_p0.1] <;> rfl) ?_
    have hl : lv_has ls 2 [(0, .ref (ad116 p0)), (1, .ref (ad116 p1))] := by rw [hag116 p0 h_p0.1, hag116 p1 h_p1.1]; exact hl
    have hgw116 : Gw E115 E116 := by rw [eE116]; exact gw_new _ _
    have hag0 : ∀ i, i < nE E0 → ad116 i = ad0 i := fun i hi => (hag116 i (Nat.lt_of_lt_of_le hi hE0)).trans (hag0 i hi)
    have hE0 : nE E0 ≤ nE E116 := Nat.le_trans hE0 hgw116.1
    have h_p0 : isO 9 E116 p0 := isO_up hgw116 h_p0
    have h_p1 : isO 0 E116 p1 := isO_up hgw116 h_p1
    have h_p116 : isLA E116 p116 := by rw [ep116, eE116]; exact ⟨new_i _ _, by rw [new_T]⟩
    obtain ⟨E117, eE117, h⟩ := nb_e h
    refine m_prF (C := "Ballothall$Poll") (T := TX9) (N := 12) (ci := 9) (k := 11) (ty := (.array .long)) hx hb hts iX9 hown hG hP hD hS h_p0.1 h_p0.2 rfl (by decide) w_118 (fun _ h9 => h9) rfl rfl tyX9_ok nmX9 rfl hin rfl (by decide +kernel) h_p116.1 (fun _ => rfl) (fun _ => rfl) d_11_1_74 (fun H locs hP hD hS => ?_)
    have hP : va_P z.1 classes (wv z ad116 E117 M116) H := by rw [eE117]; exact hP
    have hD : va_D A (wv z ad116 E117 M116) := by rw [eE117]; exact hD
    have hgw117 : Gw E116 E117 := by rw [eE117]; exact gw_ref _ _ _ _
    have hE0 : nE E0 ≤ nE E117 := Nat.le_trans hE0 hgw117.1
    have h_p0 : isO 9 E117 p0 := isO_up hgw117 h_p0
    have h_p1 : isO 0 E117 p1 := isO_up hgw117 h_p1
    refine W.eq (g2 := F0 m 77 ls []) rfl ?_
    refine lv_aload_n hx hb d_11_1_77 rfl (lv_at hl 0 rfl) ?_
    refine lv_aload_n hx hb d_11_1_78 rfl (lv_at hl 1 rfl) ?_
    obtain ⟨E118, eE118, h⟩ := nb_e h
    refine m_prF (C := "Ballothall$Poll") (T := TX9) (N := 12) (ci := 9) (k := 0) (ty := (.object "Ballothall$BallotBox")) hx hb hts iX9 hown hG hP hD hS h_p0.1 h_p0.2 rfl (by decide) w_107 (fun _ h9 => h9) rfl rfl tyX9_ok nmX9 rfl hin rfl (by decide +kernel) h_p1.1 (fun _ => rfl) (fun _ => rfl) d_11_1_79 (fun H locs hP hD hS => ?_)
    have hP : va_P z.1 classes (wv z ad116 E118 M116) H := by rw [eE118]; exact hP
    have hD : va_D A (wv z ad116 E118 M116) := by rw [eE118]; exact hD
    have hgw118 : Gw E117 E118 := by rw [eE118]; exact gw_ref _ _ _ _
    have hE0 : nE E0 ≤ nE E118 := Nat.le_trans hE0 hgw118.1
    have h_p0 : isO 9 E118 p0 := isO_up hgw118 h_p0
    have h_p1 : isO 0 E118 p1 := isO_up hgw118 h_p1
    refine W.eq (g2 := F0 m 82 ls []) rfl ?_
    refine W.wide (k := c1) (n := s1) (by omega) (by omega) ?_
    obtain ⟨rfl, rfl⟩ := in2 h
    exact W.vret hx hb hr (fun t ht hW => qkA hP hD hS ad116 (congrArg (fun q => wv z q E118 M116) (adj_self hag0).symm) rfl ht) hS.2.2 d_11_1_82
  exact key E ad 9 455 0 0 9 455 _ _ _ (by decide) (by decide) (by decide) (by decide) (fun _ _ => rfl) (Nat.le_refl _) hts hP hS
set_option maxRecDepth 100000 in
set_option maxHeartbeats 4000000 in
theorem s_Fb_init (l : Launch) (z : Zz) (ad : Nat → Nat) (E : Ev) (M : Mm) (p0 : Nat) (p1 : Nat) (p2 : Nat) (F : Ev) (N : Mm) (h : f_Fb_init E M p0 p1 p2 = some (F, N)) : CT l z ⟨"Ballothall$FalseBallot", "<init>", "(LBallothall$BallotBox;LBallothall$Poll;)V"⟩ prog_7_method_1_code 3 none [.ref (ad p0), .ref (ad p1), .ref (ad p2)] (wv z ad E M) 1 40 1 5 (fun u => none) (fun u => wv z (adj E ad u) F N) := by
  refine CT.of (own := "Ballothall$FalseBallot") (by decide +kernel) (Nat.le_of_ble_eq_true rfl) rfl (fun p e s m below meth c A ls hx hb hml hr hts hown hlocks hin hA hG hZ hP hD hS hl => ?_)
  have hl : lv_has ls 3 [(0, .ref (ad p0)), (1, .ref (ad p1)), (2, .ref (ad p2))] := hl
  have key : ∀ (E0 : Ev) (ad0 : Nat → Nat) (mc ms c0 s0 c1 s1 : Nat) (H : Heap) (locs : List Loc) (args : Array Value), c0 + 1 ≤ c1 → s0 + 5 ≤ s1 → c1 ≤ mc → s1 ≤ ms → (∀ i, i < nE E0 → ad i = ad0 i) → nE E0 ≤ nE E → (∀ w ∈ WG, w.before args s = true) → va_P z.1 classes (wv z ad E M) H → va_S A s.heap H locs → W p l e (rmK 1 40 mc ms) s m args below meth c H locs c0 s0 (MQ below (QK z A (fun u => none) (fun u => wv z (adj E0 ad0 u) F N)) args s c1 s1 A) (F0 m 0 ls []) := by
    intro E0 ad0 mc ms c0 s0 c1 s1 H locs args hc hs hm hm2 hag0 hE0 hts hP hS
    unfold f_Fb_init at h
    obtain ⟨h_p0, h⟩ := ck_e h
    obtain ⟨h_p1, h⟩ := ck_e h
    obtain ⟨h_p2, h⟩ := ck_e h
    refine lv_aload_n hx hb d_7_1_0 rfl (lv_at hl 0 rfl) ?_
    refine W.objInit hx hb hown (hts _ w_151) (hts _ w_38) (hts _ w_obj) rfl (by rw [hml]; exact hl.1) rfl d_7_1_1 (Nat.le_of_ble_eq_true rfl) (Nat.le_of_ble_eq_true rfl) ?_
    refine W.eq (g2 := F0 m 4 ls []) rfl ?_
    refine lv_aload_n hx hb d_7_1_4 rfl (lv_at hl 0 rfl) ?_
    refine lv_iconst (v := oI 5) hx hb d_7_1_5 (by decide +kernel) ?_
    obtain ⟨p100, ep100, h⟩ := nb_e h
    obtain ⟨E100, eE100, h⟩ := nb_e h
    obtain ⟨M100, eM100, h⟩ := nb_e h
    refine m_newI (x := (5 : Int)) (N := 5) hx hb (by decide) (by decide) (by decide) (hts _ w_100) hG hP hD hS hA (show _ ≤ mc by omega) (show _ ≤ ms by omega) d_7_1_6 (fun ad100 H hag100 hP hD hS => ?_)
    have hP : va_P z.1 classes (wv z ad100 E100 M100) H := by rw [eE100, eM100]; exact hP
    have hD : va_D A (wv z ad100 E100 M100) := by rw [eE100, eM100]; exact hD
    refine W.eq (g2 := F0 m 8 ls (.ref (ad100 p100) :: [.ref (ad100 p0)])) (by rw [ep100, hag100 p0 h_p0.1] <;> rfl) ?_
    have hl : lv_has ls 3 [(0, .ref (ad100 p0)), (1, .ref (ad100 p1)), (2, .ref (ad100 p2))] := by rw [hag100 p0 h_p0.1, hag100 p1 h_p1.1, hag100 p2 h_p2.1]; exact hl
    have hgw100 : Gw E E100 := by rw [eE100]; exact gw_new _ _
    have hag0 : ∀ i, i < nE E0 → ad100 i = ad0 i := fun i hi => (hag100 i (Nat.lt_of_lt_of_le hi hE0)).trans (hag0 i hi)
    have hE0 : nE E0 ≤ nE E100 := Nat.le_trans hE0 hgw100.1
    have h_p0 : isO 5 E100 p0 := isO_up hgw100 h_p0
    have h_p1 : isO 0 E100 p1 := isO_up hgw100 h_p1
    have h_p2 : isO 9 E100 p2 := isO_up hgw100 h_p2
    have h_p100 : isIA E100 p100 := by rw [ep100, eE100]; exact ⟨new_i _ _, by rw [new_T]⟩
    obtain ⟨E101, eE101, h⟩ := nb_e h
    refine m_prF (C := "Ballothall$FalseBallot") (T := TX5) (N := 3) (ci := 5) (k := 2) (ty := (.array .int)) hx hb hts iX5 hown hG hP hD hS h_p0.1 h_p0.2 rfl (by decide) w_154 (fun _ h9 => h9) rfl rfl tyX5_ok nmX5 rfl hin rfl (by decide +kernel) h_p100.1 (fun _ => rfl) (fun _ => rfl) d_7_1_8 (fun H locs hP hD hS => ?_)
    have hP : va_P z.1 classes (wv z ad100 E101 M100) H := by rw [eE101]; exact hP
    have hD : va_D A (wv z ad100 E101 M100) := by rw [eE101]; exact hD
    have hgw101 : Gw E100 E101 := by rw [eE101]; exact gw_ref _ _ _ _
    have hE0 : nE E0 ≤ nE E101 := Nat.le_trans hE0 hgw101.1
    have h_p0 : isO 5 E101 p0 := isO_up hgw101 h_p0
    have h_p1 : isO 0 E101 p1 := isO_up hgw101 h_p1
    have h_p2 : isO 9 E101 p2 := isO_up hgw101 h_p2
    refine W.eq (g2 := F0 m 11 ls []) rfl ?_
    refine lv_aload_n hx hb d_7_1_11 rfl (lv_at hl 0 rfl) ?_
    refine lv_aload_n hx hb d_7_1_12 rfl (lv_at hl 1 rfl) ?_
    obtain ⟨E102, eE102, h⟩ := nb_e h
    refine m_prF (C := "Ballothall$FalseBallot") (T := TX5) (N := 3) (ci := 5) (k := 0) (ty := (.object "Ballothall$BallotBox")) hx hb hts iX5 hown hG hP hD hS h_p0.1 h_p0.2 rfl (by decide) w_152 (fun _ h9 => h9) rfl rfl tyX5_ok nmX5 rfl hin rfl (by decide +kernel) h_p1.1 (fun _ => rfl) (fun _ => rfl) d_7_1_13 (fun H locs hP hD hS => ?_)
    have hP : va_P z.1 classes (wv z ad100 E102 M100) H := by rw [eE102]; exact hP
    have hD : va_D A (wv z ad100 E102 M100) := by rw [eE102]; exact hD
    have hgw102 : Gw E101 E102 := by rw [eE102]; exact gw_ref _ _ _ _
    have hE0 : nE E0 ≤ nE E102 := Nat.le_trans hE0 hgw102.1
    have h_p0 : isO 5 E102 p0 := isO_up hgw102 h_p0
    have h_p1 : isO 0 E102 p1 := isO_up hgw102 h_p1
    have h_p2 : isO 9 E102 p2 := isO_up hgw102 h_p2
    refine W.eq (g2 := F0 m 16 ls []) rfl ?_
    refine lv_aload_n hx hb d_7_1_16 rfl (lv_at hl 0 rfl) ?_
    refine lv_aload_n hx hb d_7_1_17 rfl (lv_at hl 2 rfl) ?_
    obtain ⟨E103, eE103, h⟩ := nb_e h
    refine m_prF (C := "Ballothall$FalseBallot") (T := TX5) (N := 3) (ci := 5) (k := 1) (ty := (.object "Ballothall$Poll")) hx hb hts iX5 hown hG hP hD hS h_p0.1 h_p0.2 rfl (by decide) w_153 (fun _ h9 => h9) rfl rfl tyX5_ok nmX5 rfl hin rfl (by decide +kernel) h_p2.1 (fun _ => rfl) (fun _ => rfl) d_7_1_18 (fun H locs hP hD hS => ?_)
    have hP : va_P z.1 classes (wv z ad100 E103 M100) H := by rw [eE103]; exact hP
    have hD : va_D A (wv z ad100 E103 M100) := by rw [eE103]; exact hD
    have hgw103 : Gw E102 E103 := by rw [eE103]; exact gw_ref _ _ _ _
    have hE0 : nE E0 ≤ nE E103 := Nat.le_trans hE0 hgw103.1
    have h_p0 : isO 5 E103 p0 := isO_up hgw103 h_p0
    have h_p1 : isO 0 E103 p1 := isO_up hgw103 h_p1
    have h_p2 : isO 9 E103 p2 := isO_up hgw103 h_p2
    refine W.eq (g2 := F0 m 21 ls []) rfl ?_
    refine W.wide (k := c1) (n := s1) (by omega) (by omega) ?_
    obtain ⟨rfl, rfl⟩ := in2 h
    exact W.vret hx hb hr (fun t ht hW => qkA hP hD hS ad100 (congrArg (fun q => wv z q E103 M100) (adj_self hag0).symm) rfl ht) hS.2.2 d_7_1_21
  exact key E ad 1 5 0 0 1 5 _ _ _ (by decide) (by decide) (by decide) (by decide) (fun _ _ => rfl) (Nat.le_refl _) hts hP hS
set_option maxRecDepth 100000 in
set_option maxHeartbeats 4000000 in
theorem s_Di_init (l : Launch) (z : Zz) (ad : Nat → Nat) (E : Ev) (M : Mm) (p0 : Nat) (F : Ev) (N : Mm) (h : f_Di_init E M p0 = some (F, N)) : CT l z ⟨"Ballothall$Division", "<init>", "()V"⟩ prog_6_method_1_code 1 none [.ref (ad p0)] (wv z ad E M) 1 40 6 101 (fun u => none) (fun u => wv z (adj E ad u) F N) := by
  refine CT.of (own := "Ballothall$Division") (by decide +kernel) (Nat.le_of_ble_eq_true rfl) rfl (fun p e s m below meth c A ls hx hb hml hr hts hown hlocks hin hA hG hZ hP hD hS hl => ?_)
  have hl : lv_has ls 1 [(0, .ref (ad p0))] := hl
  have key : ∀ (E0 : Ev) (ad0 : Nat → Nat) (mc ms c0 s0 c1 s1 : Nat) (H : Heap) (locs : List Loc) (args : Array Value), c0 + 6 ≤ c1 → s0 + 101 ≤ s1 → c1 ≤ mc → s1 ≤ ms → (∀ i, i < nE E0 → ad i = ad0 i) → nE E0 ≤ nE E → (∀ w ∈ WG, w.before args s = true) → va_P z.1 classes (wv z ad E M) H → va_S A s.heap H locs → W p l e (rmK 1 40 mc ms) s m args below meth c H locs c0 s0 (MQ below (QK z A (fun u => none) (fun u => wv z (adj E0 ad0 u) F N)) args s c1 s1 A) (F0 m 0 ls []) := by
    intro E0 ad0 mc ms c0 s0 c1 s1 H locs args hc hs hm hm2 hag0 hE0 hts hP hS
    unfold f_Di_init at h
    obtain ⟨h_p0, h⟩ := ck_e h
    refine lv_aload_n hx hb d_6_1_0 rfl (lv_at hl 0 rfl) ?_
    refine W.objInit hx hb hown (hts _ w_174) (hts _ w_38) (hts _ w_obj) rfl (by rw [hml]; exact hl.1) rfl d_6_1_1 (Nat.le_of_ble_eq_true rfl) (Nat.le_of_ble_eq_true rfl) ?_
    refine W.eq (g2 := F0 m 4 ls []) rfl ?_
    refine lv_aload_n hx hb d_6_1_4 rfl (lv_at hl 0 rfl) ?_
    refine lv_bipush (v := oI 8) hx hb d_6_1_5 (by decide +kernel) ?_
    obtain ⟨p100, ep100, h⟩ := nb_e h
    obtain ⟨E100, eE100, h⟩ := nb_e h
    obtain ⟨M100, eM100, h⟩ := nb_e h
    refine m_newI (x := (8 : Int)) (N := 8) hx hb (by decide) (by decide) (by decide) (hts _ w_100) hG hP hD hS hA (show _ ≤ mc by omega) (show _ ≤ ms by omega) d_6_1_7 (fun ad100 H hag100 hP hD hS => ?_)
    have hP : va_P z.1 classes (wv z ad100 E100 M100) H := by rw [eE100, eM100]; exact hP
    have hD : va_D A (wv z ad100 E100 M100) := by rw [eE100, eM100]; exact hD
    refine W.eq (g2 := F0 m 9 ls (.ref (ad100 p100) :: [.ref (ad100 p0)])) (by rw [ep100, hag100 p0 h_p0.1] <;> rfl) ?_
    have hl : lv_has ls 1 [(0, .ref (ad100 p0))] := by rw [hag100 p0 h_p0.1]; exact hl
    have hgw100 : Gw E E100 := by rw [eE100]; exact gw_new _ _
    have hag0 : ∀ i, i < nE E0 → ad100 i = ad0 i := fun i hi => (hag100 i (Nat.lt_of_lt_of_le hi hE0)).trans (hag0 i hi)
    have hE0 : nE E0 ≤ nE E100 := Nat.le_trans hE0 hgw100.1
    have h_p0 : isO 4 E100 p0 := isO_up hgw100 h_p0
    have h_p100 : isIA E100 p100 := by rw [ep100, eE100]; exact ⟨new_i _ _, by rw [new_T]⟩
    obtain ⟨E101, eE101, h⟩ := nb_e h
    refine m_prF (C := "Ballothall$Division") (T := TX4) (N := 8) (ci := 4) (k := 2) (ty := (.array .int)) hx hb hts iX4 hown hG hP hD hS h_p0.1 h_p0.2 rfl (by decide) w_179 (fun _ h9 => h9) rfl rfl tyX4_ok nmX4 rfl hin rfl (by decide +kernel) h_p100.1 (fun _ => rfl) (fun _ => rfl) d_6_1_9 (fun H locs hP hD hS => ?_)
    have hP : va_P z.1 classes (wv z ad100 E101 M100) H := by rw [eE101]; exact hP
    have hD : va_D A (wv z ad100 E101 M100) := by rw [eE101]; exact hD
    have hgw101 : Gw E100 E101 := by rw [eE101]; exact gw_ref _ _ _ _
    have hE0 : nE E0 ≤ nE E101 := Nat.le_trans hE0 hgw101.1
    have h_p0 : isO 4 E101 p0 := isO_up hgw101 h_p0
    refine W.eq (g2 := F0 m 12 ls []) rfl ?_
    refine lv_aload_n hx hb d_6_1_12 rfl (lv_at hl 0 rfl) ?_
    refine lv_bipush (v := oI 8) hx hb d_6_1_13 (by decide +kernel) ?_
    obtain ⟨p102, ep102, h⟩ := nb_e h
    obtain ⟨E102, eE102, h⟩ := nb_e h
    obtain ⟨M102, eM102, h⟩ := nb_e h
    refine m_newL (x := (8 : Int)) (N := 8) hx hb (by decide) (by decide) (by decide) (hts _ w_145) hG hP hD hS hA (show _ ≤ mc by omega) (show _ ≤ ms by omega) d_6_1_15 (fun ad102 H hag102 hP hD hS => ?_)
    have hP : va_P z.1 classes (wv z ad102 E102 M102) H := by rw [eE102, eM102]; exact hP
    have hD : va_D A (wv z ad102 E102 M102) := by rw [eE102, eM102]; exact hD
    refine W.eq (g2 := F0 m 17 ls (.ref (ad102 p102) :: [.ref (ad102 p0)])) (by rw [ep102, hag102 p0 h_p0.1] <;> rfl) ?_
    have hl : lv_has ls 1 [(0, .ref (ad102 p0))] := by rw [hag102 p0 h_p0.1]; exact hl
    have hgw102 : Gw E101 E102 := by rw [eE102]; exact gw_new _ _
    have hag0 : ∀ i, i < nE E0 → ad102 i = ad0 i := fun i hi => (hag102 i (Nat.lt_of_lt_of_le hi hE0)).trans (hag0 i hi)
    have hE0 : nE E0 ≤ nE E102 := Nat.le_trans hE0 hgw102.1
    have h_p0 : isO 4 E102 p0 := isO_up hgw102 h_p0
    have h_p102 : isLA E102 p102 := by rw [ep102, eE102]; exact ⟨new_i _ _, by rw [new_T]⟩
    obtain ⟨E103, eE103, h⟩ := nb_e h
    refine m_prF (C := "Ballothall$Division") (T := TX4) (N := 8) (ci := 4) (k := 3) (ty := (.array .long)) hx hb hts iX4 hown hG hP hD hS h_p0.1 h_p0.2 rfl (by decide) w_181 (fun _ h9 => h9) rfl rfl tyX4_ok nmX4 rfl hin rfl (by decide +kernel) h_p102.1 (fun _ => rfl) (fun _ => rfl) d_6_1_17 (fun H locs hP hD hS => ?_)
    have hP : va_P z.1 classes (wv z ad102 E103 M102) H := by rw [eE103]; exact hP
    have hD : va_D A (wv z ad102 E103 M102) := by rw [eE103]; exact hD
    have hgw103 : Gw E102 E103 := by rw [eE103]; exact gw_ref _ _ _ _
    have hE0 : nE E0 ≤ nE E103 := Nat.le_trans hE0 hgw103.1
    have h_p0 : isO 4 E103 p0 := isO_up hgw103 h_p0
    refine W.eq (g2 := F0 m 20 ls []) rfl ?_
    refine lv_aload_n hx hb d_6_1_20 rfl (lv_at hl 0 rfl) ?_
    refine lv_bipush (v := oI 8) hx hb d_6_1_21 (by decide +kernel) ?_
    obtain ⟨p104, ep104, h⟩ := nb_e h
    obtain ⟨E104, eE104, h⟩ := nb_e h
    obtain ⟨M104, eM104, h⟩ := nb_e h
    refine m_newI (x := (8 : Int)) (N := 8) hx hb (by decide) (by decide) (by decide) (hts _ w_100) hG hP hD hS hA (show _ ≤ mc by omega) (show _ ≤ ms by omega) d_6_1_23 (fun ad104 H hag104 hP hD hS => ?_)
    have hP : va_P z.1 classes (wv z ad104 E104 M104) H := by rw [eE104, eM104]; exact hP
    have hD : va_D A (wv z ad104 E104 M104) := by rw [eE104, eM104]; exact hD
    refine W.eq (g2 := F0 m 25 ls (.ref (ad104 p104) :: [.ref (ad104 p0)])) (by rw [ep104, hag104 p0 h_p0.1] <;> rfl) ?_
    have hl : lv_has ls 1 [(0, .ref (ad104 p0))] := by rw [hag104 p0 h_p0.1]; exact hl
    have hgw104 : Gw E103 E104 := by rw [eE104]; exact gw_new _ _
    have hag0 : ∀ i, i < nE E0 → ad104 i = ad0 i := fun i hi => (hag104 i (Nat.lt_of_lt_of_le hi hE0)).trans (hag0 i hi)
    have hE0 : nE E0 ≤ nE E104 := Nat.le_trans hE0 hgw104.1
    have h_p0 : isO 4 E104 p0 := isO_up hgw104 h_p0
    have h_p104 : isIA E104 p104 := by rw [ep104, eE104]; exact ⟨new_i _ _, by rw [new_T]⟩
    obtain ⟨E105, eE105, h⟩ := nb_e h
    refine m_prF (C := "Ballothall$Division") (T := TX4) (N := 8) (ci := 4) (k := 4) (ty := (.array .int)) hx hb hts iX4 hown hG hP hD hS h_p0.1 h_p0.2 rfl (by decide) w_182 (fun _ h9 => h9) rfl rfl tyX4_ok nmX4 rfl hin rfl (by decide +kernel) h_p104.1 (fun _ => rfl) (fun _ => rfl) d_6_1_25 (fun H locs hP hD hS => ?_)
    have hP : va_P z.1 classes (wv z ad104 E105 M104) H := by rw [eE105]; exact hP
    have hD : va_D A (wv z ad104 E105 M104) := by rw [eE105]; exact hD
    have hgw105 : Gw E104 E105 := by rw [eE105]; exact gw_ref _ _ _ _
    have hE0 : nE E0 ≤ nE E105 := Nat.le_trans hE0 hgw105.1
    have h_p0 : isO 4 E105 p0 := isO_up hgw105 h_p0
    refine W.eq (g2 := F0 m 28 ls []) rfl ?_
    refine lv_aload_n hx hb d_6_1_28 rfl (lv_at hl 0 rfl) ?_
    refine lv_bipush (v := oI 8) hx hb d_6_1_29 (by decide +kernel) ?_
    obtain ⟨p106, ep106, h⟩ := nb_e h
    obtain ⟨E106, eE106, h⟩ := nb_e h
    obtain ⟨M106, eM106, h⟩ := nb_e h
    refine m_newI (x := (8 : Int)) (N := 8) hx hb (by decide) (by decide) (by decide) (hts _ w_100) hG hP hD hS hA (show _ ≤ mc by omega) (show _ ≤ ms by omega) d_6_1_31 (fun ad106 H hag106 hP hD hS => ?_)
    have hP : va_P z.1 classes (wv z ad106 E106 M106) H := by rw [eE106, eM106]; exact hP
    have hD : va_D A (wv z ad106 E106 M106) := by rw [eE106, eM106]; exact hD
    refine W.eq (g2 := F0 m 33 ls (.ref (ad106 p106) :: [.ref (ad106 p0)])) (by rw [ep106, hag106 p0 h_p0.1] <;> rfl) ?_
    have hl : lv_has ls 1 [(0, .ref (ad106 p0))] := by rw [hag106 p0 h_p0.1]; exact hl
    have hgw106 : Gw E105 E106 := by rw [eE106]; exact gw_new _ _
    have hag0 : ∀ i, i < nE E0 → ad106 i = ad0 i := fun i hi => (hag106 i (Nat.lt_of_lt_of_le hi hE0)).trans (hag0 i hi)
    have hE0 : nE E0 ≤ nE E106 := Nat.le_trans hE0 hgw106.1
    have h_p0 : isO 4 E106 p0 := isO_up hgw106 h_p0
    have h_p106 : isIA E106 p106 := by rw [ep106, eE106]; exact ⟨new_i _ _, by rw [new_T]⟩
    obtain ⟨E107, eE107, h⟩ := nb_e h
    refine m_prF (C := "Ballothall$Division") (T := TX4) (N := 8) (ci := 4) (k := 5) (ty := (.array .int)) hx hb hts iX4 hown hG hP hD hS h_p0.1 h_p0.2 rfl (by decide) w_183 (fun _ h9 => h9) rfl rfl tyX4_ok nmX4 rfl hin rfl (by decide +kernel) h_p106.1 (fun _ => rfl) (fun _ => rfl) d_6_1_33 (fun H locs hP hD hS => ?_)
    have hP : va_P z.1 classes (wv z ad106 E107 M106) H := by rw [eE107]; exact hP
    have hD : va_D A (wv z ad106 E107 M106) := by rw [eE107]; exact hD
    have hgw107 : Gw E106 E107 := by rw [eE107]; exact gw_ref _ _ _ _
    have hE0 : nE E0 ≤ nE E107 := Nat.le_trans hE0 hgw107.1
    have h_p0 : isO 4 E107 p0 := isO_up hgw107 h_p0
    refine W.eq (g2 := F0 m 36 ls []) rfl ?_
    refine lv_aload_n hx hb d_6_1_36 rfl (lv_at hl 0 rfl) ?_
    refine lv_bipush (v := oI 8) hx hb d_6_1_37 (by decide +kernel) ?_
    obtain ⟨p108, ep108, h⟩ := nb_e h
    obtain ⟨E108, eE108, h⟩ := nb_e h
    obtain ⟨M108, eM108, h⟩ := nb_e h
    refine m_newL (x := (8 : Int)) (N := 8) hx hb (by decide) (by decide) (by decide) (hts _ w_145) hG hP hD hS hA (show _ ≤ mc by omega) (show _ ≤ ms by omega) d_6_1_39 (fun ad108 H hag108 hP hD hS => ?_)
    have hP : va_P z.1 classes (wv z ad108 E108 M108) H := by rw [eE108, eM108]; exact hP
    have hD : va_D A (wv z ad108 E108 M108) := by rw [eE108, eM108]; exact hD
    refine W.eq (g2 := F0 m 41 ls (.ref (ad108 p108) :: [.ref (ad108 p0)])) (by rw [ep108, hag108 p0 h_p0.1] <;> rfl) ?_
    have hl : lv_has ls 1 [(0, .ref (ad108 p0))] := by rw [hag108 p0 h_p0.1]; exact hl
    have hgw108 : Gw E107 E108 := by rw [eE108]; exact gw_new _ _
    have hag0 : ∀ i, i < nE E0 → ad108 i = ad0 i := fun i hi => (hag108 i (Nat.lt_of_lt_of_le hi hE0)).trans (hag0 i hi)
    have hE0 : nE E0 ≤ nE E108 := Nat.le_trans hE0 hgw108.1
    have h_p0 : isO 4 E108 p0 := isO_up hgw108 h_p0
    have h_p108 : isLA E108 p108 := by rw [ep108, eE108]; exact ⟨new_i _ _, by rw [new_T]⟩
    obtain ⟨E109, eE109, h⟩ := nb_e h
    refine m_prF (C := "Ballothall$Division") (T := TX4) (N := 8) (ci := 4) (k := 6) (ty := (.array .long)) hx hb hts iX4 hown hG hP hD hS h_p0.1 h_p0.2 rfl (by decide) w_185 (fun _ h9 => h9) rfl rfl tyX4_ok nmX4 rfl hin rfl (by decide +kernel) h_p108.1 (fun _ => rfl) (fun _ => rfl) d_6_1_41 (fun H locs hP hD hS => ?_)
    have hP : va_P z.1 classes (wv z ad108 E109 M108) H := by rw [eE109]; exact hP
    have hD : va_D A (wv z ad108 E109 M108) := by rw [eE109]; exact hD
    have hgw109 : Gw E108 E109 := by rw [eE109]; exact gw_ref _ _ _ _
    have hE0 : nE E0 ≤ nE E109 := Nat.le_trans hE0 hgw109.1
    have h_p0 : isO 4 E109 p0 := isO_up hgw109 h_p0
    refine W.eq (g2 := F0 m 44 ls []) rfl ?_
    refine lv_aload_n hx hb d_6_1_44 rfl (lv_at hl 0 rfl) ?_
    refine lv_bipush (v := oI 61) hx hb d_6_1_45 (by decide +kernel) ?_
    obtain ⟨p110, ep110, h⟩ := nb_e h
    obtain ⟨E110, eE110, h⟩ := nb_e h
    obtain ⟨M110, eM110, h⟩ := nb_e h
    refine m_newI (x := (61 : Int)) (N := 61) hx hb (by decide) (by decide) (by decide) (hts _ w_100) hG hP hD hS hA (show _ ≤ mc by omega) (show _ ≤ ms by omega) d_6_1_47 (fun ad110 H hag110 hP hD hS => ?_)
    have hP : va_P z.1 classes (wv z ad110 E110 M110) H := by rw [eE110, eM110]; exact hP
    have hD : va_D A (wv z ad110 E110 M110) := by rw [eE110, eM110]; exact hD
    refine W.eq (g2 := F0 m 49 ls (.ref (ad110 p110) :: [.ref (ad110 p0)])) (by rw [ep110, hag110 p0 h_p0.1] <;> rfl) ?_
    have hl : lv_has ls 1 [(0, .ref (ad110 p0))] := by rw [hag110 p0 h_p0.1]; exact hl
    have hgw110 : Gw E109 E110 := by rw [eE110]; exact gw_new _ _
    have hag0 : ∀ i, i < nE E0 → ad110 i = ad0 i := fun i hi => (hag110 i (Nat.lt_of_lt_of_le hi hE0)).trans (hag0 i hi)
    have hE0 : nE E0 ≤ nE E110 := Nat.le_trans hE0 hgw110.1
    have h_p0 : isO 4 E110 p0 := isO_up hgw110 h_p0
    have h_p110 : isIA E110 p110 := by rw [ep110, eE110]; exact ⟨new_i _ _, by rw [new_T]⟩
    obtain ⟨E111, eE111, h⟩ := nb_e h
    refine m_prF (C := "Ballothall$Division") (T := TX4) (N := 8) (ci := 4) (k := 7) (ty := (.array .int)) hx hb hts iX4 hown hG hP hD hS h_p0.1 h_p0.2 rfl (by decide) w_186 (fun _ h9 => h9) rfl rfl tyX4_ok nmX4 rfl hin rfl (by decide +kernel) h_p110.1 (fun _ => rfl) (fun _ => rfl) d_6_1_49 (fun H locs hP hD hS => ?_)
    have hP : va_P z.1 classes (wv z ad110 E111 M110) H := by rw [eE111]; exact hP
    have hD : va_D A (wv z ad110 E111 M110) := by rw [eE111]; exact hD
    have hgw111 : Gw E110 E111 := by rw [eE111]; exact gw_ref _ _ _ _
    have hE0 : nE E0 ≤ nE E111 := Nat.le_trans hE0 hgw111.1
    have h_p0 : isO 4 E111 p0 := isO_up hgw111 h_p0
    refine W.eq (g2 := F0 m 52 ls []) rfl ?_
    refine W.wide (k := c1) (n := s1) (by omega) (by omega) ?_
    obtain ⟨rfl, rfl⟩ := in2 h
    exact W.vret hx hb hr (fun t ht hW => qkA hP hD hS ad110 (congrArg (fun q => wv z q E111 M110) (adj_self hag0).symm) rfl ht) hS.2.2 d_6_1_52
  exact key E ad 6 101 0 0 6 101 _ _ _ (by decide) (by decide) (by decide) (by decide) (fun _ _ => rfl) (Nat.le_refl _) hts hP hS
set_option maxRecDepth 100000 in
set_option maxHeartbeats 4000000 in
theorem s_Ks_init (l : Launch) (z : Zz) (ad : Nat → Nat) (E : Ev) (M : Mm) (p0 : Nat) (F : Ev) (N : Mm) (h : f_Ks_init E M p0 = some (F, N)) : CT l z ⟨"Ballothall$KeptSeats", "<init>", "()V"⟩ prog_8_method_1_code 1 none [.ref (ad p0)] (wv z ad E M) 1 40 4 84 (fun u => none) (fun u => wv z (adj E ad u) F N) := by
  refine CT.of (own := "Ballothall$KeptSeats") (by decide +kernel) (Nat.le_of_ble_eq_true rfl) rfl (fun p e s m below meth c A ls hx hb hml hr hts hown hlocks hin hA hG hZ hP hD hS hl => ?_)
  have hl : lv_has ls 1 [(0, .ref (ad p0))] := hl
  have key : ∀ (E0 : Ev) (ad0 : Nat → Nat) (mc ms c0 s0 c1 s1 : Nat) (H : Heap) (locs : List Loc) (args : Array Value), c0 + 4 ≤ c1 → s0 + 84 ≤ s1 → c1 ≤ mc → s1 ≤ ms → (∀ i, i < nE E0 → ad i = ad0 i) → nE E0 ≤ nE E → (∀ w ∈ WG, w.before args s = true) → va_P z.1 classes (wv z ad E M) H → va_S A s.heap H locs → W p l e (rmK 1 40 mc ms) s m args below meth c H locs c0 s0 (MQ below (QK z A (fun u => none) (fun u => wv z (adj E0 ad0 u) F N)) args s c1 s1 A) (F0 m 0 ls []) := by
    intro E0 ad0 mc ms c0 s0 c1 s1 H locs args hc hs hm hm2 hag0 hE0 hts hP hS
    unfold f_Ks_init at h
    obtain ⟨h_p0, h⟩ := ck_e h
    refine lv_aload_n hx hb d_8_1_0 rfl (lv_at hl 0 rfl) ?_
    refine W.objInit hx hb hown (hts _ w_211) (hts _ w_38) (hts _ w_obj) rfl (by rw [hml]; exact hl.1) rfl d_8_1_1 (Nat.le_of_ble_eq_true rfl) (Nat.le_of_ble_eq_true rfl) ?_
    refine W.eq (g2 := F0 m 4 ls []) rfl ?_
    refine lv_aload_n hx hb d_8_1_4 rfl (lv_at hl 0 rfl) ?_
    refine lv_bipush (v := oI 60) hx hb d_8_1_5 (by decide +kernel) ?_
    obtain ⟨p100, ep100, h⟩ := nb_e h
    obtain ⟨E100, eE100, h⟩ := nb_e h
    obtain ⟨M100, eM100, h⟩ := nb_e h
    refine m_newI (x := (60 : Int)) (N := 60) hx hb (by decide) (by decide) (by decide) (hts _ w_100) hG hP hD hS hA (show _ ≤ mc by omega) (show _ ≤ ms by omega) d_8_1_7 (fun ad100 H hag100 hP hD hS => ?_)
    have hP : va_P z.1 classes (wv z ad100 E100 M100) H := by rw [eE100, eM100]; exact hP
    have hD : va_D A (wv z ad100 E100 M100) := by rw [eE100, eM100]; exact hD
    refine W.eq (g2 := F0 m 9 ls (.ref (ad100 p100) :: [.ref (ad100 p0)])) (by rw [ep100, hag100 p0 h_p0.1] <;> rfl) ?_
    have hl : lv_has ls 1 [(0, .ref (ad100 p0))] := by rw [hag100 p0 h_p0.1]; exact hl
    have hgw100 : Gw E E100 := by rw [eE100]; exact gw_new _ _
    have hag0 : ∀ i, i < nE E0 → ad100 i = ad0 i := fun i hi => (hag100 i (Nat.lt_of_lt_of_le hi hE0)).trans (hag0 i hi)
    have hE0 : nE E0 ≤ nE E100 := Nat.le_trans hE0 hgw100.1
    have h_p0 : isO 6 E100 p0 := isO_up hgw100 h_p0
    have h_p100 : isIA E100 p100 := by rw [ep100, eE100]; exact ⟨new_i _ _, by rw [new_T]⟩
    obtain ⟨E101, eE101, h⟩ := nb_e h
    refine m_prF (C := "Ballothall$KeptSeats") (T := TX6) (N := 7) (ci := 6) (k := 3) (ty := (.array .int)) hx hb hts iX6 hown hG hP hD hS h_p0.1 h_p0.2 rfl (by decide) w_217 (fun _ h9 => h9) rfl rfl tyX6_ok nmX6 rfl hin rfl (by decide +kernel) h_p100.1 (fun _ => rfl) (fun _ => rfl) d_8_1_9 (fun H locs hP hD hS => ?_)
    have hP : va_P z.1 classes (wv z ad100 E101 M100) H := by rw [eE101]; exact hP
    have hD : va_D A (wv z ad100 E101 M100) := by rw [eE101]; exact hD
    have hgw101 : Gw E100 E101 := by rw [eE101]; exact gw_ref _ _ _ _
    have hE0 : nE E0 ≤ nE E101 := Nat.le_trans hE0 hgw101.1
    have h_p0 : isO 6 E101 p0 := isO_up hgw101 h_p0
    refine W.eq (g2 := F0 m 12 ls []) rfl ?_
    refine lv_aload_n hx hb d_8_1_12 rfl (lv_at hl 0 rfl) ?_
    refine lv_bipush (v := oI 8) hx hb d_8_1_13 (by decide +kernel) ?_
    obtain ⟨p102, ep102, h⟩ := nb_e h
    obtain ⟨E102, eE102, h⟩ := nb_e h
    obtain ⟨M102, eM102, h⟩ := nb_e h
    refine m_newI (x := (8 : Int)) (N := 8) hx hb (by decide) (by decide) (by decide) (hts _ w_100) hG hP hD hS hA (show _ ≤ mc by omega) (show _ ≤ ms by omega) d_8_1_15 (fun ad102 H hag102 hP hD hS => ?_)
    have hP : va_P z.1 classes (wv z ad102 E102 M102) H := by rw [eE102, eM102]; exact hP
    have hD : va_D A (wv z ad102 E102 M102) := by rw [eE102, eM102]; exact hD
    refine W.eq (g2 := F0 m 17 ls (.ref (ad102 p102) :: [.ref (ad102 p0)])) (by rw [ep102, hag102 p0 h_p0.1] <;> rfl) ?_
    have hl : lv_has ls 1 [(0, .ref (ad102 p0))] := by rw [hag102 p0 h_p0.1]; exact hl
    have hgw102 : Gw E101 E102 := by rw [eE102]; exact gw_new _ _
    have hag0 : ∀ i, i < nE E0 → ad102 i = ad0 i := fun i hi => (hag102 i (Nat.lt_of_lt_of_le hi hE0)).trans (hag0 i hi)
    have hE0 : nE E0 ≤ nE E102 := Nat.le_trans hE0 hgw102.1
    have h_p0 : isO 6 E102 p0 := isO_up hgw102 h_p0
    have h_p102 : isIA E102 p102 := by rw [ep102, eE102]; exact ⟨new_i _ _, by rw [new_T]⟩
    obtain ⟨E103, eE103, h⟩ := nb_e h
    refine m_prF (C := "Ballothall$KeptSeats") (T := TX6) (N := 7) (ci := 6) (k := 4) (ty := (.array .int)) hx hb hts iX6 hown hG hP hD hS h_p0.1 h_p0.2 rfl (by decide) w_220 (fun _ h9 => h9) rfl rfl tyX6_ok nmX6 rfl hin rfl (by decide +kernel) h_p102.1 (fun _ => rfl) (fun _ => rfl) d_8_1_17 (fun H locs hP hD hS => ?_)
    have hP : va_P z.1 classes (wv z ad102 E103 M102) H := by rw [eE103]; exact hP
    have hD : va_D A (wv z ad102 E103 M102) := by rw [eE103]; exact hD
    have hgw103 : Gw E102 E103 := by rw [eE103]; exact gw_ref _ _ _ _
    have hE0 : nE E0 ≤ nE E103 := Nat.le_trans hE0 hgw103.1
    have h_p0 : isO 6 E103 p0 := isO_up hgw103 h_p0
    refine W.eq (g2 := F0 m 20 ls []) rfl ?_
    refine lv_aload_n hx hb d_8_1_20 rfl (lv_at hl 0 rfl) ?_
    refine lv_bipush (v := oI 8) hx hb d_8_1_21 (by decide +kernel) ?_
    obtain ⟨p104, ep104, h⟩ := nb_e h
    obtain ⟨E104, eE104, h⟩ := nb_e h
    obtain ⟨M104, eM104, h⟩ := nb_e h
    refine m_newI (x := (8 : Int)) (N := 8) hx hb (by decide) (by decide) (by decide) (hts _ w_100) hG hP hD hS hA (show _ ≤ mc by omega) (show _ ≤ ms by omega) d_8_1_23 (fun ad104 H hag104 hP hD hS => ?_)
    have hP : va_P z.1 classes (wv z ad104 E104 M104) H := by rw [eE104, eM104]; exact hP
    have hD : va_D A (wv z ad104 E104 M104) := by rw [eE104, eM104]; exact hD
    refine W.eq (g2 := F0 m 25 ls (.ref (ad104 p104) :: [.ref (ad104 p0)])) (by rw [ep104, hag104 p0 h_p0.1] <;> rfl) ?_
    have hl : lv_has ls 1 [(0, .ref (ad104 p0))] := by rw [hag104 p0 h_p0.1]; exact hl
    have hgw104 : Gw E103 E104 := by rw [eE104]; exact gw_new _ _
    have hag0 : ∀ i, i < nE E0 → ad104 i = ad0 i := fun i hi => (hag104 i (Nat.lt_of_lt_of_le hi hE0)).trans (hag0 i hi)
    have hE0 : nE E0 ≤ nE E104 := Nat.le_trans hE0 hgw104.1
    have h_p0 : isO 6 E104 p0 := isO_up hgw104 h_p0
    have h_p104 : isIA E104 p104 := by rw [ep104, eE104]; exact ⟨new_i _ _, by rw [new_T]⟩
    obtain ⟨E105, eE105, h⟩ := nb_e h
    refine m_prF (C := "Ballothall$KeptSeats") (T := TX6) (N := 7) (ci := 6) (k := 5) (ty := (.array .int)) hx hb hts iX6 hown hG hP hD hS h_p0.1 h_p0.2 rfl (by decide) w_223 (fun _ h9 => h9) rfl rfl tyX6_ok nmX6 rfl hin rfl (by decide +kernel) h_p104.1 (fun _ => rfl) (fun _ => rfl) d_8_1_25 (fun H locs hP hD hS => ?_)
    have hP : va_P z.1 classes (wv z ad104 E105 M104) H := by rw [eE105]; exact hP
    have hD : va_D A (wv z ad104 E105 M104) := by rw [eE105]; exact hD
    have hgw105 : Gw E104 E105 := by rw [eE105]; exact gw_ref _ _ _ _
    have hE0 : nE E0 ≤ nE E105 := Nat.le_trans hE0 hgw105.1
    have h_p0 : isO 6 E105 p0 := isO_up hgw105 h_p0
    refine W.eq (g2 := F0 m 28 ls []) rfl ?_
    refine lv_aload_n hx hb d_8_1_28 rfl (lv_at hl 0 rfl) ?_
    refine lv_bipush (v := oI 8) hx hb d_8_1_29 (by decide +kernel) ?_
    obtain ⟨p106, ep106, h⟩ := nb_e h
    obtain ⟨E106, eE106, h⟩ := nb_e h
    obtain ⟨M106, eM106, h⟩ := nb_e h
    refine m_newI (x := (8 : Int)) (N := 8) hx hb (by decide) (by decide) (by decide) (hts _ w_100) hG hP hD hS hA (show _ ≤ mc by omega) (show _ ≤ ms by omega) d_8_1_31 (fun ad106 H hag106 hP hD hS => ?_)
    have hP : va_P z.1 classes (wv z ad106 E106 M106) H := by rw [eE106, eM106]; exact hP
    have hD : va_D A (wv z ad106 E106 M106) := by rw [eE106, eM106]; exact hD
    refine W.eq (g2 := F0 m 33 ls (.ref (ad106 p106) :: [.ref (ad106 p0)])) (by rw [ep106, hag106 p0 h_p0.1] <;> rfl) ?_
    have hl : lv_has ls 1 [(0, .ref (ad106 p0))] := by rw [hag106 p0 h_p0.1]; exact hl
    have hgw106 : Gw E105 E106 := by rw [eE106]; exact gw_new _ _
    have hag0 : ∀ i, i < nE E0 → ad106 i = ad0 i := fun i hi => (hag106 i (Nat.lt_of_lt_of_le hi hE0)).trans (hag0 i hi)
    have hE0 : nE E0 ≤ nE E106 := Nat.le_trans hE0 hgw106.1
    have h_p0 : isO 6 E106 p0 := isO_up hgw106 h_p0
    have h_p106 : isIA E106 p106 := by rw [ep106, eE106]; exact ⟨new_i _ _, by rw [new_T]⟩
    obtain ⟨E107, eE107, h⟩ := nb_e h
    refine m_prF (C := "Ballothall$KeptSeats") (T := TX6) (N := 7) (ci := 6) (k := 6) (ty := (.array .int)) hx hb hts iX6 hown hG hP hD hS h_p0.1 h_p0.2 rfl (by decide) w_225 (fun _ h9 => h9) rfl rfl tyX6_ok nmX6 rfl hin rfl (by decide +kernel) h_p106.1 (fun _ => rfl) (fun _ => rfl) d_8_1_33 (fun H locs hP hD hS => ?_)
    have hP : va_P z.1 classes (wv z ad106 E107 M106) H := by rw [eE107]; exact hP
    have hD : va_D A (wv z ad106 E107 M106) := by rw [eE107]; exact hD
    have hgw107 : Gw E106 E107 := by rw [eE107]; exact gw_ref _ _ _ _
    have hE0 : nE E0 ≤ nE E107 := Nat.le_trans hE0 hgw107.1
    have h_p0 : isO 6 E107 p0 := isO_up hgw107 h_p0
    refine W.eq (g2 := F0 m 36 ls []) rfl ?_
    refine W.wide (k := c1) (n := s1) (by omega) (by omega) ?_
    obtain ⟨rfl, rfl⟩ := in2 h
    exact W.vret hx hb hr (fun t ht hW => qkA hP hD hS ad106 (congrArg (fun q => wv z q E107 M106) (adj_self hag0).symm) rfl ht) hS.2.2 d_8_1_36
  exact key E ad 4 84 0 0 4 84 _ _ _ (by decide) (by decide) (by decide) (by decide) (fun _ _ => rfl) (Nat.le_refl _) hts hP hS
set_option maxRecDepth 100000 in
set_option maxHeartbeats 4000000 in
theorem b_Li_init_77b (l : Launch) (z : Zz) (E0 : Ev) (ad0 : Nat → Nat) (ad : Nat → Nat) (E : Ev) (M : Mm) (q0 : Nat) (x1 : Int) (t : Nat) (w1 : Int) (F : Ev) (N : Mm) {Q : State → Prop} {p : Program} {e : Env} {s : State} {m : MethodId} {below : List Frame} {meth : Method} {c : Code} {A : Nat → Prop} {args : Array Value} (hx : p.tables.exec = Jvm.exec) (hb : c.code = prog_9_method_1_code) (hml : c.maxLocals = 2) (hts : ∀ w ∈ WG, w.before args s = true) (hown : s.vm.findClass "Ballothall$Lists" = some m.cls) (hlocks : meth.locks = false) (hA : ∀ q, s.heap.size ≤ q → A q) (hG : KG z s) (hZ : FZ z A s) (mc ms c0 s0 c1 s1 : Nat) (hc : c0 + 5 ≤ c1) (hs : s0 + 91 ≤ s1) (hm : c1 ≤ mc) (hm2 : s1 ≤ ms) (hag0 : ∀ i, i < nE E0 → ad i = ad0 i) (hE0 : nE E0 ≤ nE E) (h : Li_init_77b E M q0 x1 = some (t, w1, F, N)) (k0 : ∀ (ad1 : Nat → Nat), (∀ i, i < nE E0 → ad1 i = ad0 i) → nE E0 ≤ nE F → t = 0 → ∀ (H : Heap) (locs : List Loc) (ls : Array Slot), va_P z.1 classes (wv z ad1 F N) H → va_D A (wv z ad1 F N) → va_S A s.heap H locs → lv_has ls 2 [(0, .ref (ad1 q0)), (1, .int (oI w1))] → W p l e (rmK 2 60 mc ms) s m args below meth c H locs c1 s1 Q (F0 m 77 ls [])) (k1 : ∀ (ad1 : Nat → Nat), (∀ i, i < nE E0 → ad1 i = ad0 i) → nE E0 ≤ nE F → t = 1 → ∀ (H : Heap) (locs : List Loc) (ls : Array Slot), va_P z.1 classes (wv z ad1 F N) H → va_D A (wv z ad1 F N) → va_S A s.heap H locs → lv_has ls 2 [] → W p l e (rmK 2 60 mc ms) s m args below meth c H locs c1 s1 Q (F0 m 102 ls [])) : ∀ (H : Heap) (locs : List Loc) (ls : Array Slot), va_P z.1 classes (wv z ad E M) H → va_D A (wv z ad E M) → va_S A s.heap H locs → lv_has ls 2 [(0, .ref (ad q0)), (1, .int (oI x1))] → W p l e (rmK 2 60 mc ms) s m args below meth c H locs c0 s0 Q (F0 m 77 ls []) := by
  intro H locs ls hP hD hS hl
  unfold Li_init_77b at h
  obtain ⟨h_q0, h⟩ := ck_e h
  refine lv_iload_n hx hb d_9_1_77 rfl (lv_at hl 1 rfl) ?_
  refine lv_bipush (v := oI 21) hx hb d_9_1_78 (by decide +kernel) ?_
  obtain ⟨ok118, h⟩ := ck_e h
  refine lv_icmp_ge (tgt := 102) hx hb d_9_1_80 (by decide) (fun c9 => ?_) (fun c9 => ?_)
  · have h := ite_t ((oI_le (a := (21 : Int)) (b := x1) (by decide) ok118).mp c9) h
    obtain ⟨rfl, rfl, rfl, rfl⟩ := in4 h
    exact W.wide (by omega) (by omega) (k1 ad hag0 hE0 rfl H locs ls hP hD hS (lv_sub hl [] rfl))
  · have h := ite_f (fun q => c9 ((oI_le (a := (21 : Int)) (b := x1) (by decide) ok118).mpr q)) h
    refine lv_aload_n hx hb d_9_1_83 rfl (lv_at hl 0 rfl) ?_
    obtain ⟨p119, g119, h⟩ := bd_e h
    obtain ⟨h_p119, h⟩ := ck_e h
    refine m_gr (j := p119) (C := "Ballothall$Lists") (T := TX7) (N := 11) (ci := 7) (k := 9) hx hb hts iX7 hown hG hP h_q0.1 h_q0.2 rfl (by decide) w_254 (fun _ h9 => h9) rfl rfl g119 d_9_1_84 ?_
    refine lv_iload_n hx hb d_9_1_87 rfl (lv_at hl 1 rfl) ?_
    obtain ⟨p120, ep120, h⟩ := nb_e h
    obtain ⟨E120, eE120, h⟩ := nb_e h
    obtain ⟨M120, eM120, h⟩ := nb_e h
    refine m_newO (ci := 6) (C := "Ballothall$KeptSeats") (T := TX6) (n := 7) hx hb hts iX6 tyX6_ok hown w_205 w_207 w_7 rfl (fun _ => fsX6) hG hP hD hS hA (show _ ≤ mc by omega) (show _ ≤ ms by omega) d_9_1_88 (fun ad120 H hag120 hP hD hS => ?_)
    have hP : va_P z.1 classes (wv z ad120 E120 M120) H := by rw [eE120, eM120]; exact hP
    have hD : va_D A (wv z ad120 E120 M120) := by rw [eE120, eM120]; exact hD
    refine W.eq (g2 := F0 m 91 ls (.ref (ad120 p120) :: [.int (oI x1), .ref (ad120 p119)])) (by rw [ep120, hag120 p119 h_p119.1] <;> rfl) ?_
    have hl : lv_has ls 2 [(0, .ref (ad120 q0)), (1, .int (oI x1))] := by rw [hag120 q0 h_q0.1]; exact hl
    have hgw120 : Gw E E120 := by rw [eE120]; exact gw_new _ _
    have hag0 : ∀ i, i < nE E0 → ad120 i = ad0 i := fun i hi => (hag120 i (Nat.lt_of_lt_of_le hi hE0)).trans (hag0 i hi)
    have hE0 : nE E0 ≤ nE E120 := Nat.le_trans hE0 hgw120.1
    have h_q0 : isO 7 E120 q0 := isO_up hgw120 h_q0
    have h_p119 : isQ 3 E120 p119 := isA_up hgw120 h_p119
    have h_p120 : isO 6 E120 p120 := by rw [ep120, eE120]; exact ⟨new_i _ _, new_T _ _⟩
    refine lv_dup hx hb d_9_1_91 rfl ?_
    obtain ⟨⟨E121, M121⟩, g121, h⟩ := bd_e h
    obtain ⟨hgw121, h⟩ := ck_e h
    refine kIN (As := []) (rest := [.ref (ad120 p120), .int (oI x1), .ref (ad120 p119)]) (s_Ks_init l z ad120 E120 M120 p120 E121 M121 g121) hx hb hml hown hts w_210 n_208 w_209 rfl w_7 md_a689da ⟨Nat.le_of_ble_eq_true rfl, Nat.le_of_ble_eq_true rfl⟩ hG hZ hP hD hS hA rfl hl.1 rfl (Nat.le_of_ble_eq_true rfl) d_9_1_92 ⟨(show _ ≤ mc by omega), (show _ ≤ ms by omega)⟩ (fun u121 H locs hP hD hS => ?_)
    obtain ⟨ad121, had121⟩ : ∃ q, q = adj E120 ad120 u121 := ⟨_, rfl⟩
    have hP : va_P z.1 classes (wv z ad121 E121 M121) H := by rw [had121]; exact hP
    have hD : va_D A (wv z ad121 E121 M121) := by rw [had121]; exact hD
    have hag121 : ∀ i, i < nE E120 → ad121 i = ad120 i := fun i hi => by rw [had121]; exact adj_lt hi
    have hl : lv_has ls 2 [(0, .ref (ad121 q0)), (1, .int (oI x1))] := by rw [hag121 q0 h_q0.1]; exact hl
    refine W.eq (g2 := F0 m 95 ls [.ref (ad121 p120), .int (oI x1), .ref (ad121 p119)]) (by rw [hag121 p120 h_p120.1, hag121 p119 h_p119.1] <;> rfl) ?_
    have hag0 : ∀ i, i < nE E0 → ad121 i = ad0 i := fun i hi => (hag121 i (Nat.lt_of_lt_of_le hi hE0)).trans (hag0 i hi)
    have hE0 : nE E0 ≤ nE E121 := Nat.le_trans hE0 hgw121.1
    have h_q0 : isO 7 E121 q0 := isO_up hgw121 h_q0
    have h_p120 : isO 6 E121 p120 := isO_up hgw121 h_p120
    have h_p119 : isQ 3 E121 p119 := isA_up hgw121 h_p119
    obtain ⟨ok122, h⟩ := ck_e h
    obtain ⟨E123, eE123, h⟩ := nb_e h
    refine m_as (t := 3) (ci := 6) (r := ("Ballothall$KeptSeats", TX6, 7)) (x := x1) hx hb hG hP hD hS h_p119.1 (isQ_T h_p119) rfl rfl h_p120.1 h_p120.2 rfl ok122 d_9_1_95 (fun H locs hP hD hS => ?_)
    have hP : va_P z.1 classes (wv z ad121 E123 M121) H := by rw [eE123]; exact hP
    have hD : va_D A (wv z ad121 E123 M121) := by rw [eE123]; exact hD
    have hgw123 : Gw E121 E123 := by rw [eE123]; exact gw_ref _ _ _ _
    have hE0 : nE E0 ≤ nE E123 := Nat.le_trans hE0 hgw123.1
    have h_q0 : isO 7 E123 q0 := isO_up hgw123 h_q0
    refine W.eq (g2 := F0 m 96 ls []) rfl ?_
    refine lv_iinc (v := oI (x1 + 1)) (lv' := [(1, .int (oI (x1 + 1))), (0, .ref (ad121 q0))]) hx hb d_9_1_96 hl (k := 1) rfl (oI_add x1 1) (by decide) rfl (fun ls hl => ?_)
    refine lv_goto (tgt := 77) hx hb d_9_1_99 (by decide) ?_
    obtain ⟨rfl, rfl, rfl, rfl⟩ := in4 h
    exact W.wide (by omega) (by omega) (k0 ad121 hag0 hE0 rfl H locs ls hP hD hS (lv_sub hl [1, 0] rfl))
set_option maxRecDepth 100000 in
set_option maxHeartbeats 4000000 in
theorem s_Li_init_77 (l : Launch) (z : Zz) (E0 : Ev) (ad0 : Nat → Nat) (q0 : Nat) {Q : State → Prop} {p : Program} {e : Env} {s : State} {m : MethodId} {below : List Frame} {meth : Method} {c : Code} {A : Nat → Prop} {args : Array Value} (hx : p.tables.exec = Jvm.exec) (hb : c.code = prog_9_method_1_code) (hml : c.maxLocals = 2) (hts : ∀ w ∈ WG, w.before args s = true) (hown : s.vm.findClass "Ballothall$Lists" = some m.cls) (hlocks : meth.locks = false) (hA : ∀ q, s.heap.size ≤ q → A q) (hG : KG z s) (hZ : FZ z A s) (mc ms c1 s1 : Nat) (hm : c1 ≤ mc) (hm2 : s1 ≤ ms) : ∀ (fu c0 s0 : Nat) (ad : Nat → Nat) (E : Ev) (M : Mm) (x1 : Int) (t : Nat) (w1 : Int) (F : Ev) (N : Mm), c0 + fu * 5 ≤ c1 → s0 + fu * 91 ≤ s1 → (∀ i, i < nE E0 → ad i = ad0 i) → nE E0 ≤ nE E → l_Li_init_77 q0 fu E M x1 = some (t, w1, F, N) → (∀ (ad1 : Nat → Nat), (∀ i, i < nE E0 → ad1 i = ad0 i) → nE E0 ≤ nE F → t = 1 → ∀ (H : Heap) (locs : List Loc) (ls : Array Slot), va_P z.1 classes (wv z ad1 F N) H → va_D A (wv z ad1 F N) → va_S A s.heap H locs → lv_has ls 2 [] → W p l e (rmK 2 60 mc ms) s m args below meth c H locs c1 s1 Q (F0 m 102 ls [])) → ∀ (H : Heap) (locs : List Loc) (ls : Array Slot), va_P z.1 classes (wv z ad E M) H → va_D A (wv z ad E M) → va_S A s.heap H locs → lv_has ls 2 [(0, .ref (ad q0)), (1, .int (oI x1))] → W p l e (rmK 2 60 mc ms) s m args below meth c H locs c0 s0 Q (F0 m 77 ls []) := by
  intro fu
  induction fu with
  | zero =>
    intro c0 s0 ad E M x1 t w1 F N hc hs hag0 hE0 h
    have h : (none : Option (Nat × Int × Ev × Mm)) = some _ := h
    cases h
  | succ fu ih =>
    intro c0 s0 ad E M x1 t w1 F N hc hs hag0 hE0 h k1 H locs ls hP hD hS hl
    obtain ⟨⟨t0, w10, F9, N9⟩, g0, h⟩ := bd_e h
    refine W.wide (Nat.le_refl _) (Nat.le_refl _) (b_Li_init_77b l z E0 ad0 ad E M q0 x1 t0 w10 F9 N9 hx hb hml hts hown hlocks hA hG hZ mc ms c0 s0 (c0 + 5) (s0 + 91) (Nat.le_refl _) (Nat.le_refl _) (by omega) (by omega) hag0 hE0 g0 (fun ad1 ha he e0 => ?_) (fun ad1 ha he e0 => ?_) H locs ls hP hD hS hl)
    · subst e0
      have h := ite_t rfl h
      exact ih (c0 + 5) (s0 + 91) ad1 F9 N9 w10 t w1 F N (by omega) (by omega) ha he h k1
    · subst e0
      have h := ite_f (by decide) h
      obtain ⟨rfl, rfl, rfl, rfl⟩ := in4 h
      exact fun H locs ls hP hD hS hl => W.wide (by omega) (by omega) (k1 ad1 ha he rfl H locs ls hP hD hS hl)
set_option maxRecDepth 100000 in
set_option maxHeartbeats 4000000 in
theorem s_Li_init (l : Launch) (z : Zz) (ad : Nat → Nat) (E : Ev) (M : Mm) (p0 : Nat) (F : Ev) (N : Mm) (h : f_Li_init E M p0 = some (F, N)) : CT l z ⟨"Ballothall$Lists", "<init>", "()V"⟩ prog_9_method_1_code 2 none [.ref (ad p0)] (wv z ad E M) 2 60 180 3191 (fun u => none) (fun u => wv z (adj E ad u) F N) := by
  refine CT.of (own := "Ballothall$Lists") (by decide +kernel) (Nat.le_of_ble_eq_true rfl) rfl (fun p e s m below meth c A ls hx hb hml hr hts hown hlocks hin hA hG hZ hP hD hS hl => ?_)
  have hl : lv_has ls 2 [(0, .ref (ad p0))] := hl
  have key : ∀ (E0 : Ev) (ad0 : Nat → Nat) (mc ms c0 s0 c1 s1 : Nat) (H : Heap) (locs : List Loc) (args : Array Value), c0 + 180 ≤ c1 → s0 + 3191 ≤ s1 → c1 ≤ mc → s1 ≤ ms → (∀ i, i < nE E0 → ad i = ad0 i) → nE E0 ≤ nE E → (∀ w ∈ WG, w.before args s = true) → va_P z.1 classes (wv z ad E M) H → va_S A s.heap H locs → W p l e (rmK 2 60 mc ms) s m args below meth c H locs c0 s0 (MQ below (QK z A (fun u => none) (fun u => wv z (adj E0 ad0 u) F N)) args s c1 s1 A) (F0 m 0 ls []) := by
    intro E0 ad0 mc ms c0 s0 c1 s1 H locs args hc hs hm hm2 hag0 hE0 hts hP hS
    unfold f_Li_init at h
    obtain ⟨h_p0, h⟩ := ck_e h
    refine lv_aload_n hx hb d_9_1_0 rfl (lv_at hl 0 rfl) ?_
    refine W.objInit hx hb hown (hts _ w_168) (hts _ w_38) (hts _ w_obj) rfl (by rw [hml]; exact hl.1) rfl d_9_1_1 (Nat.le_of_ble_eq_true rfl) (Nat.le_of_ble_eq_true rfl) ?_
    refine W.eq (g2 := F0 m 4 ls []) rfl ?_
    refine lv_aload_n hx hb d_9_1_4 rfl (lv_at hl 0 rfl) ?_
    refine lv_bipush (v := oI 8) hx hb d_9_1_5 (by decide +kernel) ?_
    obtain ⟨p100, ep100, h⟩ := nb_e h
    obtain ⟨E100, eE100, h⟩ := nb_e h
    obtain ⟨M100, eM100, h⟩ := nb_e h
    refine m_newI (x := (8 : Int)) (N := 8) hx hb (by decide) (by decide) (by decide) (hts _ w_100) hG hP hD hS hA (show _ ≤ mc by omega) (show _ ≤ ms by omega) d_9_1_7 (fun ad100 H hag100 hP hD hS => ?_)
    have hP : va_P z.1 classes (wv z ad100 E100 M100) H := by rw [eE100, eM100]; exact hP
    have hD : va_D A (wv z ad100 E100 M100) := by rw [eE100, eM100]; exact hD
    refine W.eq (g2 := F0 m 9 ls (.ref (ad100 p100) :: [.ref (ad100 p0)])) (by rw [ep100, hag100 p0 h_p0.1] <;> rfl) ?_
    have hl : lv_has ls 2 [(0, .ref (ad100 p0))] := by rw [hag100 p0 h_p0.1]; exact hl
    have hgw100 : Gw E E100 := by rw [eE100]; exact gw_new _ _
    have hag0 : ∀ i, i < nE E0 → ad100 i = ad0 i := fun i hi => (hag100 i (Nat.lt_of_lt_of_le hi hE0)).trans (hag0 i hi)
    have hE0 : nE E0 ≤ nE E100 := Nat.le_trans hE0 hgw100.1
    have h_p0 : isO 7 E100 p0 := isO_up hgw100 h_p0
    have h_p100 : isIA E100 p100 := by rw [ep100, eE100]; exact ⟨new_i _ _, by rw [new_T]⟩
    obtain ⟨E101, eE101, h⟩ := nb_e h
    refine m_prF (C := "Ballothall$Lists") (T := TX7) (N := 11) (ci := 7) (k := 1) (ty := (.array .int)) hx hb hts iX7 hown hG hP hD hS h_p0.1 h_p0.2 rfl (by decide) w_244 (fun _ h9 => h9) rfl rfl tyX7_ok nmX7 rfl hin rfl (by decide +kernel) h_p100.1 (fun _ => rfl) (fun _ => rfl) d_9_1_9 (fun H locs hP hD hS => ?_)
    have hP : va_P z.1 classes (wv z ad100 E101 M100) H := by rw [eE101]; exact hP
    have hD : va_D A (wv z ad100 E101 M100) := by rw [eE101]; exact hD
    have hgw101 : Gw E100 E101 := by rw [eE101]; exact gw_ref _ _ _ _
    have hE0 : nE E0 ≤ nE E101 := Nat.le_trans hE0 hgw101.1
    have h_p0 : isO 7 E101 p0 := isO_up hgw101 h_p0
    refine W.eq (g2 := F0 m 12 ls []) rfl ?_
    refine lv_aload_n hx hb d_9_1_12 rfl (lv_at hl 0 rfl) ?_
    refine lv_bipush (v := oI 8) hx hb d_9_1_13 (by decide +kernel) ?_
    obtain ⟨p102, ep102, h⟩ := nb_e h
    obtain ⟨E102, eE102, h⟩ := nb_e h
    obtain ⟨M102, eM102, h⟩ := nb_e h
    refine m_newI (x := (8 : Int)) (N := 8) hx hb (by decide) (by decide) (by decide) (hts _ w_100) hG hP hD hS hA (show _ ≤ mc by omega) (show _ ≤ ms by omega) d_9_1_15 (fun ad102 H hag102 hP hD hS => ?_)
    have hP : va_P z.1 classes (wv z ad102 E102 M102) H := by rw [eE102, eM102]; exact hP
    have hD : va_D A (wv z ad102 E102 M102) := by rw [eE102, eM102]; exact hD
    refine W.eq (g2 := F0 m 17 ls (.ref (ad102 p102) :: [.ref (ad102 p0)])) (by rw [ep102, hag102 p0 h_p0.1] <;> rfl) ?_
    have hl : lv_has ls 2 [(0, .ref (ad102 p0))] := by rw [hag102 p0 h_p0.1]; exact hl
    have hgw102 : Gw E101 E102 := by rw [eE102]; exact gw_new _ _
    have hag0 : ∀ i, i < nE E0 → ad102 i = ad0 i := fun i hi => (hag102 i (Nat.lt_of_lt_of_le hi hE0)).trans (hag0 i hi)
    have hE0 : nE E0 ≤ nE E102 := Nat.le_trans hE0 hgw102.1
    have h_p0 : isO 7 E102 p0 := isO_up hgw102 h_p0
    have h_p102 : isIA E102 p102 := by rw [ep102, eE102]; exact ⟨new_i _ _, by rw [new_T]⟩
    obtain ⟨E103, eE103, h⟩ := nb_e h
    refine m_prF (C := "Ballothall$Lists") (T := TX7) (N := 11) (ci := 7) (k := 2) (ty := (.array .int)) hx hb hts iX7 hown hG hP hD hS h_p0.1 h_p0.2 rfl (by decide) w_245 (fun _ h9 => h9) rfl rfl tyX7_ok nmX7 rfl hin rfl (by decide +kernel) h_p102.1 (fun _ => rfl) (fun _ => rfl) d_9_1_17 (fun H locs hP hD hS => ?_)
    have hP : va_P z.1 classes (wv z ad102 E103 M102) H := by rw [eE103]; exact hP
    have hD : va_D A (wv z ad102 E103 M102) := by rw [eE103]; exact hD
    have hgw103 : Gw E102 E103 := by rw [eE103]; exact gw_ref _ _ _ _
    have hE0 : nE E0 ≤ nE E103 := Nat.le_trans hE0 hgw103.1
    have h_p0 : isO 7 E103 p0 := isO_up hgw103 h_p0
    refine W.eq (g2 := F0 m 20 ls []) rfl ?_
    refine lv_aload_n hx hb d_9_1_20 rfl (lv_at hl 0 rfl) ?_
    refine lv_bipush (v := oI 8) hx hb d_9_1_21 (by decide +kernel) ?_
    obtain ⟨p104, ep104, h⟩ := nb_e h
    obtain ⟨E104, eE104, h⟩ := nb_e h
    obtain ⟨M104, eM104, h⟩ := nb_e h
    refine m_newI (x := (8 : Int)) (N := 8) hx hb (by decide) (by decide) (by decide) (hts _ w_100) hG hP hD hS hA (show _ ≤ mc by omega) (show _ ≤ ms by omega) d_9_1_23 (fun ad104 H hag104 hP hD hS => ?_)
    have hP : va_P z.1 classes (wv z ad104 E104 M104) H := by rw [eE104, eM104]; exact hP
    have hD : va_D A (wv z ad104 E104 M104) := by rw [eE104, eM104]; exact hD
    refine W.eq (g2 := F0 m 25 ls (.ref (ad104 p104) :: [.ref (ad104 p0)])) (by rw [ep104, hag104 p0 h_p0.1] <;> rfl) ?_
    have hl : lv_has ls 2 [(0, .ref (ad104 p0))] := by rw [hag104 p0 h_p0.1]; exact hl
    have hgw104 : Gw E103 E104 := by rw [eE104]; exact gw_new _ _
    have hag0 : ∀ i, i < nE E0 → ad104 i = ad0 i := fun i hi => (hag104 i (Nat.lt_of_lt_of_le hi hE0)).trans (hag0 i hi)
    have hE0 : nE E0 ≤ nE E104 := Nat.le_trans hE0 hgw104.1
    have h_p0 : isO 7 E104 p0 := isO_up hgw104 h_p0
    have h_p104 : isIA E104 p104 := by rw [ep104, eE104]; exact ⟨new_i _ _, by rw [new_T]⟩
    obtain ⟨E105, eE105, h⟩ := nb_e h
    refine m_prF (C := "Ballothall$Lists") (T := TX7) (N := 11) (ci := 7) (k := 3) (ty := (.array .int)) hx hb hts iX7 hown hG hP hD hS h_p0.1 h_p0.2 rfl (by decide) w_247 (fun _ h9 => h9) rfl rfl tyX7_ok nmX7 rfl hin rfl (by decide +kernel) h_p104.1 (fun _ => rfl) (fun _ => rfl) d_9_1_25 (fun H locs hP hD hS => ?_)
    have hP : va_P z.1 classes (wv z ad104 E105 M104) H := by rw [eE105]; exact hP
    have hD : va_D A (wv z ad104 E105 M104) := by rw [eE105]; exact hD
    have hgw105 : Gw E104 E105 := by rw [eE105]; exact gw_ref _ _ _ _
    have hE0 : nE E0 ≤ nE E105 := Nat.le_trans hE0 hgw105.1
    have h_p0 : isO 7 E105 p0 := isO_up hgw105 h_p0
    refine W.eq (g2 := F0 m 28 ls []) rfl ?_
    refine lv_aload_n hx hb d_9_1_28 rfl (lv_at hl 0 rfl) ?_
    obtain ⟨p106, ep106, h⟩ := nb_e h
    obtain ⟨E106, eE106, h⟩ := nb_e h
    obtain ⟨M106, eM106, h⟩ := nb_e h
    refine m_newO (ci := 4) (C := "Ballothall$Division") (T := TX4) (n := 8) hx hb hts iX4 tyX4_ok hown w_169 w_170 w_6 rfl (fun _ => fsX4) hG hP hD hS hA (show _ ≤ mc by omega) (show _ ≤ ms by omega) d_9_1_29 (fun ad106 H hag106 hP hD hS => ?_)
    have hP : va_P z.1 classes (wv z ad106 E106 M106) H := by rw [eE106, eM106]; exact hP
    have hD : va_D A (wv z ad106 E106 M106) := by rw [eE106, eM106]; exact hD
    refine W.eq (g2 := F0 m 32 ls (.ref (ad106 p106) :: [.ref (ad106 p0)])) (by rw [ep106, hag106 p0 h_p0.1] <;> rfl) ?_
    have hl : lv_has ls 2 [(0, .ref (ad106 p0))] := by rw [hag106 p0 h_p0.1]; exact hl
    have hgw106 : Gw E105 E106 := by rw [eE106]; exact gw_new _ _
    have hag0 : ∀ i, i < nE E0 → ad106 i = ad0 i := fun i hi => (hag106 i (Nat.lt_of_lt_of_le hi hE0)).trans (hag0 i hi)
    have hE0 : nE E0 ≤ nE E106 := Nat.le_trans hE0 hgw106.1
    have h_p0 : isO 7 E106 p0 := isO_up hgw106 h_p0
    have h_p106 : isO 4 E106 p106 := by rw [ep106, eE106]; exact ⟨new_i _ _, new_T _ _⟩
    refine lv_dup hx hb d_9_1_32 rfl ?_
    obtain ⟨⟨E107, M107⟩, g107, h⟩ := bd_e h
    obtain ⟨hgw107, h⟩ := ck_e h
    refine kIN (As := []) (rest := [.ref (ad106 p106), .ref (ad106 p0)]) (s_Di_init l z ad106 E106 M106 p106 E107 M107 g107) hx hb hml hown hts w_173 n_171 w_172 rfl w_6 md_813ec5 ⟨Nat.le_of_ble_eq_true rfl, Nat.le_of_ble_eq_true rfl⟩ hG hZ hP hD hS hA rfl hl.1 rfl (Nat.le_of_ble_eq_true rfl) d_9_1_33 ⟨(show _ ≤ mc by omega), (show _ ≤ ms by omega)⟩ (fun u107 H locs hP hD hS => ?_)
    obtain ⟨ad107, had107⟩ : ∃ q, q = adj E106 ad106 u107 := ⟨_, rfl⟩
    have hP : va_P z.1 classes (wv z ad107 E107 M107) H := by rw [had107]; exact hP
    have hD : va_D A (wv z ad107 E107 M107) := by rw [had107]; exact hD
    have hag107 : ∀ i, i < nE E106 → ad107 i = ad106 i := fun i hi => by rw [had107]; exact adj_lt hi
    have hl : lv_has ls 2 [(0, .ref (ad107 p0))] := by rw [hag107 p0 h_p0.1]; exact hl
    refine W.eq (g2 := F0 m 36 ls [.ref (ad107 p106), .ref (ad107 p0)]) (by rw [hag107 p106 h_p106.1, hag107 p0 h_p0.1] <;> rfl) ?_
    have hag0 : ∀ i, i < nE E0 → ad107 i = ad0 i := fun i hi => (hag107 i (Nat.lt_of_lt_of_le hi hE0)).trans (hag0 i hi)
    have hE0 : nE E0 ≤ nE E107 := Nat.le_trans hE0 hgw107.1
    have h_p0 : isO 7 E107 p0 := isO_up hgw107 h_p0
    have h_p106 : isO 4 E107 p106 := isO_up hgw107 h_p106
    obtain ⟨E108, eE108, h⟩ := nb_e h
    refine m_prF (C := "Ballothall$Lists") (T := TX7) (N := 11) (ci := 7) (k := 4) (ty := (.object "Ballothall$Division")) hx hb hts iX7 hown hG hP hD hS h_p0.1 h_p0.2 rfl (by decide) w_249 (fun _ h9 => h9) rfl rfl tyX7_ok nmX7 rfl hin rfl (by decide +kernel) h_p106.1 (fun _ => rfl) (fun _ => rfl) d_9_1_36 (fun H locs hP hD hS => ?_)
    have hP : va_P z.1 classes (wv z ad107 E108 M107) H := by rw [eE108]; exact hP
    have hD : va_D A (wv z ad107 E108 M107) := by rw [eE108]; exact hD
    have hgw108 : Gw E107 E108 := by rw [eE108]; exact gw_ref _ _ _ _
    have hE0 : nE E0 ≤ nE E108 := Nat.le_trans hE0 hgw108.1
    have h_p0 : isO 7 E108 p0 := isO_up hgw108 h_p0
    refine W.eq (g2 := F0 m 39 ls []) rfl ?_
    refine lv_aload_n hx hb d_9_1_39 rfl (lv_at hl 0 rfl) ?_
    obtain ⟨p109, ep109, h⟩ := nb_e h
    obtain ⟨E109, eE109, h⟩ := nb_e h
    obtain ⟨M109, eM109, h⟩ := nb_e h
    refine m_newO (ci := 4) (C := "Ballothall$Division") (T := TX4) (n := 8) hx hb hts iX4 tyX4_ok hown w_169 w_170 w_6 rfl (fun _ => fsX4) hG hP hD hS hA (show _ ≤ mc by omega) (show _ ≤ ms by omega) d_9_1_40 (fun ad109 H hag109 hP hD hS => ?_)
    have hP : va_P z.1 classes (wv z ad109 E109 M109) H := by rw [eE109, eM109]; exact hP
    have hD : va_D A (wv z ad109 E109 M109) := by rw [eE109, eM109]; exact hD
    refine W.eq (g2 := F0 m 43 ls (.ref (ad109 p109) :: [.ref (ad109 p0)])) (by rw [ep109, hag109 p0 h_p0.1] <;> rfl) ?_
    have hl : lv_has ls 2 [(0, .ref (ad109 p0))] := by rw [hag109 p0 h_p0.1]; exact hl
    have hgw109 : Gw E108 E109 := by rw [eE109]; exact gw_new _ _
    have hag0 : ∀ i, i < nE E0 → ad109 i = ad0 i := fun i hi => (hag109 i (Nat.lt_of_lt_of_le hi hE0)).trans (hag0 i hi)
    have hE0 : nE E0 ≤ nE E109 := Nat.le_trans hE0 hgw109.1
    have h_p0 : isO 7 E109 p0 := isO_up hgw109 h_p0
    have h_p109 : isO 4 E109 p109 := by rw [ep109, eE109]; exact ⟨new_i _ _, new_T _ _⟩
    refine lv_dup hx hb d_9_1_43 rfl ?_
    obtain ⟨⟨E110, M110⟩, g110, h⟩ := bd_e h
    obtain ⟨hgw110, h⟩ := ck_e h
    refine kIN (As := []) (rest := [.ref (ad109 p109), .ref (ad109 p0)]) (s_Di_init l z ad109 E109 M109 p109 E110 M110 g110) hx hb hml hown hts w_173 n_171 w_172 rfl w_6 md_813ec5 ⟨Nat.le_of_ble_eq_true rfl, Nat.le_of_ble_eq_true rfl⟩ hG hZ hP hD hS hA rfl hl.1 rfl (Nat.le_of_ble_eq_true rfl) d_9_1_44 ⟨(show _ ≤ mc by omega), (show _ ≤ ms by omega)⟩ (fun u110 H locs hP hD hS => ?_)
    obtain ⟨ad110, had110⟩ : ∃ q, q = adj E109 ad109 u110 := ⟨_, rfl⟩
    have hP : va_P z.1 classes (wv z ad110 E110 M110) H := by rw [had110]; exact hP
    have hD : va_D A (wv z ad110 E110 M110) := by rw [had110]; exact hD
    have hag110 : ∀ i, i < nE E109 → ad110 i = ad109 i := fun i hi => by rw [had110]; exact adj_lt hi
    have hl : lv_has ls 2 [(0, .ref (ad110 p0))] := by rw [hag110 p0 h_p0.1]; exact hl
    refine W.eq (g2 := F0 m 47 ls [.ref (ad110 p109), .ref (ad110 p0)]) (by rw [hag110 p109 h_p109.1, hag110 p0 h_p0.1] <;> rfl) ?_
    have hag0 : ∀ i, i < nE E0 → ad110 i = ad0 i := fun i hi => (hag110 i (Nat.lt_of_lt_of_le hi hE0)).trans (hag0 i hi)
    have hE0 : nE E0 ≤ nE E110 := Nat.le_trans hE0 hgw110.1
    have h_p0 : isO 7 E110 p0 := isO_up hgw110 h_p0
    have h_p109 : isO 4 E110 p109 := isO_up hgw110 h_p109
    obtain ⟨E111, eE111, h⟩ := nb_e h
    refine m_prF (C := "Ballothall$Lists") (T := TX7) (N := 11) (ci := 7) (k := 5) (ty := (.object "Ballothall$Division")) hx hb hts iX7 hown hG hP hD hS h_p0.1 h_p0.2 rfl (by decide) w_250 (fun _ h9 => h9) rfl rfl tyX7_ok nmX7 rfl hin rfl (by decide +kernel) h_p109.1 (fun _ => rfl) (fun _ => rfl) d_9_1_47 (fun H locs hP hD hS => ?_)
    have hP : va_P z.1 classes (wv z ad110 E111 M110) H := by rw [eE111]; exact hP
    have hD : va_D A (wv z ad110 E111 M110) := by rw [eE111]; exact hD
    have hgw111 : Gw E110 E111 := by rw [eE111]; exact gw_ref _ _ _ _
    have hE0 : nE E0 ≤ nE E111 := Nat.le_trans hE0 hgw111.1
    have h_p0 : isO 7 E111 p0 := isO_up hgw111 h_p0
    refine W.eq (g2 := F0 m 50 ls []) rfl ?_
    refine lv_aload_n hx hb d_9_1_50 rfl (lv_at hl 0 rfl) ?_
    refine lv_bipush (v := oI 8) hx hb d_9_1_51 (by decide +kernel) ?_
    obtain ⟨p112, ep112, h⟩ := nb_e h
    obtain ⟨E112, eE112, h⟩ := nb_e h
    obtain ⟨M112, eM112, h⟩ := nb_e h
    refine m_newI (x := (8 : Int)) (N := 8) hx hb (by decide) (by decide) (by decide) (hts _ w_100) hG hP hD hS hA (show _ ≤ mc by omega) (show _ ≤ ms by omega) d_9_1_53 (fun ad112 H hag112 hP hD hS => ?_)
    have hP : va_P z.1 classes (wv z ad112 E112 M112) H := by rw [eE112, eM112]; exact hP
    have hD : va_D A (wv z ad112 E112 M112) := by rw [eE112, eM112]; exact hD
    refine W.eq (g2 := F0 m 55 ls (.ref (ad112 p112) :: [.ref (ad112 p0)])) (by rw [ep112, hag112 p0 h_p0.1] <;> rfl) ?_
    have hl : lv_has ls 2 [(0, .ref (ad112 p0))] := by rw [hag112 p0 h_p0.1]; exact hl
    have hgw112 : Gw E111 E112 := by rw [eE112]; exact gw_new _ _
    have hag0 : ∀ i, i < nE E0 → ad112 i = ad0 i := fun i hi => (hag112 i (Nat.lt_of_lt_of_le hi hE0)).trans (hag0 i hi)
    have hE0 : nE E0 ≤ nE E112 := Nat.le_trans hE0 hgw112.1
    have h_p0 : isO 7 E112 p0 := isO_up hgw112 h_p0
    have h_p112 : isIA E112 p112 := by rw [ep112, eE112]; exact ⟨new_i _ _, by rw [new_T]⟩
    obtain ⟨E113, eE113, h⟩ := nb_e h
    refine m_prF (C := "Ballothall$Lists") (T := TX7) (N := 11) (ci := 7) (k := 7) (ty := (.array .int)) hx hb hts iX7 hown hG hP hD hS h_p0.1 h_p0.2 rfl (by decide) w_252 (fun _ h9 => h9) rfl rfl tyX7_ok nmX7 rfl hin rfl (by decide +kernel) h_p112.1 (fun _ => rfl) (fun _ => rfl) d_9_1_55 (fun H locs hP hD hS => ?_)
    have hP : va_P z.1 classes (wv z ad112 E113 M112) H := by rw [eE113]; exact hP
    have hD : va_D A (wv z ad112 E113 M112) := by rw [eE113]; exact hD
    have hgw113 : Gw E112 E113 := by rw [eE113]; exact gw_ref _ _ _ _
    have hE0 : nE E0 ≤ nE E113 := Nat.le_trans hE0 hgw113.1
    have h_p0 : isO 7 E113 p0 := isO_up hgw113 h_p0
    refine W.eq (g2 := F0 m 58 ls []) rfl ?_
    refine lv_aload_n hx hb d_9_1_58 rfl (lv_at hl 0 rfl) ?_
    refine lv_bipush (v := oI 8) hx hb d_9_1_59 (by decide +kernel) ?_
    obtain ⟨p114, ep114, h⟩ := nb_e h
    obtain ⟨E114, eE114, h⟩ := nb_e h
    obtain ⟨M114, eM114, h⟩ := nb_e h
    refine m_newI (x := (8 : Int)) (N := 8) hx hb (by decide) (by decide) (by decide) (hts _ w_100) hG hP hD hS hA (show _ ≤ mc by omega) (show _ ≤ ms by omega) d_9_1_61 (fun ad114 H hag114 hP hD hS => ?_)
    have hP : va_P z.1 classes (wv z ad114 E114 M114) H := by rw [eE114, eM114]; exact hP
    have hD : va_D A (wv z ad114 E114 M114) := by rw [eE114, eM114]; exact hD
    refine W.eq (g2 := F0 m 63 ls (.ref (ad114 p114) :: [.ref (ad114 p0)])) (by rw [ep114, hag114 p0 h_p0.1] <;> rfl) ?_
    have hl : lv_has ls 2 [(0, .ref (ad114 p0))] := by rw [hag114 p0 h_p0.1]; exact hl
    have hgw114 : Gw E113 E114 := by rw [eE114]; exact gw_new _ _
    have hag0 : ∀ i, i < nE E0 → ad114 i = ad0 i := fun i hi => (hag114 i (Nat.lt_of_lt_of_le hi hE0)).trans (hag0 i hi)
    have hE0 : nE E0 ≤ nE E114 := Nat.le_trans hE0 hgw114.1
    have h_p0 : isO 7 E114 p0 := isO_up hgw114 h_p0
    have h_p114 : isIA E114 p114 := by rw [ep114, eE114]; exact ⟨new_i _ _, by rw [new_T]⟩
    obtain ⟨E115, eE115, h⟩ := nb_e h
    refine m_prF (C := "Ballothall$Lists") (T := TX7) (N := 11) (ci := 7) (k := 8) (ty := (.array .int)) hx hb hts iX7 hown hG hP hD hS h_p0.1 h_p0.2 rfl (by decide) w_253 (fun _ h9 => h9) rfl rfl tyX7_ok nmX7 rfl hin rfl (by decide +kernel) h_p114.1 (fun _ => rfl) (fun _ => rfl) d_9_1_63 (fun H locs hP hD hS => ?_)
    have hP : va_P z.1 classes (wv z ad114 E115 M114) H := by rw [eE115]; exact hP
    have hD : va_D A (wv z ad114 E115 M114) := by rw [eE115]; exact hD
    have hgw115 : Gw E114 E115 := by rw [eE115]; exact gw_ref _ _ _ _
    have hE0 : nE E0 ≤ nE E115 := Nat.le_trans hE0 hgw115.1
    have h_p0 : isO 7 E115 p0 := isO_up hgw115 h_p0
    refine W.eq (g2 := F0 m 66 ls []) rfl ?_
    refine lv_aload_n hx hb d_9_1_66 rfl (lv_at hl 0 rfl) ?_
    refine lv_bipush (v := oI 21) hx hb d_9_1_67 (by decide +kernel) ?_
    obtain ⟨p116, ep116, h⟩ := nb_e h
    obtain ⟨E116, eE116, h⟩ := nb_e h
    obtain ⟨M116, eM116, h⟩ := nb_e h
    refine m_newq (C := "Ballothall$KeptSeats") (t := 3) (x := (21 : Int)) (N := 21) hx hb (by decide) (by decide) (by decide) hown (hts _ w_205) (by decide) rfl (fun _ h => ty_eq3 h) hG hP hD hS hA (show _ ≤ mc by omega) (show _ ≤ ms by omega) d_9_1_69 (fun ad116 H hag116 hP hD hS => ?_)
    have hP : va_P z.1 classes (wv z ad116 E116 M116) H := by rw [eE116, eM116]; exact hP
    have hD : va_D A (wv z ad116 E116 M116) := by rw [eE116, eM116]; exact hD
    refine W.eq (g2 := F0 m 72 ls (.ref (ad116 p116) :: [.ref (ad116 p0)])) (by rw [ep116, hag116 p0 h_p0.1] <;> rfl) ?_
    have hl : lv_has ls 2 [(0, .ref (ad116 p0))] := by rw [hag116 p0 h_p0.1]; exact hl
    have hgw116 : Gw E115 E116 := by rw [eE116]; exact gw_new _ _
    have hag0 : ∀ i, i < nE E0 → ad116 i = ad0 i := fun i hi => (hag116 i (Nat.lt_of_lt_of_le hi hE0)).trans (hag0 i hi)
    have hE0 : nE E0 ≤ nE E116 := Nat.le_trans hE0 hgw116.1
    have h_p0 : isO 7 E116 p0 := isO_up hgw116 h_p0
    have h_p116 : isQ 3 E116 p116 := by rw [ep116, eE116]; exact ⟨new_i _ _, by rw [new_T]⟩
    obtain ⟨E117, eE117, h⟩ := nb_e h
    refine m_prF (C := "Ballothall$Lists") (T := TX7) (N := 11) (ci := 7) (k := 9) (ty := (.array (.object "Ballothall$KeptSeats"))) hx hb hts iX7 hown hG hP hD hS h_p0.1 h_p0.2 rfl (by decide) w_254 (fun _ h9 => h9) rfl rfl tyX7_ok nmX7 rfl hin rfl (by decide +kernel) h_p116.1 (fun _ => rfl) (fun _ => rfl) d_9_1_72 (fun H locs hP hD hS => ?_)
    have hP : va_P z.1 classes (wv z ad116 E117 M116) H := by rw [eE117]; exact hP
    have hD : va_D A (wv z ad116 E117 M116) := by rw [eE117]; exact hD
    have hgw117 : Gw E116 E117 := by rw [eE117]; exact gw_ref _ _ _ _
    have hE0 : nE E0 ≤ nE E117 := Nat.le_trans hE0 hgw117.1
    have h_p0 : isO 7 E117 p0 := isO_up hgw117 h_p0
    refine W.eq (g2 := F0 m 75 ls []) rfl ?_
    refine lv_iconst (v := oI 0) hx hb d_9_1_75 (by decide +kernel) ?_
    refine lv_istore_n (lv' := [(1, .int (oI 0)), (0, .ref (ad116 p0))]) hx hb d_9_1_76 rfl hl (by decide) rfl (fun ls hl => ?_)
    obtain ⟨⟨t124, v124_1, E124, M124⟩, g124, h⟩ := bd_e h
    obtain ⟨hgw124, h⟩ := ck_e h
    obtain ⟨ok124, h⟩ := ck_e h
    refine s_Li_init_77 l z E117 ad116 p0 hx hb hml hts hown hlocks hA hG hZ mc ms (c0 + 180) (s0 + 3191) (by omega) (by omega) 32 _ _ ad116 E117 M116 0 t124 v124_1 E124 M124 (by omega) (by omega) (fun _ _ => rfl) (Nat.le_refl _) g124 (fun ad124 hag124 hEE124 e124 H locs ls hP hD hS hl => ?_) H locs ls hP hD hS (lv_sub hl [1, 0] rfl)
    have hag0 : ∀ i, i < nE E0 → ad124 i = ad0 i := fun i hi => (hag124 i (Nat.lt_of_lt_of_le hi hE0)).trans (hag0 i hi)
    have hE0 : nE E0 ≤ nE E124 := Nat.le_trans hE0 hgw124.1
    refine W.wide (k := c1) (n := s1) (by omega) (by omega) ?_
    obtain ⟨rfl, rfl⟩ := in2 h
    exact W.vret hx hb hr (fun t ht hW => qkA hP hD hS ad124 (congrArg (fun q => wv z q E124 M124) (adj_self hag0).symm) rfl ht) hS.2.2 d_9_1_102
  exact key E ad 180 3191 0 0 180 3191 _ _ _ (by decide) (by decide) (by decide) (by decide) (fun _ _ => rfl) (Nat.le_refl _) hts hP hS
set_option maxRecDepth 100000 in
set_option maxHeartbeats 4000000 in
theorem s_Na_init (l : Launch) (z : Zz) (ad : Nat → Nat) (E : Ev) (M : Mm) (p0 : Nat) (F : Ev) (N : Mm) (h : f_Na_init E M p0 = some (F, N)) : CT l z ⟨"Ballothall$Natural", "<init>", "()V"⟩ prog_10_method_1_code 1 none [.ref (ad p0)] (wv z ad E M) 1 40 1 13 (fun u => none) (fun u => wv z (adj E ad u) F N) := by
  refine CT.of (own := "Ballothall$Natural") (by decide +kernel) (Nat.le_of_ble_eq_true rfl) rfl (fun p e s m below meth c A ls hx hb hml hr hts hown hlocks hin hA hG hZ hP hD hS hl => ?_)
  have hl : lv_has ls 1 [(0, .ref (ad p0))] := hl
  have key : ∀ (E0 : Ev) (ad0 : Nat → Nat) (mc ms c0 s0 c1 s1 : Nat) (H : Heap) (locs : List Loc) (args : Array Value), c0 + 1 ≤ c1 → s0 + 13 ≤ s1 → c1 ≤ mc → s1 ≤ ms → (∀ i, i < nE E0 → ad i = ad0 i) → nE E0 ≤ nE E → (∀ w ∈ WG, w.before args s = true) → va_P z.1 classes (wv z ad E M) H → va_S A s.heap H locs → W p l e (rmK 1 40 mc ms) s m args below meth c H locs c0 s0 (MQ below (QK z A (fun u => none) (fun u => wv z (adj E0 ad0 u) F N)) args s c1 s1 A) (F0 m 0 ls []) := by
    intro E0 ad0 mc ms c0 s0 c1 s1 H locs args hc hs hm hm2 hag0 hE0 hts hP hS
    unfold f_Na_init at h
    obtain ⟨h_p0, h⟩ := ck_e h
    refine lv_aload_n hx hb d_10_1_0 rfl (lv_at hl 0 rfl) ?_
    refine W.objInit hx hb hown (hts _ w_293) (hts _ w_38) (hts _ w_obj) rfl (by rw [hml]; exact hl.1) rfl d_10_1_1 (Nat.le_of_ble_eq_true rfl) (Nat.le_of_ble_eq_true rfl) ?_
    refine W.eq (g2 := F0 m 4 ls []) rfl ?_
    refine lv_aload_n hx hb d_10_1_4 rfl (lv_at hl 0 rfl) ?_
    refine lv_bipush (v := oI 13) hx hb d_10_1_5 (by decide +kernel) ?_
    obtain ⟨p100, ep100, h⟩ := nb_e h
    obtain ⟨E100, eE100, h⟩ := nb_e h
    obtain ⟨M100, eM100, h⟩ := nb_e h
    refine m_newI (x := (13 : Int)) (N := 13) hx hb (by decide) (by decide) (by decide) (hts _ w_100) hG hP hD hS hA (show _ ≤ mc by omega) (show _ ≤ ms by omega) d_10_1_7 (fun ad100 H hag100 hP hD hS => ?_)
    have hP : va_P z.1 classes (wv z ad100 E100 M100) H := by rw [eE100, eM100]; exact hP
    have hD : va_D A (wv z ad100 E100 M100) := by rw [eE100, eM100]; exact hD
    refine W.eq (g2 := F0 m 9 ls (.ref (ad100 p100) :: [.ref (ad100 p0)])) (by rw [ep100, hag100 p0 h_p0.1] <;> rfl) ?_
    have hl : lv_has ls 1 [(0, .ref (ad100 p0))] := by rw [hag100 p0 h_p0.1]; exact hl
    have hgw100 : Gw E E100 := by rw [eE100]; exact gw_new _ _
    have hag0 : ∀ i, i < nE E0 → ad100 i = ad0 i := fun i hi => (hag100 i (Nat.lt_of_lt_of_le hi hE0)).trans (hag0 i hi)
    have hE0 : nE E0 ≤ nE E100 := Nat.le_trans hE0 hgw100.1
    have h_p0 : isO 8 E100 p0 := isO_up hgw100 h_p0
    have h_p100 : isIA E100 p100 := by rw [ep100, eE100]; exact ⟨new_i _ _, by rw [new_T]⟩
    obtain ⟨E101, eE101, h⟩ := nb_e h
    refine m_prF (C := "Ballothall$Natural") (T := TX8) (N := 2) (ci := 8) (k := 0) (ty := (.array .int)) hx hb hts iX8 hown hG hP hD hS h_p0.1 h_p0.2 rfl (by decide) w_294 (fun _ h9 => h9) rfl rfl tyX8_ok nmX8 rfl hin rfl (by decide +kernel) h_p100.1 (fun _ => rfl) (fun _ => rfl) d_10_1_9 (fun H locs hP hD hS => ?_)
    have hP : va_P z.1 classes (wv z ad100 E101 M100) H := by rw [eE101]; exact hP
    have hD : va_D A (wv z ad100 E101 M100) := by rw [eE101]; exact hD
    have hgw101 : Gw E100 E101 := by rw [eE101]; exact gw_ref _ _ _ _
    have hE0 : nE E0 ≤ nE E101 := Nat.le_trans hE0 hgw101.1
    have h_p0 : isO 8 E101 p0 := isO_up hgw101 h_p0
    refine W.eq (g2 := F0 m 12 ls []) rfl ?_
    refine W.wide (k := c1) (n := s1) (by omega) (by omega) ?_
    obtain ⟨rfl, rfl⟩ := in2 h
    exact W.vret hx hb hr (fun t ht hW => qkA hP hD hS ad100 (congrArg (fun q => wv z q E101 M100) (adj_self hag0).symm) rfl ht) hS.2.2 d_10_1_12
  exact key E ad 1 13 0 0 1 13 _ _ _ (by decide) (by decide) (by decide) (by decide) (fun _ _ => rfl) (Nat.le_refl _) hts hP hS
