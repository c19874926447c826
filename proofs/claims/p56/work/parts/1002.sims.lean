set_option maxRecDepth 100000 in
set_option maxHeartbeats 4000000 in
theorem s_Lb_init (l : Launch) (z : Zz) (ad : Nat → Nat) (E : Ev) (M : Mm) (p0 : Nat) (x1 : Int) (F : Ev) (N : Mm) (h : f_Lb_init E M p0 x1 = some (F, N)) : CT l z ⟨"BallothallLaw$Box", "<init>", "(I)V"⟩ prog_14_method_1_code 2 none [.ref (ad p0), .int (oI x1)] (wv z ad E M) 1 40 2 24 (fun u => none) (fun u => wv z (adj E ad u) F N) := by
  refine CT.of (own := "BallothallLaw$Box") (by decide +kernel) (Nat.le_of_ble_eq_true rfl) rfl (fun p e s m below meth c A ls hx hb hml hr hts hown hlocks hin hA hG hZ hP hD hS hl => ?_)
  have hl : lv_has ls 2 [(0, .ref (ad p0)), (1, .int (oI x1))] := hl
  have key : ∀ (E0 : Ev) (ad0 : Nat → Nat) (mc ms c0 s0 c1 s1 : Nat) (H : Heap) (locs : List Loc) (args : Array Value), c0 + 2 ≤ c1 → s0 + 24 ≤ s1 → c1 ≤ mc → s1 ≤ ms → (∀ i, i < nE E0 → ad i = ad0 i) → nE E0 ≤ nE E → (∀ w ∈ WG, w.before args s = true) → va_P z.1 classes (wv z ad E M) H → va_S A s.heap H locs → W p l e (rmK 1 40 mc ms) s m args below meth c H locs c0 s0 (MQ below (QK z A (fun u => none) (fun u => wv z (adj E0 ad0 u) F N)) args s c1 s1 A) (F0 m 0 ls []) := by
    intro E0 ad0 mc ms c0 s0 c1 s1 H locs args hc hs hm hm2 hag0 hE0 hts hP hS
    unfold f_Lb_init at h
    obtain ⟨h_p0, h⟩ := ck_e h
    refine lv_aload_n hx hb d_14_1_0 rfl (lv_at hl 0 rfl) ?_
    refine W.objInit hx hb hown (hts _ w_772) (hts _ w_38) (hts _ w_obj) rfl (by rw [hml]; exact hl.1) rfl d_14_1_1 (Nat.le_of_ble_eq_true rfl) (Nat.le_of_ble_eq_true rfl) ?_
    refine W.eq (g2 := F0 m 4 ls []) rfl ?_
    refine lv_aload_n hx hb d_14_1_4 rfl (lv_at hl 0 rfl) ?_
    refine lv_bipush (v := oI 12) hx hb d_14_1_5 (by decide +kernel) ?_
    obtain ⟨p100, ep100, h⟩ := nb_e h
    obtain ⟨E100, eE100, h⟩ := nb_e h
    obtain ⟨M100, eM100, h⟩ := nb_e h
    refine m_newA (x := (12 : Int)) (N := 12) hx hb (by decide) (by decide) (by decide) hown (hts _ w_773) hG hP hD hS hA (show _ ≤ mc by omega) (show _ ≤ ms by omega) d_14_1_7 (fun ad100 H hag100 hP hD hS => ?_)
    have hP : va_P z.1 classes (wv z ad100 E100 M100) H := by rw [eE100, eM100]; exact hP
    have hD : va_D A (wv z ad100 E100 M100) := by rw [eE100, eM100]; exact hD
    refine W.eq (g2 := F0 m 10 ls (.ref (ad100 p100) :: [.ref (ad100 p0)])) (by rw [ep100, hag100 p0 h_p0.1] <;> rfl) ?_
    have hl : lv_has ls 2 [(0, .ref (ad100 p0)), (1, .int (oI x1))] := by rw [hag100 p0 h_p0.1]; exact hl
    have hgw100 : Gw E E100 := by rw [eE100]; exact gw_new _ _
    have hag0 : ∀ i, i < nE E0 → ad100 i = ad0 i := fun i hi => (hag100 i (Nat.lt_of_lt_of_le hi hE0)).trans (hag0 i hi)
    have hE0 : nE E0 ≤ nE E100 := Nat.le_trans hE0 hgw100.1
    have h_p0 : isO 12 E100 p0 := isO_up hgw100 h_p0
    have h_p100 : isQ 6 E100 p100 := by rw [ep100, eE100]; exact ⟨new_i _ _, by rw [new_T]⟩
    obtain ⟨E101, eE101, h⟩ := nb_e h
    refine m_prF (C := "BallothallLaw$Box") (T := TX12) (N := 4) (ci := 12) (k := 1) (ty := (.array (.array .int))) hx hb hts iX12 hown hG hP hD hS h_p0.1 h_p0.2 rfl (by decide) w_776 (fun _ h9 => h9) rfl rfl tyX12_ok nmX12 rfl hin rfl (by decide +kernel) h_p100.1 (fun _ => rfl) (fun _ => rfl) d_14_1_10 (fun H locs hP hD hS => ?_)
    have hP : va_P z.1 classes (wv z ad100 E101 M100) H := by rw [eE101]; exact hP
    have hD : va_D A (wv z ad100 E101 M100) := by rw [eE101]; exact hD
    have hgw101 : Gw E100 E101 := by rw [eE101]; exact gw_ref _ _ _ _
    have hE0 : nE E0 ≤ nE E101 := Nat.le_trans hE0 hgw101.1
    have h_p0 : isO 12 E101 p0 := isO_up hgw101 h_p0
    refine W.eq (g2 := F0 m 13 ls []) rfl ?_
    refine lv_aload_n hx hb d_14_1_13 rfl (lv_at hl 0 rfl) ?_
    refine lv_bipush (v := oI 12) hx hb d_14_1_14 (by decide +kernel) ?_
    obtain ⟨p102, ep102, h⟩ := nb_e h
    obtain ⟨E102, eE102, h⟩ := nb_e h
    obtain ⟨M102, eM102, h⟩ := nb_e h
    refine m_newI (x := (12 : Int)) (N := 12) hx hb (by decide) (by decide) (by decide) (hts _ w_100) hG hP hD hS hA (show _ ≤ mc by omega) (show _ ≤ ms by omega) d_14_1_16 (fun ad102 H hag102 hP hD hS => ?_)
    have hP : va_P z.1 classes (wv z ad102 E102 M102) H := by rw [eE102, eM102]; exact hP
    have hD : va_D A (wv z ad102 E102 M102) := by rw [eE102, eM102]; exact hD
    refine W.eq (g2 := F0 m 18 ls (.ref (ad102 p102) :: [.ref (ad102 p0)])) (by rw [ep102, hag102 p0 h_p0.1] <;> rfl) ?_
    have hl : lv_has ls 2 [(0, .ref (ad102 p0)), (1, .int (oI x1))] := by rw [hag102 p0 h_p0.1]; exact hl
    have hgw102 : Gw E101 E102 := by rw [eE102]; exact gw_new _ _
    have hag0 : ∀ i, i < nE E0 → ad102 i = ad0 i := fun i hi => (hag102 i (Nat.lt_of_lt_of_le hi hE0)).trans (hag0 i hi)
    have hE0 : nE E0 ≤ nE E102 := Nat.le_trans hE0 hgw102.1
    have h_p0 : isO 12 E102 p0 := isO_up hgw102 h_p0
    have h_p102 : isIA E102 p102 := by rw [ep102, eE102]; exact ⟨new_i _ _, by rw [new_T]⟩
    obtain ⟨E103, eE103, h⟩ := nb_e h
    refine m_prF (C := "BallothallLaw$Box") (T := TX12) (N := 4) (ci := 12) (k := 2) (ty := (.array .int)) hx hb hts iX12 hown hG hP hD hS h_p0.1 h_p0.2 rfl (by decide) w_778 (fun _ h9 => h9) rfl rfl tyX12_ok nmX12 rfl hin rfl (by decide +kernel) h_p102.1 (fun _ => rfl) (fun _ => rfl) d_14_1_18 (fun H locs hP hD hS => ?_)
    have hP : va_P z.1 classes (wv z ad102 E103 M102) H := by rw [eE103]; exact hP
    have hD : va_D A (wv z ad102 E103 M102) := by rw [eE103]; exact hD
    have hgw103 : Gw E102 E103 := by rw [eE103]; exact gw_ref _ _ _ _
    have hE0 : nE E0 ≤ nE E103 := Nat.le_trans hE0 hgw103.1
    have h_p0 : isO 12 E103 p0 := isO_up hgw103 h_p0
    refine W.eq (g2 := F0 m 21 ls []) rfl ?_
    refine lv_aload_n hx hb d_14_1_21 rfl (lv_at hl 0 rfl) ?_
    refine lv_iload_n hx hb d_14_1_22 rfl (lv_at hl 1 rfl) ?_
    refine m_piF (C := "BallothallLaw$Box") (T := TX12) (N := 4) (ci := 12) (k := 0) (ty := .int) hx hb hts iX12 hown hG hP hD hS h_p0.1 h_p0.2 rfl (by decide) w_774 (fun _ h9 => h9) rfl rfl tyX12_ok nmX12 rfl hin rfl (by decide +kernel) rfl rfl d_14_1_23 (fun H locs hP hD hS => ?_)
    have hP : va_P z.1 classes (wv z ad102 E103 (u2 M102 p0 0 x1)) H := hP
    have hD : va_D A (wv z ad102 E103 (u2 M102 p0 0 x1)) := hD
    refine W.wide (k := c1) (n := s1) (by omega) (by omega) ?_
    obtain ⟨rfl, rfl⟩ := in2 h
    exact W.vret hx hb hr (fun t ht hW => qkA hP hD hS ad102 (congrArg (fun q => wv z q E103 (u2 M102 p0 0 x1)) (adj_self hag0).symm) rfl ht) hS.2.2 d_14_1_26
  exact key E ad 2 24 0 0 2 24 _ _ _ (by decide) (by decide) (by decide) (by decide) (fun _ _ => rfl) (Nat.le_refl _) hts hP hS
set_option maxRecDepth 100000 in
set_option maxHeartbeats 4000000 in
theorem s_B_needRoom (l : Launch) (z : Zz) (ad : Nat → Nat) (E : Ev) (M : Mm) (x0 : Int) (x1 : Int)  (hL : Lay E) (h : f_B_needRoom E M x0 x1 = some ()) : CT l z ⟨"Ballothall", "needRoom", "(II)V"⟩ prog_1_method_58_code 2 none [.int (oI x0), .int (oI x1)] (wv z ad E M) 0 20 0 0 (fun _ => none) (fun _ => (wv z ad E M)) := by
  refine CT.of (own := "Ballothall") (by decide +kernel) (Nat.le_of_ble_eq_true rfl) rfl (fun p e s m below meth c A ls hx hb hml hr hts hown hlocks hin hA hG hZ hP hD hS hl => ?_)
  have hl : lv_has ls 2 [(0, .int (oI x0)), (1, .int (oI x1))] := hl
  have key : ∀ (H : Heap) (locs : List Loc) (args : Array Value), (∀ w ∈ WG, w.before args s = true) → va_P z.1 classes (wv z ad E M) H → va_S A s.heap H locs → W p l e (rmK 0 20 0 0) s m args below meth c H locs 0 0 (MQ below (QK z A (fun _ => none) (fun _ => (wv z ad E M))) args s 0 0 A) (F0 m 0 ls []) := by
    intro H locs args hts hP hS
    unfold f_B_needRoom at h
    refine lv_iload_n hx hb d_1_58_0 rfl (lv_at hl 0 rfl) ?_
    refine lv_iload_n hx hb d_1_58_1 rfl (lv_at hl 1 rfl) ?_
    obtain ⟨ok100, h⟩ := ck_e h
    obtain ⟨ok101, h⟩ := ck_e h
    refine lv_icmp_le (tgt := 16) hx hb d_1_58_2 (by decide) (fun c9 => ?_) (fun c9 => ?_)
    · have h := ite_t ((oI_le (a := x0) (b := x1) ok100 ok101).mp c9) h
      clear h
      exact W.vret hx hb hr (fun t ht hW => qkA hP hD hS (fun k => k) rfl rfl ht) hS.2.2 d_1_58_16
    · have h := ite_f (fun q => c9 ((oI_le (a := x0) (b := x1) ok100 ok101).mpr q)) h
      cases h
  exact key _ _ _ hts hP hS
set_option maxRecDepth 100000 in
set_option maxHeartbeats 4000000 in
theorem s_B_remember (l : Launch) (z : Zz) (ad : Nat → Nat) (E : Ev) (M : Mm) (x1 : Int) (x2 : Int) (x3 : Int) (N : Mm) (hL : Lay E) (h : f_B_remember E M x1 x2 x3 = some N) : CT l z ⟨"Ballothall", "remember", "(III)V"⟩ prog_1_method_61_code 4 none [.ref (ad 1), .int (oI x1), .int (oI x2), .int (oI x3)] (wv z ad E M) 1 40 0 0 (fun _ => none) (fun _ => (wv z ad E N)) := by
  refine CT.of (own := "Ballothall") (by decide +kernel) (Nat.le_of_ble_eq_true rfl) rfl (fun p e s m below meth c A ls hx hb hml hr hts hown hlocks hin hA hG hZ hP hD hS hl => ?_)
  have hl : lv_has ls 4 [(0, .ref (ad 1)), (1, .int (oI x1)), (2, .int (oI x2)), (3, .int (oI x3))] := hl
  have key : ∀ (H : Heap) (locs : List Loc) (args : Array Value), (∀ w ∈ WG, w.before args s = true) → va_P z.1 classes (wv z ad E M) H → va_S A s.heap H locs → W p l e (rmK 1 40 0 0) s m args below meth c H locs 0 0 (MQ below (QK z A (fun _ => none) (fun _ => (wv z ad E N))) args s 0 0 A) (F0 m 0 ls []) := by
    intro H locs args hts hP hS
    unfold f_B_remember at h
    refine lv_aload_n hx hb d_1_61_0 rfl (lv_at hl 0 rfl) ?_
    refine lv_aload_n hx hb d_1_61_1 rfl (lv_at hl 0 rfl) ?_
    refine m_gi (C := "Ballothall") (T := TX11) (N := 14) (ci := 11) (k := 10) hx hb hts iX11 hown hG hP (yi_1 hL) (yt_1 hL) rfl (by decide) w_407 (fun _ h9 => h9) rfl rfl d_1_61_2 ?_
    refine lv_iconst (v := oI 1) hx hb d_1_61_5 (by decide +kernel) ?_
    refine lv_iadd hx hb d_1_61_6 ?_
    refine nrm (oI_add _ _) ?_
    refine lv_bipush (v := oI 20) hx hb d_1_61_7 (by decide +kernel) ?_
    obtain ⟨ok100, h⟩ := ck_e h
    refine lv_irem hx hb d_1_61_9 (oI_nz (show psI 20 by decide).1 (show psI 20 by decide).2) ?_
    refine nrm (oI_rem (a := ((M 1 10) + 1)) (b := (20 : Int)) ok100.1 ok100.2 (show psI 20 by decide).1 (show psI 20 by decide).2) ?_
    refine m_pi (C := "Ballothall") (T := TX11) (N := 14) (ci := 11) (k := 10) (ty := .int) hx hb hts iX11 hown hG hP hD hS (yi_1 hL) (yt_1 hL) rfl (by decide) w_407 (fun _ h9 => h9) rfl rfl tyX11_ok nmX11 rfl (by decide +kernel) rfl rfl d_1_61_10 (fun H locs hP hD hS => ?_)
    have hP : va_P z.1 classes (wv z ad E (u2 M 1 10 (((M 1 10) + 1) % 20))) H := hP
    have hD : va_D A (wv z ad E (u2 M 1 10 (((M 1 10) + 1) % 20))) := hD
    refine lv_aload_n hx hb d_1_61_13 rfl (lv_at hl 0 rfl) ?_
    refine m_gr (j := 246) (C := "Ballothall") (T := TX11) (N := 14) (ci := 11) (k := 7) hx hb hts iX11 hown hG hP (yi_1 hL) (yt_1 hL) rfl (by decide) w_404 (fun _ h9 => h9) rfl rfl (yr_1_7 hL) d_1_61_14 ?_
    refine lv_aload_n hx hb d_1_61_17 rfl (lv_at hl 0 rfl) ?_
    refine m_gi (C := "Ballothall") (T := TX11) (N := 14) (ci := 11) (k := 10) hx hb hts iX11 hown hG hP (yi_1 hL) (yt_1 hL) rfl (by decide) w_407 (fun _ h9 => h9) rfl rfl d_1_61_18 ?_
    refine lv_iload_n hx hb d_1_61_21 rfl (lv_at hl 1 rfl) ?_
    obtain ⟨ok101, h⟩ := ck_e h
    refine m_is hx hb hG hP hD hS (yi_246 hL) (yt_246 hL) ok101 d_1_61_22 (fun H locs hP hD hS => ?_)
    have hP : va_P z.1 classes (wv z ad E (u2 (u2 M 1 10 (((M 1 10) + 1) % 20)) 246 ((u2 M 1 10 (((M 1 10) + 1) % 20)) 1 10).toNat x1)) H := hP
    have hD : va_D A (wv z ad E (u2 (u2 M 1 10 (((M 1 10) + 1) % 20)) 246 ((u2 M 1 10 (((M 1 10) + 1) % 20)) 1 10).toNat x1)) := hD
    obtain ⟨M102, e102, h⟩ := nb_e h
    rw [← e102] at hP hD
    refine lv_aload_n hx hb d_1_61_23 rfl (lv_at hl 0 rfl) ?_
    refine m_gr (j := 247) (C := "Ballothall") (T := TX11) (N := 14) (ci := 11) (k := 8) hx hb hts iX11 hown hG hP (yi_1 hL) (yt_1 hL) rfl (by decide) w_405 (fun _ h9 => h9) rfl rfl (yr_1_8 hL) d_1_61_24 ?_
    refine lv_aload_n hx hb d_1_61_27 rfl (lv_at hl 0 rfl) ?_
    refine m_gi (C := "Ballothall") (T := TX11) (N := 14) (ci := 11) (k := 10) hx hb hts iX11 hown hG hP (yi_1 hL) (yt_1 hL) rfl (by decide) w_407 (fun _ h9 => h9) rfl rfl d_1_61_28 ?_
    refine lv_iload_n hx hb d_1_61_31 rfl (lv_at hl 2 rfl) ?_
    obtain ⟨ok103, h⟩ := ck_e h
    refine m_is hx hb hG hP hD hS (yi_247 hL) (yt_247 hL) ok103 d_1_61_32 (fun H locs hP hD hS => ?_)
    have hP : va_P z.1 classes (wv z ad E (u2 M102 247 (M102 1 10).toNat x2)) H := hP
    have hD : va_D A (wv z ad E (u2 M102 247 (M102 1 10).toNat x2)) := hD
    refine lv_aload_n hx hb d_1_61_33 rfl (lv_at hl 0 rfl) ?_
    refine m_gr (j := 248) (C := "Ballothall") (T := TX11) (N := 14) (ci := 11) (k := 9) hx hb hts iX11 hown hG hP (yi_1 hL) (yt_1 hL) rfl (by decide) w_406 (fun _ h9 => h9) rfl rfl (yr_1_9 hL) d_1_61_34 ?_
    refine lv_aload_n hx hb d_1_61_37 rfl (lv_at hl 0 rfl) ?_
    refine m_gi (C := "Ballothall") (T := TX11) (N := 14) (ci := 11) (k := 10) hx hb hts iX11 hown hG hP (yi_1 hL) (yt_1 hL) rfl (by decide) w_407 (fun _ h9 => h9) rfl rfl d_1_61_38 ?_
    refine lv_iload_n hx hb d_1_61_41 rfl (lv_at hl 3 rfl) ?_
    obtain ⟨ok104, h⟩ := ck_e h
    refine m_is hx hb hG hP hD hS (yi_248 hL) (yt_248 hL) ok104 d_1_61_42 (fun H locs hP hD hS => ?_)
    have hP : va_P z.1 classes (wv z ad E (u2 (u2 M102 247 (M102 1 10).toNat x2) 248 ((u2 M102 247 (M102 1 10).toNat x2) 1 10).toNat x3)) H := hP
    have hD : va_D A (wv z ad E (u2 (u2 M102 247 (M102 1 10).toNat x2) 248 ((u2 M102 247 (M102 1 10).toNat x2) 1 10).toNat x3)) := hD
    obtain ⟨M105, e105, h⟩ := nb_e h
    rw [← e105] at hP hD
    refine lv_aload_n hx hb d_1_61_43 rfl (lv_at hl 0 rfl) ?_
    refine lv_aload_n hx hb d_1_61_44 rfl (lv_at hl 0 rfl) ?_
    refine m_gi (C := "Ballothall") (T := TX11) (N := 14) (ci := 11) (k := 11) hx hb hts iX11 hown hG hP (yi_1 hL) (yt_1 hL) rfl (by decide) w_408 (fun _ h9 => h9) rfl rfl d_1_61_45 ?_
    refine lv_iconst (v := oI 1) hx hb d_1_61_48 (by decide +kernel) ?_
    refine lv_iadd hx hb d_1_61_49 ?_
    refine nrm (oI_add _ _) ?_
    refine lv_bipush (v := oI 20) hx hb d_1_61_50 (by decide +kernel) ?_
    obtain ⟨ok106, h⟩ := ck_e h
    refine va_mmin hx hb (by rw [hml]; exact hl.1.symm) hown (hts _ w_520) (hts _ w_521) (hts _ w_17) (hts _ w_min) (Nat.le_of_ble_eq_true rfl) (Nat.le_of_ble_eq_true rfl) (Nat.le_of_ble_eq_true rfl) (Nat.le_of_ble_eq_true rfl) d_1_61_52 ?_
    refine nrm (mn_oI (a := ((M105 1 11) + 1)) (b := (20 : Int)) ok106 (by decide)) ?_
    refine m_pi (C := "Ballothall") (T := TX11) (N := 14) (ci := 11) (k := 11) (ty := .int) hx hb hts iX11 hown hG hP hD hS (yi_1 hL) (yt_1 hL) rfl (by decide) w_408 (fun _ h9 => h9) rfl rfl tyX11_ok nmX11 rfl (by decide +kernel) rfl rfl d_1_61_55 (fun H locs hP hD hS => ?_)
    have hP : va_P z.1 classes (wv z ad E (u2 M105 1 11 (min ((M105 1 11) + 1) 20))) H := hP
    have hD : va_D A (wv z ad E (u2 M105 1 11 (min ((M105 1 11) + 1) 20))) := hD
    obtain rfl := in1 h
    exact W.vret hx hb hr (fun t ht hW => qkA hP hD hS (fun k => k) rfl rfl ht) hS.2.2 d_1_61_58
  exact key _ _ _ hts hP hS
set_option maxRecDepth 100000 in
set_option maxHeartbeats 4000000 in
theorem s_B_candidate (l : Launch) (z : Zz) (ad : Nat → Nat) (E : Ev) (M : Mm) (r : Int) (N : Mm) (hL : Lay E) (h : f_B_candidate E M = some (r, N)) : CT l z ⟨"Ballothall", "candidate", "()I"⟩ prog_1_method_2_code 2 (some .int) [.ref (ad 1)] (wv z ad E M) 2 63 0 0 (fun _ => some (.int (oI r))) (fun _ => (wv z ad E N)) := by
  refine CT.of (own := "Ballothall") (by decide +kernel) (Nat.le_of_ble_eq_true rfl) rfl (fun p e s m below meth c A ls hx hb hml hr hts hown hlocks hin hA hG hZ hP hD hS hl => ?_)
  have hl : lv_has ls 2 [(0, .ref (ad 1))] := hl
  have key : ∀ (H : Heap) (locs : List Loc) (args : Array Value), (∀ w ∈ WG, w.before args s = true) → va_P z.1 classes (wv z ad E M) H → va_S A s.heap H locs → W p l e (rmK 2 63 0 0) s m args below meth c H locs 0 0 (MQ below (QK z A (fun _ => some (.int (oI r))) (fun _ => (wv z ad E N))) args s 0 0 A) (F0 m 0 ls []) := by
    intro H locs args hts hP hS
    unfold f_B_candidate at h
    refine lv_aload_n hx hb d_1_2_0 rfl (lv_at hl 0 rfl) ?_
    refine m_gr (j := 2) (C := "Ballothall") (T := TX11) (N := 14) (ci := 11) (k := 0) hx hb hts iX11 hown hG hP (yi_1 hL) (yt_1 hL) rfl (by decide) w_397 (fun _ h9 => h9) rfl rfl (yr_1_0 hL) d_1_2_1 ?_
    refine m_giN (C := "Ballothall$BallotBox") (T := TX0) (N := 10) (ci := 0) (k := 2) hx hb hts iX0 hown hG hP (yi_2 hL) (yt_2 hL) rfl (by decide) n_52 rfl (fun _ h9 => h9) rfl rfl d_1_2_4 ?_
    refine lv_iconst (v := oI 1) hx hb d_1_2_7 (by decide +kernel) ?_
    refine lv_iadd hx hb d_1_2_8 ?_
    refine nrm (oI_add _ _) ?_
    refine lv_bipush (v := oI 8) hx hb d_1_2_9 (by decide +kernel) ?_
    obtain ⟨_, g100, h⟩ := bd_e h
    refine kS (As := [.int (oI ((M 2 2) + 1)), .int (oI 8)]) (rest := []) (s_B_needRoom l z ad E M ((M 2 2) + 1) 8 hL g100) hx hb hml hown hts w_446 w_444 w_445 w_1 md_ec9fa9 ⟨Nat.le_of_ble_eq_true rfl, Nat.le_of_ble_eq_true rfl⟩ hG hZ hP hD hS hA rfl hl.1 rfl (Nat.le_of_ble_eq_true rfl) d_1_2_11 ⟨Nat.le_of_ble_eq_true rfl, Nat.le_of_ble_eq_true rfl⟩ (fun _ H locs hP hD hS => ?_)
    have hP : va_P z.1 classes (wv z ad E M) H := hP
    have hD : va_D A (wv z ad E M) := hD
    refine W.eq (g2 := F0 m 14 ls []) rfl ?_
    refine lv_aload_n hx hb d_1_2_14 rfl (lv_at hl 0 rfl) ?_
    refine m_gr (j := 2) (C := "Ballothall") (T := TX11) (N := 14) (ci := 11) (k := 0) hx hb hts iX11 hown hG hP (yi_1 hL) (yt_1 hL) rfl (by decide) w_397 (fun _ h9 => h9) rfl rfl (yr_1_0 hL) d_1_2_15 ?_
    refine m_giN (C := "Ballothall$BallotBox") (T := TX0) (N := 10) (ci := 0) (k := 2) hx hb hts iX0 hown hG hP (yi_2 hL) (yt_2 hL) rfl (by decide) n_52 rfl (fun _ h9 => h9) rfl rfl d_1_2_18 ?_
    refine lv_istore_n (lv' := [(1, .int (oI (M 2 2))), (0, .ref (ad 1))]) hx hb d_1_2_21 rfl hl (by decide) rfl (fun ls hl => ?_)
    refine lv_aload_n hx hb d_1_2_22 rfl (lv_at hl 1 rfl) ?_
    refine m_gr (j := 2) (C := "Ballothall") (T := TX11) (N := 14) (ci := 11) (k := 0) hx hb hts iX11 hown hG hP (yi_1 hL) (yt_1 hL) rfl (by decide) w_397 (fun _ h9 => h9) rfl rfl (yr_1_0 hL) d_1_2_23 ?_
    refine m_grN (j := 4) (C := "Ballothall$BallotBox") (T := TX0) (N := 10) (ci := 0) (k := 4) hx hb hts iX0 hown hG hP (yi_2 hL) (yt_2 hL) rfl (by decide) n_62 rfl (fun _ h9 => h9) rfl rfl (yr_2_4 hL) d_1_2_26 ?_
    refine lv_iload_n hx hb d_1_2_29 rfl (lv_at hl 0 rfl) ?_
    refine lv_iload_n hx hb d_1_2_30 rfl (lv_at hl 0 rfl) ?_
    obtain ⟨ok101, h⟩ := ck_e h
    refine m_is hx hb hG hP hD hS (yi_4 hL) (yt_4 hL) ok101 d_1_2_31 (fun H locs hP hD hS => ?_)
    have hP : va_P z.1 classes (wv z ad E (u2 M 4 (M 2 2).toNat (M 2 2))) H := hP
    have hD : va_D A (wv z ad E (u2 M 4 (M 2 2).toNat (M 2 2))) := hD
    refine lv_aload_n hx hb d_1_2_32 rfl (lv_at hl 1 rfl) ?_
    refine m_gr (j := 2) (C := "Ballothall") (T := TX11) (N := 14) (ci := 11) (k := 0) hx hb hts iX11 hown hG hP (yi_1 hL) (yt_1 hL) rfl (by decide) w_397 (fun _ h9 => h9) rfl rfl (yr_1_0 hL) d_1_2_33 ?_
    refine lv_dup hx hb d_1_2_36 rfl ?_
    refine m_giN (C := "Ballothall$BallotBox") (T := TX0) (N := 10) (ci := 0) (k := 2) hx hb hts iX0 hown hG hP (yi_2 hL) (yt_2 hL) rfl (by decide) n_52 rfl (fun _ h9 => h9) rfl rfl d_1_2_37 ?_
    refine lv_iconst (v := oI 1) hx hb d_1_2_40 (by decide +kernel) ?_
    refine lv_iadd hx hb d_1_2_41 ?_
    refine nrm (oI_add _ _) ?_
    refine m_piN (C := "Ballothall$BallotBox") (T := TX0) (N := 10) (ci := 0) (k := 2) (ty := .int) hx hb hts iX0 hown hG hP hD hS (yi_2 hL) (yt_2 hL) rfl (by decide) n_52 rfl (fun _ h9 => h9) rfl rfl tyX0_ok nmX0 rfl (by decide +kernel) rfl rfl d_1_2_42 (fun H locs hP hD hS => ?_)
    have hP : va_P z.1 classes (wv z ad E (u2 (u2 M 4 (M 2 2).toNat (M 2 2)) 2 2 (((u2 M 4 (M 2 2).toNat (M 2 2)) 2 2) + 1))) H := hP
    have hD : va_D A (wv z ad E (u2 (u2 M 4 (M 2 2).toNat (M 2 2)) 2 2 (((u2 M 4 (M 2 2).toNat (M 2 2)) 2 2) + 1))) := hD
    refine lv_aload_n hx hb d_1_2_45 rfl (lv_at hl 1 rfl) ?_
    refine lv_iconst (v := oI 0) hx hb d_1_2_46 (by decide +kernel) ?_
    refine lv_iload_n hx hb d_1_2_47 rfl (lv_at hl 0 rfl) ?_
    refine lv_iconst (v := oI 0) hx hb d_1_2_48 (by decide +kernel) ?_
    obtain ⟨M102, g102, h⟩ := bd_e h
    refine kV (As := [.int (oI 0), .int (oI (M 2 2)), .int (oI 0)]) (rest := []) (s_B_remember l z ad E (u2 (u2 M 4 (M 2 2).toNat (M 2 2)) 2 2 (((u2 M 4 (M 2 2).toNat (M 2 2)) 2 2) + 1)) 0 (M 2 2) 0 M102 hL g102) hx hb hml hown hts w_519 w_516 w_518 w_s_b872b3 w_1 md_7af0bb ⟨Nat.le_of_ble_eq_true rfl, Nat.le_of_ble_eq_true rfl⟩ hG hZ hP hD hS hA 1 (wv_o (ci := 11) (yi_1 hL) (yt_1 hL)) rfl rfl rfl hl.1 rfl (Nat.le_of_ble_eq_true rfl) d_1_2_49 ⟨Nat.le_of_ble_eq_true rfl, Nat.le_of_ble_eq_true rfl⟩ (fun _ H locs hP hD hS => ?_)
    have hP : va_P z.1 classes (wv z ad E M102) H := hP
    have hD : va_D A (wv z ad E M102) := hD
    refine W.eq (g2 := F0 m 52 ls []) rfl ?_
    refine lv_iload_n hx hb d_1_2_52 rfl (lv_at hl 0 rfl) ?_
    obtain ⟨rfl, rfl⟩ := in2 h
    exact W.iret hx hb hr (fun t ht hW => qkA hP hD hS (fun k => k) rfl rfl ht) hS.2.2 d_1_2_53
  exact key _ _ _ hts hP hS
set_option maxRecDepth 100000 in
set_option maxHeartbeats 4000000 in
theorem s_As_init (l : Launch) (z : Zz) (ad : Nat → Nat) (E : Ev) (M : Mm) (p0 : Nat) (x1 : Int) (F : Ev) (N : Mm) (h : f_As_init E M p0 x1 = some (F, N)) : CT l z ⟨"java/lang/AbstractStringBuilder", "<init>", "(I)V"⟩ prog_23_method_2_code 2 none [.ref (ad p0), .int (oI x1)] (wv z ad E M) 1 40 1 64 (fun u => none) (fun u => wv z (adj E ad u) F N) := by
  refine CT.of (own := "java/lang/AbstractStringBuilder") (by decide +kernel) (Nat.le_of_ble_eq_true rfl) rfl (fun p e s m below meth c A ls hx hb hml hr hts hown hlocks hin hA hG hZ hP hD hS hl => ?_)
  have hl : lv_has ls 2 [(0, .ref (ad p0)), (1, .int (oI x1))] := hl
  have key : ∀ (E0 : Ev) (ad0 : Nat → Nat) (mc ms c0 s0 c1 s1 : Nat) (H : Heap) (locs : List Loc) (args : Array Value), c0 + 1 ≤ c1 → s0 + 64 ≤ s1 → c1 ≤ mc → s1 ≤ ms → (∀ i, i < nE E0 → ad i = ad0 i) → nE E0 ≤ nE E → (∀ w ∈ WG, w.before args s = true) → va_P z.1 classes (wv z ad E M) H → va_S A s.heap H locs → W p l e (rmK 1 40 mc ms) s m args below meth c H locs c0 s0 (MQ below (QK z A (fun u => none) (fun u => wv z (adj E0 ad0 u) F N)) args s c1 s1 A) (F0 m 0 ls []) := by
    intro E0 ad0 mc ms c0 s0 c1 s1 H locs args hc hs hm hm2 hag0 hE0 hts hP hS
    unfold f_As_init at h
    obtain ⟨hL, h⟩ := ck_e h
    obtain ⟨h_p0, h⟩ := ck_e h
    refine lv_aload_n hx hb d_23_2_0 rfl (lv_at hl 0 rfl) ?_
    refine W.objInit hx hb hown (hts _ w_810) (hts _ w_38) (hts _ w_obj) rfl (by rw [hml]; exact hl.1) rfl d_23_2_1 (Nat.le_of_ble_eq_true rfl) (Nat.le_of_ble_eq_true rfl) ?_
    refine W.eq (g2 := F0 m 4 ls []) rfl ?_
    refine va_gets hx hb hZ.2.1 hS hown (hts _ w_811) (fun _ h9 => h9) d_23_2_4 ?_
    refine lv_if_eq (tgt := 25) hx hb d_23_2_7 (by decide) (fun c9 => absurd c9 (by decide +kernel)) (fun _ => ?_)
    refine lv_aload_n hx hb d_23_2_10 rfl (lv_at hl 0 rfl) ?_
    refine lv_iload_n hx hb d_23_2_11 rfl (lv_at hl 1 rfl) ?_
    obtain ⟨ok100, h⟩ := ck_e h
    obtain ⟨p101, ep101, h⟩ := nb_e h
    obtain ⟨E101, eE101, h⟩ := nb_e h
    obtain ⟨M101, eM101, h⟩ := nb_e h
    refine m_newB (x := x1) (N := 64) hx hb ok100.1 ok100.2 (by decide) (hts _ w_515) hG hP hD hS hA (show _ ≤ mc by omega) (show _ ≤ ms by omega) d_23_2_12 (fun ad101 H hag101 hP hD hS => ?_)
    have hP : va_P z.1 classes (wv z ad101 E101 M101) H := by rw [eE101, eM101]; exact hP
    have hD : va_D A (wv z ad101 E101 M101) := by rw [eE101, eM101]; exact hD
    refine W.eq (g2 := F0 m 14 ls (.ref (ad101 p101) :: [.ref (ad101 p0)])) (by rw [ep101, hag101 p0 h_p0.1] <;> rfl) ?_
    have hl : lv_has ls 2 [(0, .ref (ad101 p0)), (1, .int (oI x1))] := by rw [hag101 p0 h_p0.1]; exact hl
    have hgw101 : Gw E E101 := by rw [eE101]; exact gw_new _ _
    have hL101 : Lay E101 := by rw [eE101]; exact lay_new hL
    have hag0 : ∀ i, i < nE E0 → ad101 i = ad0 i := fun i hi => (hag101 i (Nat.lt_of_lt_of_le hi hE0)).trans (hag0 i hi)
    have hE0 : nE E0 ≤ nE E101 := Nat.le_trans hE0 hgw101.1
    have hL : Lay E101 := hL101
    have h_p0 : isO 14 E101 p0 := isO_up hgw101 h_p0
    have h_p101 : isBA E101 p101 := by rw [ep101, eE101]; exact ⟨new_i _ _, by rw [new_T]⟩
    obtain ⟨E102, eE102, h⟩ := nb_e h
    refine m_pr (C := "java/lang/StringBuilder") (T := TX14) (N := 4) (ci := 14) (k := 0) (ty := (.array .byte)) hx hb hts iX14 hown hG hP hD hS h_p0.1 h_p0.2 rfl (by decide) w_820 (fun _ h9 => h9) rfl rfl tyX14_ok nmX14 rfl (by decide +kernel) h_p101.1 (fun _ => rfl) (fun _ => rfl) d_23_2_14 (fun H locs hP hD hS => ?_)
    have hP : va_P z.1 classes (wv z ad101 E102 M101) H := by rw [eE102]; exact hP
    have hD : va_D A (wv z ad101 E102 M101) := by rw [eE102]; exact hD
    have hgw102 : Gw E101 E102 := by rw [eE102]; exact gw_ref _ _ _ _
    have hE0 : nE E0 ≤ nE E102 := Nat.le_trans hE0 hgw102.1
    obtain ⟨hL, h⟩ := ck_e h
    have h_p0 : isO 14 E102 p0 := isO_up hgw102 h_p0
    refine W.eq (g2 := F0 m 17 ls []) rfl ?_
    refine lv_aload_n hx hb d_23_2_17 rfl (lv_at hl 0 rfl) ?_
    refine lv_iconst (v := oI 0) hx hb d_23_2_18 (by decide +kernel) ?_
    refine m_pi (C := "java/lang/StringBuilder") (T := TX14) (N := 4) (ci := 14) (k := 1) (ty := .byte) hx hb hts iX14 hown hG hP hD hS h_p0.1 h_p0.2 rfl (by decide) w_821 (fun _ h9 => h9) rfl rfl tyX14_ok nmX14 rfl (by decide +kernel) rfl rfl d_23_2_19 (fun H locs hP hD hS => ?_)
    have hP : va_P z.1 classes (wv z ad101 E102 (u2 M101 p0 1 0)) H := hP
    have hD : va_D A (wv z ad101 E102 (u2 M101 p0 1 0)) := hD
    refine lv_goto (tgt := 38) hx hb d_23_2_22 (by decide) ?_
    refine W.wide (k := c1) (n := s1) (by omega) (by omega) ?_
    obtain ⟨rfl, rfl⟩ := in2 h
    exact W.vret hx hb hr (fun t ht hW => qkA hP hD hS ad101 (congrArg (fun q => wv z q E102 (u2 M101 p0 1 0)) (adj_self hag0).symm) rfl ht) hS.2.2 d_23_2_38
  exact key E ad 1 64 0 0 1 64 _ _ _ (by decide) (by decide) (by decide) (by decide) (fun _ _ => rfl) (Nat.le_refl _) hts hP hS
set_option maxRecDepth 100000 in
set_option maxHeartbeats 4000000 in
theorem s_Sb_init (l : Launch) (z : Zz) (ad : Nat → Nat) (E : Ev) (M : Mm) (p0 : Nat) (F : Ev) (N : Mm) (h : f_Sb_init E M p0 = some (F, N)) : CT l z ⟨"java/lang/StringBuilder", "<init>", "()V"⟩ prog_36_method_1_code 1 none [.ref (ad p0)] (wv z ad E M) 2 61 1 64 (fun u => none) (fun u => wv z (adj E ad u) F N) := by
  refine CT.of (own := "java/lang/StringBuilder") (by decide +kernel) (Nat.le_of_ble_eq_true rfl) rfl (fun p e s m below meth c A ls hx hb hml hr hts hown hlocks hin hA hG hZ hP hD hS hl => ?_)
  have hl : lv_has ls 1 [(0, .ref (ad p0))] := hl
  have key : ∀ (E0 : Ev) (ad0 : Nat → Nat) (mc ms c0 s0 c1 s1 : Nat) (H : Heap) (locs : List Loc) (args : Array Value), c0 + 1 ≤ c1 → s0 + 64 ≤ s1 → c1 ≤ mc → s1 ≤ ms → (∀ i, i < nE E0 → ad i = ad0 i) → nE E0 ≤ nE E → (∀ w ∈ WG, w.before args s = true) → va_P z.1 classes (wv z ad E M) H → va_S A s.heap H locs → W p l e (rmK 2 61 mc ms) s m args below meth c H locs c0 s0 (MQ below (QK z A (fun u => none) (fun u => wv z (adj E0 ad0 u) F N)) args s c1 s1 A) (F0 m 0 ls []) := by
    intro E0 ad0 mc ms c0 s0 c1 s1 H locs args hc hs hm hm2 hag0 hE0 hts hP hS
    unfold f_Sb_init at h
    obtain ⟨hL, h⟩ := ck_e h
    obtain ⟨h_p0, h⟩ := ck_e h
    refine lv_aload_n hx hb d_36_1_0 rfl (lv_at hl 0 rfl) ?_
    refine lv_bipush (v := oI 16) hx hb d_36_1_1 (by decide +kernel) ?_
    obtain ⟨⟨E100, M100⟩, g100, h⟩ := bd_e h
    obtain ⟨hgw100, h⟩ := ck_e h
    refine kI (As := [.int (oI 16)]) (rest := []) (s_As_init l z ad E M p0 16 E100 M100 g100) hx hb hml hown hts w_809 w_807 w_808 rfl w_18 md_5dd7f4 ⟨Nat.le_of_ble_eq_true rfl, Nat.le_of_ble_eq_true rfl⟩ hG hZ hP hD hS hA rfl hl.1 rfl (Nat.le_of_ble_eq_true rfl) d_36_1_3 ⟨(show _ ≤ mc by omega), (show _ ≤ ms by omega)⟩ (fun u100 H locs hP hD hS => ?_)
    obtain ⟨ad100, had100⟩ : ∃ q, q = adj E ad u100 := ⟨_, rfl⟩
    have hP : va_P z.1 classes (wv z ad100 E100 M100) H := by rw [had100]; exact hP
    have hD : va_D A (wv z ad100 E100 M100) := by rw [had100]; exact hD
    have hag100 : ∀ i, i < nE E → ad100 i = ad i := fun i hi => by rw [had100]; exact adj_lt hi
    have hl : lv_has ls 1 [(0, .ref (ad100 p0))] := by rw [hag100 p0 h_p0.1]; exact hl
    refine W.eq (g2 := F0 m 6 ls []) (by rfl) ?_
    have hag0 : ∀ i, i < nE E0 → ad100 i = ad0 i := fun i hi => (hag100 i (Nat.lt_of_lt_of_le hi hE0)).trans (hag0 i hi)
    have hE0 : nE E0 ≤ nE E100 := Nat.le_trans hE0 hgw100.1
    obtain ⟨hL, h⟩ := ck_e h
    have h_p0 : isO 14 E100 p0 := isO_up hgw100 h_p0
    refine W.wide (k := c1) (n := s1) (by omega) (by omega) ?_
    obtain ⟨rfl, rfl⟩ := in2 h
    exact W.vret hx hb hr (fun t ht hW => qkA hP hD hS ad100 (congrArg (fun q => wv z q E100 M100) (adj_self hag0).symm) rfl ht) hS.2.2 d_36_1_6
  exact key E ad 1 64 0 0 1 64 _ _ _ (by decide) (by decide) (by decide) (by decide) (fun _ _ => rfl) (Nat.le_refl _) hts hP hS
set_option maxRecDepth 100000 in
set_option maxHeartbeats 4000000 in
theorem s_As_ensureCapacityInternal (l : Launch) (z : Zz) (ad : Nat → Nat) (E : Ev) (M : Mm) (p0 : Nat) (x1 : Int)  (hL : Lay E) (h : f_As_ensureCapacityInternal E M p0 x1 = some ()) : CT l z ⟨"java/lang/AbstractStringBuilder", "ensureCapacityInternal", "(I)V"⟩ prog_23_method_9_code 3 none [.ref (ad p0), .int (oI x1)] (wv z ad E M) 0 20 0 0 (fun _ => none) (fun _ => (wv z ad E M)) := by
  refine CT.of (own := "java/lang/AbstractStringBuilder") (by decide +kernel) (Nat.le_of_ble_eq_true rfl) rfl (fun p e s m below meth c A ls hx hb hml hr hts hown hlocks hin hA hG hZ hP hD hS hl => ?_)
  have hl : lv_has ls 3 [(0, .ref (ad p0)), (1, .int (oI x1))] := hl
  have key : ∀ (H : Heap) (locs : List Loc) (args : Array Value), (∀ w ∈ WG, w.before args s = true) → va_P z.1 classes (wv z ad E M) H → va_S A s.heap H locs → W p l e (rmK 0 20 0 0) s m args below meth c H locs 0 0 (MQ below (QK z A (fun _ => none) (fun _ => (wv z ad E M))) args s 0 0 A) (F0 m 0 ls []) := by
    intro H locs args hts hP hS
    unfold f_As_ensureCapacityInternal at h
    obtain ⟨h_p0, h⟩ := ck_e h
    refine lv_aload_n hx hb d_23_9_0 rfl (lv_at hl 0 rfl) ?_
    obtain ⟨p100, g100, h⟩ := bd_e h
    obtain ⟨h_p100, h⟩ := ck_e h
    refine m_gr (j := p100) (C := "java/lang/StringBuilder") (T := TX14) (N := 4) (ci := 14) (k := 0) hx hb hts iX14 hown hG hP h_p0.1 h_p0.2 rfl (by decide) w_820 (fun _ h9 => h9) rfl rfl g100 d_23_9_1 ?_
    refine m_lenB (v := ((tE E p100).2 : Int)) hx hb hG hP h_p100.1 (isBA_T h_p100) (len_oI _) d_23_9_4 ?_
    refine lv_aload_n hx hb d_23_9_5 rfl (lv_at hl 0 rfl) ?_
    refine m_gi (C := "java/lang/StringBuilder") (T := TX14) (N := 4) (ci := 14) (k := 1) hx hb hts iX14 hown hG hP h_p0.1 h_p0.2 rfl (by decide) w_821 (fun _ h9 => h9) rfl rfl d_23_9_6 ?_
    obtain ⟨ok101, h⟩ := ck_e h
    obtain ⟨ok102, h⟩ := ck_e h
    refine lv_ishr hx hb d_23_9_9 ?_
    refine nrm (oI_shr (a := ((tE E p100).2 : Int)) ok101 ok102.1 ok102.2) ?_
    obtain ⟨v103, e103, h⟩ := nb_e h
    refine nrm (congrArg oI e103.symm) ?_
    refine lv_istore_n (lv' := [(2, .int (oI v103)), (0, .ref (ad p0)), (1, .int (oI x1))]) hx hb d_23_9_10 rfl hl (by decide) rfl (fun ls hl => ?_)
    refine lv_iload_n hx hb d_23_9_11 rfl (lv_at hl 2 rfl) ?_
    refine lv_iload_n hx hb d_23_9_12 rfl (lv_at hl 0 rfl) ?_
    refine lv_isub hx hb d_23_9_13 ?_
    refine nrm (oI_sub _ _) ?_
    obtain ⟨ok104, h⟩ := ck_e h
    refine lv_if_le (tgt := 38) hx hb d_23_9_14 (by decide) (fun c9 => ?_) (fun c9 => ?_)
    · have h := ite_t ((oI_le0 ok104).mp c9) h
      clear h
      exact W.vret hx hb hr (fun t ht hW => qkA hP hD hS (fun k => k) rfl rfl ht) hS.2.2 d_23_9_38
    · have h := ite_f (fun q => c9 ((oI_le0 ok104).mpr q)) h
      cases h
  exact key _ _ _ hts hP hS
set_option maxRecDepth 100000 in
set_option maxHeartbeats 4000000 in
theorem s_As_isLatin1 (l : Launch) (z : Zz) (ad : Nat → Nat) (E : Ev) (M : Mm) (p0 : Nat) (r : Int)  (hL : Lay E) (h : f_As_isLatin1 E M p0 = some r) : CT l z ⟨"java/lang/AbstractStringBuilder", "isLatin1", "()Z"⟩ prog_23_method_68_code 1 (some .boolean) [.ref (ad p0)] (wv z ad E M) 0 20 0 0 (fun _ => some (.int (oI r))) (fun _ => (wv z ad E M)) := by
  refine CT.of (own := "java/lang/AbstractStringBuilder") (by decide +kernel) (Nat.le_of_ble_eq_true rfl) rfl (fun p e s m below meth c A ls hx hb hml hr hts hown hlocks hin hA hG hZ hP hD hS hl => ?_)
  have hl : lv_has ls 1 [(0, .ref (ad p0))] := hl
  have key : ∀ (H : Heap) (locs : List Loc) (args : Array Value), (∀ w ∈ WG, w.before args s = true) → va_P z.1 classes (wv z ad E M) H → va_S A s.heap H locs → W p l e (rmK 0 20 0 0) s m args below meth c H locs 0 0 (MQ below (QK z A (fun _ => some (.int (oI r))) (fun _ => (wv z ad E M))) args s 0 0 A) (F0 m 0 ls []) := by
    intro H locs args hts hP hS
    unfold f_As_isLatin1 at h
    obtain ⟨h_p0, h⟩ := ck_e h
    refine va_gets hx hb hZ.2.1 hS hown (hts _ w_811) (fun _ h9 => h9) d_23_68_0 ?_
    refine lv_if_eq (tgt := 17) hx hb d_23_68_3 (by decide) (fun c9 => absurd c9 (by decide +kernel)) (fun _ => ?_)
    refine lv_aload_n hx hb d_23_68_6 rfl (lv_at hl 0 rfl) ?_
    refine m_gi (C := "java/lang/StringBuilder") (T := TX14) (N := 4) (ci := 14) (k := 1) hx hb hts iX14 hown hG hP h_p0.1 h_p0.2 rfl (by decide) w_821 (fun _ h9 => h9) rfl rfl d_23_68_7 ?_
    obtain ⟨ok100, h⟩ := ck_e h
    refine lv_if_ne (tgt := 17) hx hb d_23_68_10 (by decide) (fun c9 => ?_) (fun c9 => ?_)
    · have h := ite_f (fun q => c9 ((oI_eq0 ok100).mpr q)) h
      refine lv_iconst (v := oI 0) hx hb d_23_68_17 (by decide +kernel) ?_
      obtain rfl := in1 h
      exact W.zret hx hb hr rfl (fun t ht hW => qkA hP hD hS (fun k => k) rfl rfl ht) hS.2.2 d_23_68_18
    · have h := ite_t ((oI_eq0 ok100).mp c9) h
      refine lv_iconst (v := oI 1) hx hb d_23_68_13 (by decide +kernel) ?_
      refine lv_goto (tgt := 18) hx hb d_23_68_14 (by decide) ?_
      obtain rfl := in1 h
      exact W.zret hx hb hr rfl (fun t ht hW => qkA hP hD hS (fun k => k) rfl rfl ht) hS.2.2 d_23_68_18
  exact key _ _ _ hts hP hS
set_option maxRecDepth 100000 in
set_option maxHeartbeats 4000000 in
theorem s_Sl_canEncode (l : Launch) (z : Zz) (ad : Nat → Nat) (E : Ev) (M : Mm) (x0 : Int) (r : Int)  (hL : Lay E) (h : f_Sl_canEncode E M x0 = some r) : CT l z ⟨"java/lang/StringLatin1", "canEncode", "(C)Z"⟩ prog_37_method_3_code 1 (some .boolean) [.int (oI x0)] (wv z ad E M) 0 20 0 0 (fun _ => some (.int (oI r))) (fun _ => (wv z ad E M)) := by
  refine CT.of (own := "java/lang/StringLatin1") (by decide +kernel) (Nat.le_of_ble_eq_true rfl) rfl (fun p e s m below meth c A ls hx hb hml hr hts hown hlocks hin hA hG hZ hP hD hS hl => ?_)
  have hl : lv_has ls 1 [(0, .int (oI x0))] := hl
  have key : ∀ (H : Heap) (locs : List Loc) (args : Array Value), (∀ w ∈ WG, w.before args s = true) → va_P z.1 classes (wv z ad E M) H → va_S A s.heap H locs → W p l e (rmK 0 20 0 0) s m args below meth c H locs 0 0 (MQ below (QK z A (fun _ => some (.int (oI r))) (fun _ => (wv z ad E M))) args s 0 0 A) (F0 m 0 ls []) := by
    intro H locs args hts hP hS
    unfold f_Sl_canEncode at h
    refine lv_iload_n hx hb d_37_3_0 rfl (lv_at hl 0 rfl) ?_
    refine lv_sipush (v := oI 255) hx hb d_37_3_1 (by decide +kernel) ?_
    obtain ⟨ok100, h⟩ := ck_e h
    refine lv_icmp_gt (tgt := 11) hx hb d_37_3_4 (by decide) (fun c9 => ?_) (fun c9 => ?_)
    · have h := ite_t ((oI_lt (a := (255 : Int)) (b := x0) (by decide) ok100).mp c9) h
      refine lv_iconst (v := oI 0) hx hb d_37_3_11 (by decide +kernel) ?_
      obtain rfl := in1 h
      exact W.zret hx hb hr rfl (fun t ht hW => qkA hP hD hS (fun k => k) rfl rfl ht) hS.2.2 d_37_3_12
    · have h := ite_f (fun q => c9 ((oI_lt (a := (255 : Int)) (b := x0) (by decide) ok100).mpr q)) h
      refine lv_iconst (v := oI 1) hx hb d_37_3_7 (by decide +kernel) ?_
      refine lv_goto (tgt := 12) hx hb d_37_3_8 (by decide) ?_
      obtain rfl := in1 h
      exact W.zret hx hb hr rfl (fun t ht hW => qkA hP hD hS (fun k => k) rfl rfl ht) hS.2.2 d_37_3_12
  exact key _ _ _ hts hP hS
set_option maxRecDepth 100000 in
set_option maxHeartbeats 4000000 in
theorem s_As_appendC (l : Launch) (z : Zz) (ad : Nat → Nat) (E : Ev) (M : Mm) (p0 : Nat) (x1 : Int) (r : Nat) (N : Mm) (hL : Lay E) (h : f_As_appendC E M p0 x1 = some (r, N)) : CT l z ⟨"java/lang/AbstractStringBuilder", "append", "(C)Ljava/lang/AbstractStringBuilder;"⟩ prog_23_method_31_code 2 (some (.object "java/lang/AbstractStringBuilder")) [.ref (ad p0), .int (oI x1)] (wv z ad E M) 1 42 0 0 (fun _ => some (.ref (ad r))) (fun _ => (wv z ad E N)) := by
  refine CT.of (own := "java/lang/AbstractStringBuilder") (by decide +kernel) (Nat.le_of_ble_eq_true rfl) rfl (fun p e s m below meth c A ls hx hb hml hr hts hown hlocks hin hA hG hZ hP hD hS hl => ?_)
  have hl : lv_has ls 2 [(0, .ref (ad p0)), (1, .int (oI x1))] := hl
  have key : ∀ (H : Heap) (locs : List Loc) (args : Array Value), (∀ w ∈ WG, w.before args s = true) → va_P z.1 classes (wv z ad E M) H → va_S A s.heap H locs → W p l e (rmK 1 42 0 0) s m args below meth c H locs 0 0 (MQ below (QK z A (fun _ => some (.ref (ad r))) (fun _ => (wv z ad E N))) args s 0 0 A) (F0 m 0 ls []) := by
    intro H locs args hts hP hS
    unfold f_As_appendC at h
    obtain ⟨h_p0, h⟩ := ck_e h
    refine lv_aload_n hx hb d_23_31_0 rfl (lv_at hl 0 rfl) ?_
    refine lv_aload_n hx hb d_23_31_1 rfl (lv_at hl 0 rfl) ?_
    refine m_gi (C := "java/lang/StringBuilder") (T := TX14) (N := 4) (ci := 14) (k := 3) hx hb hts iX14 hown hG hP h_p0.1 h_p0.2 rfl (by decide) w_823 (fun _ h9 => h9) rfl rfl d_23_31_2 ?_
    refine lv_iconst (v := oI 1) hx hb d_23_31_5 (by decide +kernel) ?_
    refine lv_iadd hx hb d_23_31_6 ?_
    refine nrm (oI_add _ _) ?_
    obtain ⟨_, g100, h⟩ := bd_e h
    refine kVQ (As := [.int (oI ((M p0 3) + 1))]) (rest := []) (s_As_ensureCapacityInternal l z ad E M p0 ((M p0 3) + 1) hL g100) hx hb hml hown hts w_843 w_840 w_842 (hG.2.2.2.2.2.2 _ (by decide) _) w_18 md_388751 ⟨Nat.le_of_ble_eq_true rfl, Nat.le_of_ble_eq_true rfl⟩ hG hZ hP hD hS hA p0 (wv_o (ci := 14) h_p0.1 h_p0.2) rfl rfl rfl hl.1 rfl (Nat.le_of_ble_eq_true rfl) d_23_31_7 ⟨Nat.le_of_ble_eq_true rfl, Nat.le_of_ble_eq_true rfl⟩ (fun _ H locs hP hD hS => ?_)
    have hP : va_P z.1 classes (wv z ad E M) H := hP
    have hD : va_D A (wv z ad E M) := hD
    refine W.eq (g2 := F0 m 10 ls []) rfl ?_
    refine lv_aload_n hx hb d_23_31_10 rfl (lv_at hl 0 rfl) ?_
    obtain ⟨r101, g101, h⟩ := bd_e h
    refine kV (As := []) (rest := []) (s_As_isLatin1 l z ad E M p0 r101 hL g101) hx hb hml hown hts w_873 w_869 w_870 w_872 w_18 md_d241c4 ⟨Nat.le_of_ble_eq_true rfl, Nat.le_of_ble_eq_true rfl⟩ hG hZ hP hD hS hA p0 (wv_o (ci := 14) h_p0.1 h_p0.2) rfl rfl rfl hl.1 rfl (Nat.le_of_ble_eq_true rfl) d_23_31_11 ⟨Nat.le_of_ble_eq_true rfl, Nat.le_of_ble_eq_true rfl⟩ (fun _ H locs hP hD hS => ?_)
    have hP : va_P z.1 classes (wv z ad E M) H := hP
    have hD : va_D A (wv z ad E M) := hD
    refine W.eq (g2 := F0 m 14 ls [.int (oI r101)]) rfl ?_
    obtain ⟨ok102, h⟩ := ck_e h
    refine lv_if_eq (tgt := 45) hx hb d_23_31_14 (by decide) (fun c9 => ?_) (fun c9 => ?_)
    · have h := ite_t ((oI_eq0 ok102).mp c9) h
      cases h
    · have h := ite_f (fun q => c9 ((oI_eq0 ok102).mpr q)) h
      refine lv_iload_n hx hb d_23_31_17 rfl (lv_at hl 1 rfl) ?_
      obtain ⟨r103, g103, h⟩ := bd_e h
      refine kS (As := [.int (oI x1)]) (rest := []) (s_Sl_canEncode l z ad E M x1 r103 hL g103) hx hb hml hown hts w_876 w_874 w_875 w_25 md_40d48f ⟨Nat.le_of_ble_eq_true rfl, Nat.le_of_ble_eq_true rfl⟩ hG hZ hP hD hS hA rfl hl.1 rfl (Nat.le_of_ble_eq_true rfl) d_23_31_18 ⟨Nat.le_of_ble_eq_true rfl, Nat.le_of_ble_eq_true rfl⟩ (fun _ H locs hP hD hS => ?_)
      have hP : va_P z.1 classes (wv z ad E M) H := hP
      have hD : va_D A (wv z ad E M) := hD
      refine W.eq (g2 := F0 m 21 ls [.int (oI r103)]) rfl ?_
      obtain ⟨ok104, h⟩ := ck_e h
      refine lv_if_eq (tgt := 45) hx hb d_23_31_21 (by decide) (fun c9 => ?_) (fun c9 => ?_)
      · have h := ite_t ((oI_eq0 ok104).mp c9) h
        cases h
      · have h := ite_f (fun q => c9 ((oI_eq0 ok104).mpr q)) h
        refine lv_aload_n hx hb d_23_31_24 rfl (lv_at hl 0 rfl) ?_
        obtain ⟨p105, g105, h⟩ := bd_e h
        obtain ⟨h_p105, h⟩ := ck_e h
        refine m_gr (j := p105) (C := "java/lang/StringBuilder") (T := TX14) (N := 4) (ci := 14) (k := 0) hx hb hts iX14 hown hG hP h_p0.1 h_p0.2 rfl (by decide) w_820 (fun _ h9 => h9) rfl rfl g105 d_23_31_25 ?_
        refine lv_aload_n hx hb d_23_31_28 rfl (lv_at hl 0 rfl) ?_
        refine lv_dup hx hb d_23_31_29 rfl ?_
        refine m_gi (C := "java/lang/StringBuilder") (T := TX14) (N := 4) (ci := 14) (k := 3) hx hb hts iX14 hown hG hP h_p0.1 h_p0.2 rfl (by decide) w_823 (fun _ h9 => h9) rfl rfl d_23_31_30 ?_
        refine lv_dup_x1 hx hb d_23_31_33 rfl rfl ?_
        refine lv_iconst (v := oI 1) hx hb d_23_31_34 (by decide +kernel) ?_
        refine lv_iadd hx hb d_23_31_35 ?_
        refine nrm (oI_add _ _) ?_
        refine m_pi (C := "java/lang/StringBuilder") (T := TX14) (N := 4) (ci := 14) (k := 3) (ty := .int) hx hb hts iX14 hown hG hP hD hS h_p0.1 h_p0.2 rfl (by decide) w_823 (fun _ h9 => h9) rfl rfl tyX14_ok nmX14 rfl (by decide +kernel) rfl rfl d_23_31_36 (fun H locs hP hD hS => ?_)
        have hP : va_P z.1 classes (wv z ad E (u2 M p0 3 ((M p0 3) + 1))) H := hP
        have hD : va_D A (wv z ad E (u2 M p0 3 ((M p0 3) + 1))) := hD
        refine lv_iload_n hx hb d_23_31_39 rfl (lv_at hl 1 rfl) ?_
        obtain ⟨ok106, h⟩ := ck_e h
        refine lv_i2b (v := oI x1) hx hb d_23_31_40 (oI_b ok106) ?_
        obtain ⟨ok107, h⟩ := ck_e h
        refine m_bs hx hb hG hP hD hS h_p105.1 (isBA_T h_p105) ok107 ok106 d_23_31_41 (fun H locs hP hD hS => ?_)
        have hP : va_P z.1 classes (wv z ad E (u2 (u2 M p0 3 ((M p0 3) + 1)) p105 (M p0 3).toNat x1)) H := hP
        have hD : va_D A (wv z ad E (u2 (u2 M p0 3 ((M p0 3) + 1)) p105 (M p0 3).toNat x1)) := hD
        refine lv_goto (tgt := 75) hx hb d_23_31_42 (by decide) ?_
        refine lv_aload_n hx hb d_23_31_75 rfl (lv_at hl 0 rfl) ?_
        obtain ⟨rfl, rfl⟩ := in2 h
        exact W.aret hx hb hr (Or.inl ⟨_, rfl⟩) (Or.inr ⟨_, rfl⟩) (fun t ht hW => qkA hP hD hS (fun k => k) rfl rfl ht) hS.2.2 d_23_31_76
  exact key _ _ _ hts hP hS
set_option maxRecDepth 100000 in
set_option maxHeartbeats 4000000 in
theorem s_Sb_appendC (l : Launch) (z : Zz) (ad : Nat → Nat) (E : Ev) (M : Mm) (p0 : Nat) (x1 : Int) (r : Nat) (N : Mm) (hL : Lay E) (h : f_Sb_appendC E M p0 x1 = some (r, N)) : CT l z ⟨"java/lang/StringBuilder", "append", "(C)Ljava/lang/StringBuilder;"⟩ prog_36_method_14_code 2 (some (.object "java/lang/StringBuilder")) [.ref (ad p0), .int (oI x1)] (wv z ad E M) 2 63 0 0 (fun _ => some (.ref (ad r))) (fun _ => (wv z ad E N)) := by
  refine CT.of (own := "java/lang/StringBuilder") (by decide +kernel) (Nat.le_of_ble_eq_true rfl) rfl (fun p e s m below meth c A ls hx hb hml hr hts hown hlocks hin hA hG hZ hP hD hS hl => ?_)
  have hl : lv_has ls 2 [(0, .ref (ad p0)), (1, .int (oI x1))] := hl
  have key : ∀ (H : Heap) (locs : List Loc) (args : Array Value), (∀ w ∈ WG, w.before args s = true) → va_P z.1 classes (wv z ad E M) H → va_S A s.heap H locs → W p l e (rmK 2 63 0 0) s m args below meth c H locs 0 0 (MQ below (QK z A (fun _ => some (.ref (ad r))) (fun _ => (wv z ad E N))) args s 0 0 A) (F0 m 0 ls []) := by
    intro H locs args hts hP hS
    unfold f_Sb_appendC at h
    obtain ⟨h_p0, h⟩ := ck_e h
    refine lv_aload_n hx hb d_36_14_0 rfl (lv_at hl 0 rfl) ?_
    refine lv_iload_n hx hb d_36_14_1 rfl (lv_at hl 1 rfl) ?_
    obtain ⟨⟨r100, M100⟩, g100, h⟩ := bd_e h
    refine kSU (n := 1) (As := [.int (oI x1)]) (rest := []) (s_As_appendC l z ad E M p0 x1 r100 M100 hL g100) hx hb hml hown hts w_839 (gin w_839 (List.forall_mem_cons.mpr ⟨w_837, List.forall_mem_cons.mpr ⟨w_1683, List.forall_mem_cons.mpr ⟨w_832, List.forall_mem_cons.mpr ⟨w_838, List.forall_mem_cons.mpr ⟨w_18, fun _ h => absurd h List.not_mem_nil⟩⟩⟩⟩⟩)) (by decide +kernel) ⟨Nat.le_of_ble_eq_true rfl, Nat.le_of_ble_eq_true rfl⟩ hG hZ hP hD hS hA p0 (wv_o (ci := 14) h_p0.1 h_p0.2) rfl rfl rfl hl.1 rfl (Nat.le_of_ble_eq_true rfl) d_36_14_2 ⟨Nat.le_of_ble_eq_true rfl, Nat.le_of_ble_eq_true rfl⟩ (fun _ H locs hP hD hS => ?_)
    have hP : va_P z.1 classes (wv z ad E M100) H := hP
    have hD : va_D A (wv z ad E M100) := hD
    obtain ⟨h_r100, h⟩ := ck_e h
    refine W.eq (g2 := F0 m 5 ls [.ref (ad r100)]) rfl ?_
    refine lv_pop hx hb d_36_14_5 rfl ?_
    refine lv_aload_n hx hb d_36_14_6 rfl (lv_at hl 0 rfl) ?_
    obtain ⟨rfl, rfl⟩ := in2 h
    exact W.aret hx hb hr (Or.inl ⟨_, rfl⟩) (Or.inr ⟨_, rfl⟩) (fun t ht hW => qkA hP hD hS (fun k => k) rfl rfl ht) hS.2.2 d_36_14_7
  exact key _ _ _ hts hP hS
set_option maxRecDepth 100000 in
set_option maxHeartbeats 4000000 in
theorem s_As_getValue (l : Launch) (z : Zz) (ad : Nat → Nat) (E : Ev) (M : Mm) (p0 : Nat) (r : Nat)  (hL : Lay E) (h : f_As_getValue E M p0 = some r) : CT l z ⟨"java/lang/AbstractStringBuilder", "getValue", "()[B"⟩ prog_23_method_64_code 1 (some (.array .byte)) [.ref (ad p0)] (wv z ad E M) 0 20 0 0 (fun _ => some (.ref (ad r))) (fun _ => (wv z ad E M)) := by
  refine CT.of (own := "java/lang/AbstractStringBuilder") (by decide +kernel) (Nat.le_of_ble_eq_true rfl) rfl (fun p e s m below meth c A ls hx hb hml hr hts hown hlocks hin hA hG hZ hP hD hS hl => ?_)
  have hl : lv_has ls 1 [(0, .ref (ad p0))] := hl
  have key : ∀ (H : Heap) (locs : List Loc) (args : Array Value), (∀ w ∈ WG, w.before args s = true) → va_P z.1 classes (wv z ad E M) H → va_S A s.heap H locs → W p l e (rmK 0 20 0 0) s m args below meth c H locs 0 0 (MQ below (QK z A (fun _ => some (.ref (ad r))) (fun _ => (wv z ad E M))) args s 0 0 A) (F0 m 0 ls []) := by
    intro H locs args hts hP hS
    unfold f_As_getValue at h
    obtain ⟨h_p0, h⟩ := ck_e h
    refine lv_aload_n hx hb d_23_64_0 rfl (lv_at hl 0 rfl) ?_
    obtain ⟨p100, g100, h⟩ := bd_e h
    obtain ⟨h_p100, h⟩ := ck_e h
    refine m_gr (j := p100) (C := "java/lang/StringBuilder") (T := TX14) (N := 4) (ci := 14) (k := 0) hx hb hts iX14 hown hG hP h_p0.1 h_p0.2 rfl (by decide) w_820 (fun _ h9 => h9) rfl rfl g100 d_23_64_1 ?_
    obtain rfl := in1 h
    exact W.aret hx hb hr (Or.inr ⟨_, rfl⟩) (Or.inr ⟨_, rfl⟩) (fun t ht hW => qkA hP hD hS (fun k => k) rfl rfl ht) hS.2.2 d_23_64_4
  exact key _ _ _ hts hP hS
set_option maxRecDepth 100000 in
set_option maxHeartbeats 4000000 in
theorem s_As_length (l : Launch) (z : Zz) (ad : Nat → Nat) (E : Ev) (M : Mm) (p0 : Nat) (r : Int)  (hL : Lay E) (h : f_As_length E M p0 = some r) : CT l z ⟨"java/lang/AbstractStringBuilder", "length", "()I"⟩ prog_23_method_6_code 1 (some .int) [.ref (ad p0)] (wv z ad E M) 0 20 0 0 (fun _ => some (.int (oI r))) (fun _ => (wv z ad E M)) := by
  refine CT.of (own := "java/lang/AbstractStringBuilder") (by decide +kernel) (Nat.le_of_ble_eq_true rfl) rfl (fun p e s m below meth c A ls hx hb hml hr hts hown hlocks hin hA hG hZ hP hD hS hl => ?_)
  have hl : lv_has ls 1 [(0, .ref (ad p0))] := hl
  have key : ∀ (H : Heap) (locs : List Loc) (args : Array Value), (∀ w ∈ WG, w.before args s = true) → va_P z.1 classes (wv z ad E M) H → va_S A s.heap H locs → W p l e (rmK 0 20 0 0) s m args below meth c H locs 0 0 (MQ below (QK z A (fun _ => some (.int (oI r))) (fun _ => (wv z ad E M))) args s 0 0 A) (F0 m 0 ls []) := by
    intro H locs args hts hP hS
    unfold f_As_length at h
    obtain ⟨h_p0, h⟩ := ck_e h
    refine lv_aload_n hx hb d_23_6_0 rfl (lv_at hl 0 rfl) ?_
    refine m_gi (C := "java/lang/StringBuilder") (T := TX14) (N := 4) (ci := 14) (k := 3) hx hb hts iX14 hown hG hP h_p0.1 h_p0.2 rfl (by decide) w_823 (fun _ h9 => h9) rfl rfl d_23_6_1 ?_
    obtain rfl := in1 h
    exact W.iret hx hb hr (fun t ht hW => qkA hP hD hS (fun k => k) rfl rfl ht) hS.2.2 d_23_6_4
  exact key _ _ _ hts hP hS
set_option maxRecDepth 100000 in
set_option maxHeartbeats 4000000 in
theorem s_Sb_length (l : Launch) (z : Zz) (ad : Nat → Nat) (E : Ev) (M : Mm) (p0 : Nat) (r : Int)  (hL : Lay E) (h : f_Sb_length E M p0 = some r) : CT l z ⟨"java/lang/StringBuilder", "length", "()I"⟩ prog_36_method_93_code 1 (some .int) [.ref (ad p0)] (wv z ad E M) 1 40 0 0 (fun _ => some (.int (oI r))) (fun _ => (wv z ad E M)) := by
  refine CT.of (own := "java/lang/StringBuilder") (by decide +kernel) (Nat.le_of_ble_eq_true rfl) rfl (fun p e s m below meth c A ls hx hb hml hr hts hown hlocks hin hA hG hZ hP hD hS hl => ?_)
  have hl : lv_has ls 1 [(0, .ref (ad p0))] := hl
  have key : ∀ (H : Heap) (locs : List Loc) (args : Array Value), (∀ w ∈ WG, w.before args s = true) → va_P z.1 classes (wv z ad E M) H → va_S A s.heap H locs → W p l e (rmK 1 40 0 0) s m args below meth c H locs 0 0 (MQ below (QK z A (fun _ => some (.int (oI r))) (fun _ => (wv z ad E M))) args s 0 0 A) (F0 m 0 ls []) := by
    intro H locs args hts hP hS
    unfold f_Sb_length at h
    obtain ⟨h_p0, h⟩ := ck_e h
    refine lv_aload_n hx hb d_36_93_0 rfl (lv_at hl 0 rfl) ?_
    obtain ⟨r100, g100, h⟩ := bd_e h
    refine kSU (n := 0) (As := []) (rest := []) (s_As_length l z ad E M p0 r100 hL g100) hx hb hml hown hts w_947 (gin w_947 (List.forall_mem_cons.mpr ⟨w_946, List.forall_mem_cons.mpr ⟨w_942, List.forall_mem_cons.mpr ⟨w_832, List.forall_mem_cons.mpr ⟨w_941, List.forall_mem_cons.mpr ⟨w_18, fun _ h => absurd h List.not_mem_nil⟩⟩⟩⟩⟩)) (by decide +kernel) ⟨Nat.le_of_ble_eq_true rfl, Nat.le_of_ble_eq_true rfl⟩ hG hZ hP hD hS hA p0 (wv_o (ci := 14) h_p0.1 h_p0.2) rfl rfl rfl hl.1 rfl (Nat.le_of_ble_eq_true rfl) d_36_93_1 ⟨Nat.le_of_ble_eq_true rfl, Nat.le_of_ble_eq_true rfl⟩ (fun _ H locs hP hD hS => ?_)
    have hP : va_P z.1 classes (wv z ad E M) H := hP
    have hD : va_D A (wv z ad E M) := hD
    refine W.eq (g2 := F0 m 4 ls [.int (oI r100)]) rfl ?_
    obtain rfl := in1 h
    exact W.iret hx hb hr (fun t ht hW => qkA hP hD hS (fun k => k) rfl rfl ht) hS.2.2 d_36_93_4
  exact key _ _ _ hts hP hS
set_option maxRecDepth 100000 in
set_option maxHeartbeats 4000000 in
theorem s_Ar_checkLength (l : Launch) (z : Zz) (ad : Nat → Nat) (E : Ev) (M : Mm) (x0 : Int) (x1 : Int)  (hL : Lay E) (h : f_Ar_checkLength E M x0 x1 = some ()) : CT l z ⟨"java/util/Arrays", "checkLength", "(II)V"⟩ prog_43_method_131_code 2 none [.int (oI x0), .int (oI x1)] (wv z ad E M) 0 20 0 0 (fun _ => none) (fun _ => (wv z ad E M)) := by
  refine CT.of (own := "java/util/Arrays") (by decide +kernel) (Nat.le_of_ble_eq_true rfl) rfl (fun p e s m below meth c A ls hx hb hml hr hts hown hlocks hin hA hG hZ hP hD hS hl => ?_)
  have hl : lv_has ls 2 [(0, .int (oI x0)), (1, .int (oI x1))] := hl
  have key : ∀ (H : Heap) (locs : List Loc) (args : Array Value), (∀ w ∈ WG, w.before args s = true) → va_P z.1 classes (wv z ad E M) H → va_S A s.heap H locs → W p l e (rmK 0 20 0 0) s m args below meth c H locs 0 0 (MQ below (QK z A (fun _ => none) (fun _ => (wv z ad E M))) args s 0 0 A) (F0 m 0 ls []) := by
    intro H locs args hts hP hS
    unfold f_Ar_checkLength at h
    refine lv_iload_n hx hb d_43_131_0 rfl (lv_at hl 1 rfl) ?_
    refine lv_iload_n hx hb d_43_131_1 rfl (lv_at hl 0 rfl) ?_
    obtain ⟨ok100, h⟩ := ck_e h
    obtain ⟨ok101, h⟩ := ck_e h
    refine lv_icmp_ge (tgt := 37) hx hb d_43_131_2 (by decide) (fun c9 => ?_) (fun c9 => ?_)
    · have h := ite_t ((oI_le (a := x0) (b := x1) ok101 ok100).mp c9) h
      clear h
      exact W.vret hx hb hr (fun t ht hW => qkA hP hD hS (fun k => k) rfl rfl ht) hS.2.2 d_43_131_37
    · have h := ite_f (fun q => c9 ((oI_le (a := x0) (b := x1) ok101 ok100).mpr q)) h
      cases h
  exact key _ _ _ hts hP hS
set_option maxRecDepth 100000 in
set_option maxHeartbeats 4000000 in
theorem s_Ar_copyOfRangeByte (l : Launch) (z : Zz) (ad : Nat → Nat) (E : Ev) (M : Mm) (p0 : Nat) (x1 : Int) (x2 : Int) (r : Nat) (F : Ev) (N : Mm) (h : f_Ar_copyOfRangeByte E M p0 x1 x2 = some (r, F, N)) : CT l z ⟨"java/util/Arrays", "copyOfRangeByte", "([BII)[B"⟩ prog_43_method_133_code 5 (some (.array .byte)) [.ref (ad p0), .int (oI x1), .int (oI x2)] (wv z ad E M) 1 60 1 64 (fun u => some (.ref ((adj E ad u) r))) (fun u => wv z (adj E ad u) F N) := by
  refine CT.of (own := "java/util/Arrays") (by decide +kernel) (Nat.le_of_ble_eq_true rfl) rfl (fun p e s m below meth c A ls hx hb hml hr hts hown hlocks hin hA hG hZ hP hD hS hl => ?_)
  have hl : lv_has ls 5 [(0, .ref (ad p0)), (1, .int (oI x1)), (2, .int (oI x2))] := hl
  have key : ∀ (E0 : Ev) (ad0 : Nat → Nat) (mc ms c0 s0 c1 s1 : Nat) (H : Heap) (locs : List Loc) (args : Array Value), c0 + 1 ≤ c1 → s0 + 64 ≤ s1 → c1 ≤ mc → s1 ≤ ms → (∀ i, i < nE E0 → ad i = ad0 i) → nE E0 ≤ nE E → (∀ w ∈ WG, w.before args s = true) → va_P z.1 classes (wv z ad E M) H → va_S A s.heap H locs → W p l e (rmK 1 60 mc ms) s m args below meth c H locs c0 s0 (MQ below (QK z A (fun u => some (.ref ((adj E0 ad0 u) r))) (fun u => wv z (adj E0 ad0 u) F N)) args s c1 s1 A) (F0 m 0 ls []) := by
    intro E0 ad0 mc ms c0 s0 c1 s1 H locs args hc hs hm hm2 hag0 hE0 hts hP hS
    unfold f_Ar_copyOfRangeByte at h
    obtain ⟨hL, h⟩ := ck_e h
    obtain ⟨h_p0, h⟩ := ck_e h
    refine lv_iload_n hx hb d_43_133_0 rfl (lv_at hl 1 rfl) ?_
    refine lv_iload_n hx hb d_43_133_1 rfl (lv_at hl 2 rfl) ?_
    obtain ⟨_, g100, h⟩ := bd_e h
    refine kS (As := [.int (oI x1), .int (oI x2)]) (rest := []) (s_Ar_checkLength l z ad E M x1 x2 hL g100) hx hb hml hown hts w_957 w_955 w_956 w_23 md_253369 ⟨Nat.le_of_ble_eq_true rfl, Nat.le_of_ble_eq_true rfl⟩ hG hZ hP hD hS hA rfl hl.1 rfl (Nat.le_of_ble_eq_true rfl) d_43_133_2 ⟨(show _ ≤ mc by omega), (show _ ≤ ms by omega)⟩ (fun _ H locs hP hD hS => ?_)
    have hP : va_P z.1 classes (wv z ad E M) H := hP
    have hD : va_D A (wv z ad E M) := hD
    refine W.eq (g2 := F0 m 5 ls []) rfl ?_
    refine lv_iload_n hx hb d_43_133_5 rfl (lv_at hl 2 rfl) ?_
    refine lv_iload_n hx hb d_43_133_6 rfl (lv_at hl 1 rfl) ?_
    refine lv_isub hx hb d_43_133_7 ?_
    refine nrm (oI_sub _ _) ?_
    refine lv_istore_n (lv' := [(3, .int (oI (x2 - x1))), (0, .ref (ad p0)), (1, .int (oI x1)), (2, .int (oI x2))]) hx hb d_43_133_8 rfl hl (by decide) rfl (fun ls hl => ?_)
    refine lv_iload_n hx hb d_43_133_9 rfl (lv_at hl 0 rfl) ?_
    obtain ⟨ok101, h⟩ := ck_e h
    obtain ⟨p102, ep102, h⟩ := nb_e h
    obtain ⟨E102, eE102, h⟩ := nb_e h
    obtain ⟨M102, eM102, h⟩ := nb_e h
    refine m_newB (x := (x2 - x1)) (N := 64) hx hb ok101.1 ok101.2 (by decide) (hts _ w_515) hG hP hD hS hA (show _ ≤ mc by omega) (show _ ≤ ms by omega) d_43_133_10 (fun ad102 H hag102 hP hD hS => ?_)
    have hP : va_P z.1 classes (wv z ad102 E102 M102) H := by rw [eE102, eM102]; exact hP
    have hD : va_D A (wv z ad102 E102 M102) := by rw [eE102, eM102]; exact hD
    refine W.eq (g2 := F0 m 12 ls (.ref (ad102 p102) :: [])) (by rw [ep102] <;> rfl) ?_
    have hl : lv_has ls 5 [(3, .int (oI (x2 - x1))), (0, .ref (ad102 p0)), (1, .int (oI x1)), (2, .int (oI x2))] := by rw [hag102 p0 h_p0.1]; exact hl
    have hgw102 : Gw E E102 := by rw [eE102]; exact gw_new _ _
    have hL102 : Lay E102 := by rw [eE102]; exact lay_new hL
    have hag0 : ∀ i, i < nE E0 → ad102 i = ad0 i := fun i hi => (hag102 i (Nat.lt_of_lt_of_le hi hE0)).trans (hag0 i hi)
    have hE0 : nE E0 ≤ nE E102 := Nat.le_trans hE0 hgw102.1
    have hL : Lay E102 := hL102
    have h_p0 : isBA E102 p0 := isA_up hgw102 h_p0
    have h_p102 : isBA E102 p102 := by rw [ep102, eE102]; exact ⟨new_i _ _, by rw [new_T]⟩
    refine lv_astore (lv' := [(4, .ref (ad102 p102)), (3, .int (oI (x2 - x1))), (0, .ref (ad102 p0)), (1, .int (oI x1)), (2, .int (oI x2))]) hx hb d_43_133_12 hl (by decide) rfl (fun ls hl => ?_)
    refine lv_aload_n hx hb d_43_133_14 rfl (lv_at hl 2 rfl) ?_
    refine lv_iload_n hx hb d_43_133_15 rfl (lv_at hl 3 rfl) ?_
    refine lv_aload hx hb d_43_133_16 (lv_at hl 0 rfl) ?_
    refine lv_iconst (v := oI 0) hx hb d_43_133_18 (by decide +kernel) ?_
    refine lv_aload_n hx hb d_43_133_19 rfl (lv_at hl 2 rfl) ?_
    refine m_lenB (v := ((tE E102 p0).2 : Int)) hx hb hG hP h_p0.1 (isBA_T h_p0) (len_oI _) d_43_133_20 ?_
    refine lv_iload_n hx hb d_43_133_21 rfl (lv_at hl 3 rfl) ?_
    refine lv_isub hx hb d_43_133_22 ?_
    refine nrm (oI_sub _ _) ?_
    refine lv_iload_n hx hb d_43_133_23 rfl (lv_at hl 1 rfl) ?_
    obtain ⟨ok103, h⟩ := ck_e h
    obtain ⟨ok104, h⟩ := ck_e h
    refine va_mmin hx hb (by rw [hml]; exact hl.1.symm) hown (hts _ w_867) (hts _ w_521) (hts _ w_17) (hts _ w_min) (Nat.le_of_ble_eq_true rfl) (Nat.le_of_ble_eq_true rfl) (show _ ≤ mc by omega) (show _ ≤ ms by omega) d_43_133_24 ?_
    refine nrm (mn_oI (a := (((tE E102 p0).2 : Int) - x1)) (b := (x2 - x1)) ok103 ok104) ?_
    obtain ⟨v105, e105, h⟩ := nb_e h
    refine nrm (congrArg oI e105.symm) ?_
    obtain ⟨ok106, h⟩ := ck_e h
    obtain ⟨ok107, h⟩ := ck_e h
    refine m_cpyB hx hb (by rw [hml]; exact hl.1.symm) hown (hts _ w_868) (hts _ w_621) (hts _ w_620) (hts _ w_24) hG hP hD hS h_p0.1 (isBA_T h_p0) h_p102.1 (isBA_T h_p102) ok106 ok107 (Nat.le_of_ble_eq_true rfl) (Nat.le_of_ble_eq_true rfl) d_43_133_27 (fun H locs hP hD hS => ?_)
    have hP : va_P z.1 classes (wv z ad102 E102 (uA M102 p102 (va_cpy (M102 p0) (M102 p102) x1.toNat 0 v105.toNat))) H := hP
    have hD : va_D A (wv z ad102 E102 (uA M102 p102 (va_cpy (M102 p0) (M102 p102) x1.toNat 0 v105.toNat))) := hD
    refine lv_aload hx hb d_43_133_30 (lv_at hl 0 rfl) ?_
    refine W.wide (k := c1) (n := s1) (by omega) (by omega) ?_
    obtain ⟨rfl, rfl, rfl⟩ := in3 h
    exact W.aret hx hb hr (Or.inr ⟨_, rfl⟩) (Or.inr ⟨_, rfl⟩) (fun t ht hW => qkA hP hD hS ad102 (congrArg (fun q => wv z q E102 (uA M102 p102 (va_cpy (M102 p0) (M102 p102) x1.toNat 0 v105.toNat))) (adj_self hag0).symm) (congrArg (fun q => some (Value.ref (q p102))) (adj_self hag0).symm) ht) hS.2.2 d_43_133_32
  exact key E ad 1 64 0 0 1 64 _ _ _ (by decide) (by decide) (by decide) (by decide) (fun _ _ => rfl) (Nat.le_refl _) hts hP hS
set_option maxRecDepth 100000 in
set_option maxHeartbeats 4000000 in
theorem b_Ar_copyOfRange_j10 (l : Launch) (z : Zz) (E0 : Ev) (ad0 : Nat → Nat) (ad : Nat → Nat) (E : Ev) (M : Mm) (q0 : Nat) (x1 : Int) (x2 : Int) (r : Nat) (F : Ev) (N : Mm) {p : Program} {e : Env} {s : State} {m : MethodId} {below : List Frame} {meth : Method} {c : Code} {A : Nat → Prop} {args : Array Value} (hx : p.tables.exec = Jvm.exec) (hb : c.code = prog_43_method_132_code) (hml : c.maxLocals = 3) (hts : ∀ w ∈ WG, w.before args s = true) (hown : s.vm.findClass "java/util/Arrays" = some m.cls) (hlocks : meth.locks = false) (hA : ∀ q, s.heap.size ≤ q → A q) (hG : KG z s) (hZ : FZ z A s) (hr : meth.sig.returnType = (some (.array .byte))) (mc ms c0 s0 c1 s1 : Nat) (hc : c0 + 1 ≤ c1) (hs : s0 + 64 ≤ s1) (hm : c1 ≤ mc) (hm2 : s1 ≤ ms) (hag0 : ∀ i, i < nE E0 → ad i = ad0 i) (hE0 : nE E0 ≤ nE E) (h : Ar_copyOfRange_j10 E M q0 x1 x2 = some (r, F, N)) : ∀ (H : Heap) (locs : List Loc) (ls : Array Slot), va_P z.1 classes (wv z ad E M) H → va_D A (wv z ad E M) → va_S A s.heap H locs → lv_has ls 3 [(0, .ref (ad q0)), (1, .int (oI x1)), (2, .int (oI x2))] → W p l e (rmK 2 84 mc ms) s m args below meth c H locs c0 s0 (MQ below (QK z A (fun u => some (.ref ((adj E0 ad0 u) r))) (fun u => wv z (adj E0 ad0 u) F N)) args s c1 s1 A) (F0 m 10 ls []) := by
  intro H locs ls hP hD hS hl
  unfold Ar_copyOfRange_j10 at h
  obtain ⟨hL, h⟩ := ck_e h
  obtain ⟨h_q0, h⟩ := ck_e h
  refine lv_aload_n hx hb d_43_132_10 rfl (lv_at hl 0 rfl) ?_
  refine lv_iload_n hx hb d_43_132_11 rfl (lv_at hl 1 rfl) ?_
  refine lv_iload_n hx hb d_43_132_12 rfl (lv_at hl 2 rfl) ?_
  obtain ⟨⟨r101, E101, M101⟩, g101, h⟩ := bd_e h
  obtain ⟨hgw101, h⟩ := ck_e h
  refine kS (As := [.ref (ad q0), .int (oI x1), .int (oI x2)]) (rest := []) (s_Ar_copyOfRangeByte l z ad E M q0 x1 x2 r101 E101 M101 g101) hx hb hml hown hts w_954 w_952 w_953 w_23 md_69156a ⟨Nat.le_of_ble_eq_true rfl, Nat.le_of_ble_eq_true rfl⟩ hG hZ hP hD hS hA rfl hl.1 rfl (Nat.le_of_ble_eq_true rfl) d_43_132_13 ⟨(show _ ≤ mc by omega), (show _ ≤ ms by omega)⟩ (fun u101 H locs hP hD hS => ?_)
  obtain ⟨ad101, had101⟩ : ∃ q, q = adj E ad u101 := ⟨_, rfl⟩
  have hP : va_P z.1 classes (wv z ad101 E101 M101) H := by rw [had101]; exact hP
  have hD : va_D A (wv z ad101 E101 M101) := by rw [had101]; exact hD
  have hag101 : ∀ i, i < nE E → ad101 i = ad i := fun i hi => by rw [had101]; exact adj_lt hi
  have hl : lv_has ls 3 [(0, .ref (ad101 q0)), (1, .int (oI x1)), (2, .int (oI x2))] := by rw [hag101 q0 h_q0.1]; exact hl
  refine W.eq (g2 := F0 m 16 ls (.ref (ad101 r101) :: [])) (by rw [had101] <;> rfl) ?_
  have hag0 : ∀ i, i < nE E0 → ad101 i = ad0 i := fun i hi => (hag101 i (Nat.lt_of_lt_of_le hi hE0)).trans (hag0 i hi)
  have hE0 : nE E0 ≤ nE E101 := Nat.le_trans hE0 hgw101.1
  obtain ⟨hL, h⟩ := ck_e h
  have h_q0 : isBA E101 q0 := isA_up hgw101 h_q0
  obtain ⟨h_r101, h⟩ := ck_e h
  refine W.wide (k := c1) (n := s1) (by omega) (by omega) ?_
  obtain ⟨rfl, rfl, rfl⟩ := in3 h
  exact W.aret hx hb hr (Or.inr ⟨_, rfl⟩) (Or.inr ⟨_, rfl⟩) (fun t ht hW => qkA hP hD hS ad101 (congrArg (fun q => wv z q E101 M101) (adj_self hag0).symm) (congrArg (fun q => some (Value.ref (q r101))) (adj_self hag0).symm) ht) hS.2.2 d_43_132_16
set_option maxRecDepth 100000 in
set_option maxHeartbeats 4000000 in
theorem s_Ar_copyOfRange (l : Launch) (z : Zz) (ad : Nat → Nat) (E : Ev) (M : Mm) (p0 : Nat) (x1 : Int) (x2 : Int) (r : Nat) (F : Ev) (N : Mm) (h : f_Ar_copyOfRange E M p0 x1 x2 = some (r, F, N)) : CT l z ⟨"java/util/Arrays", "copyOfRange", "([BII)[B"⟩ prog_43_method_132_code 3 (some (.array .byte)) [.ref (ad p0), .int (oI x1), .int (oI x2)] (wv z ad E M) 2 84 1 64 (fun u => some (.ref ((adj E ad u) r))) (fun u => wv z (adj E ad u) F N) := by
  refine CT.of (own := "java/util/Arrays") (by decide +kernel) (Nat.le_of_ble_eq_true rfl) rfl (fun p e s m below meth c A ls hx hb hml hr hts hown hlocks hin hA hG hZ hP hD hS hl => ?_)
  have hl : lv_has ls 3 [(0, .ref (ad p0)), (1, .int (oI x1)), (2, .int (oI x2))] := hl
  have key : ∀ (E0 : Ev) (ad0 : Nat → Nat) (mc ms c0 s0 c1 s1 : Nat) (H : Heap) (locs : List Loc) (args : Array Value), c0 + 1 ≤ c1 → s0 + 64 ≤ s1 → c1 ≤ mc → s1 ≤ ms → (∀ i, i < nE E0 → ad i = ad0 i) → nE E0 ≤ nE E → (∀ w ∈ WG, w.before args s = true) → va_P z.1 classes (wv z ad E M) H → va_S A s.heap H locs → W p l e (rmK 2 84 mc ms) s m args below meth c H locs c0 s0 (MQ below (QK z A (fun u => some (.ref ((adj E0 ad0 u) r))) (fun u => wv z (adj E0 ad0 u) F N)) args s c1 s1 A) (F0 m 0 ls []) := by
    intro E0 ad0 mc ms c0 s0 c1 s1 H locs args hc hs hm hm2 hag0 hE0 hts hP hS
    unfold f_Ar_copyOfRange at h
    obtain ⟨hL, h⟩ := ck_e h
    obtain ⟨h_p0, h⟩ := ck_e h
    refine lv_iload_n hx hb d_43_132_0 rfl (lv_at hl 1 rfl) ?_
    obtain ⟨ok100, h⟩ := ck_e h
    refine lv_if_ne (tgt := 10) hx hb d_43_132_1 (by decide) (fun c9 => ?_) (fun c9 => ?_)
    · have h := ite_f (fun q => c9 ((oI_eq0 ok100).mpr q)) h
      exact b_Ar_copyOfRange_j10 l z E0 ad0 ad E M p0 x1 x2 r F N hx hb hml hts hown hlocks hA hG hZ hr mc ms _ _ c1 s1 (by omega) (by omega) hm hm2 hag0 hE0 h H locs ls hP hD hS (lv_sub hl [0, 1, 2] rfl)
    · have h := ite_t ((oI_eq0 ok100).mp c9) h
      refine lv_iload_n hx hb d_43_132_4 rfl (lv_at hl 2 rfl) ?_
      refine lv_aload_n hx hb d_43_132_5 rfl (lv_at hl 0 rfl) ?_
      refine m_lenB (v := ((tE E p0).2 : Int)) hx hb hG hP h_p0.1 (isBA_T h_p0) (len_oI _) d_43_132_6 ?_
      obtain ⟨ok102, h⟩ := ck_e h
      obtain ⟨ok103, h⟩ := ck_e h
      refine lv_icmp_eq (tgt := 17) hx hb d_43_132_7 (by decide) (fun c9 => ?_) (fun c9 => ?_)
      · have h := ite_t ((oI_eq (a := x2) (b := ((tE E p0).2 : Int)) ok102 ok103).mp c9) h
        cases h
      · have h := ite_f (fun q => c9 ((oI_eq (a := x2) (b := ((tE E p0).2 : Int)) ok102 ok103).mpr q)) h
        exact b_Ar_copyOfRange_j10 l z E0 ad0 ad E M p0 x1 x2 r F N hx hb hml hts hown hlocks hA hG hZ hr mc ms _ _ c1 s1 (by omega) (by omega) hm hm2 hag0 hE0 h H locs ls hP hD hS (lv_sub hl [0, 1, 2] rfl)
  exact key E ad 1 64 0 0 1 64 _ _ _ (by decide) (by decide) (by decide) (by decide) (fun _ _ => rfl) (Nat.le_refl _) hts hP hS
set_option maxRecDepth 100000 in
set_option maxHeartbeats 4000000 in
theorem s_St_init2 (l : Launch) (z : Zz) (ad : Nat → Nat) (E : Ev) (M : Mm) (p0 : Nat) (p1 : Nat) (F : Ev) (N : Mm) (h : f_St_init2 E M p0 p1 = some (F, N)) : CT l z ⟨"java/lang/String", "<init>", "(Ljava/lang/AbstractStringBuilder;Ljava/lang/Void;)V"⟩ prog_35_method_150_code 5 none [.ref (ad p0), .ref (ad p1), .null] (wv z ad E M) 3 106 1 64 (fun u => none) (fun u => wv z (adj E ad u) F N) := by
  refine CT.of (own := "java/lang/String") (by decide +kernel) (Nat.le_of_ble_eq_true rfl) rfl (fun p e s m below meth c A ls hx hb hml hr hts hown hlocks hin hA hG hZ hP hD hS hl => ?_)
  have hl : lv_has ls 5 [(0, .ref (ad p0)), (1, .ref (ad p1)), (2, .null)] := hl
  have key : ∀ (E0 : Ev) (ad0 : Nat → Nat) (mc ms c0 s0 c1 s1 : Nat) (H : Heap) (locs : List Loc) (args : Array Value), c0 + 1 ≤ c1 → s0 + 64 ≤ s1 → c1 ≤ mc → s1 ≤ ms → (∀ i, i < nE E0 → ad i = ad0 i) → nE E0 ≤ nE E → (∀ w ∈ WG, w.before args s = true) → va_P z.1 classes (wv z ad E M) H → va_S A s.heap H locs → W p l e (rmK 3 106 mc ms) s m args below meth c H locs c0 s0 (MQ below (QK z A (fun u => none) (fun u => wv z (adj E0 ad0 u) F N)) args s c1 s1 A) (F0 m 0 ls []) := by
    intro E0 ad0 mc ms c0 s0 c1 s1 H locs args hc hs hm hm2 hag0 hE0 hts hP hS
    unfold f_St_init2 at h
    obtain ⟨hL, h⟩ := ck_e h
    obtain ⟨h_p0, h⟩ := ck_e h
    obtain ⟨h_p1, h⟩ := ck_e h
    refine lv_aload_n hx hb d_35_150_0 rfl (lv_at hl 0 rfl) ?_
    refine W.objInit hx hb hown (hts _ w_934) (hts _ w_38) (hts _ w_obj) rfl (by rw [hml]; exact hl.1) rfl d_35_150_1 (Nat.le_of_ble_eq_true rfl) (Nat.le_of_ble_eq_true rfl) ?_
    refine W.eq (g2 := F0 m 4 ls []) rfl ?_
    refine lv_aload_n hx hb d_35_150_4 rfl (lv_at hl 1 rfl) ?_
    obtain ⟨r100, g100, h⟩ := bd_e h
    refine kV (As := []) (rest := []) (s_As_getValue l z ad E M p1 r100 hL g100) hx hb hml hown hts w_939 w_935 w_936 w_938 w_18 md_7585f7 ⟨Nat.le_of_ble_eq_true rfl, Nat.le_of_ble_eq_true rfl⟩ hG hZ hP hD hS hA p1 (wv_o (ci := 14) h_p1.1 h_p1.2) rfl rfl rfl hl.1 rfl (Nat.le_of_ble_eq_true rfl) d_35_150_5 ⟨(show _ ≤ mc by omega), (show _ ≤ ms by omega)⟩ (fun _ H locs hP hD hS => ?_)
    have hP : va_P z.1 classes (wv z ad E M) H := hP
    have hD : va_D A (wv z ad E M) := hD
    obtain ⟨h_r100, h⟩ := ck_e h
    refine W.eq (g2 := F0 m 8 ls [.ref (ad r100)]) rfl ?_
    refine lv_astore_n (lv' := [(3, .ref (ad r100)), (0, .ref (ad p0)), (1, .ref (ad p1)), (2, .null)]) hx hb d_35_150_8 rfl hl (by decide) rfl (fun ls hl => ?_)
    refine lv_aload_n hx hb d_35_150_9 rfl (lv_at hl 2 rfl) ?_
    obtain ⟨r101, g101, h⟩ := bd_e h
    refine kU (n := 0) (As := []) (rest := []) (s_Sb_length l z ad E M p1 r101 hL g101) hx hb hml hown hts w_945 (gin w_945 (List.forall_mem_cons.mpr ⟨w_940, List.forall_mem_cons.mpr ⟨w_942, List.forall_mem_cons.mpr ⟨w_941, List.forall_mem_cons.mpr ⟨w_943, List.forall_mem_cons.mpr ⟨w_944, List.forall_mem_cons.mpr ⟨w_19, fun _ h => absurd h List.not_mem_nil⟩⟩⟩⟩⟩⟩)) w_947 (by decide +kernel) ⟨Nat.le_of_ble_eq_true rfl, Nat.le_of_ble_eq_true rfl⟩ hG hZ hP hD hS hA p1 (wv_o (ci := 14) h_p1.1 h_p1.2) rfl rfl rfl hl.1 rfl (Nat.le_of_ble_eq_true rfl) d_35_150_10 ⟨(show _ ≤ mc by omega), (show _ ≤ ms by omega)⟩ (fun _ H locs hP hD hS => ?_)
    have hP : va_P z.1 classes (wv z ad E M) H := hP
    have hD : va_D A (wv z ad E M) := hD
    refine W.eq (g2 := F0 m 13 ls [.int (oI r101)]) rfl ?_
    refine lv_istore (lv' := [(4, .int (oI r101)), (3, .ref (ad r100)), (0, .ref (ad p0)), (1, .ref (ad p1)), (2, .null)]) hx hb d_35_150_13 hl (by decide) rfl (fun ls hl => ?_)
    refine lv_aload_n hx hb d_35_150_15 rfl (lv_at hl 3 rfl) ?_
    obtain ⟨r102, g102, h⟩ := bd_e h
    refine kV (As := []) (rest := []) (s_As_isLatin1 l z ad E M p1 r102 hL g102) hx hb hml hown hts w_873 w_948 w_870 w_872 w_18 md_d241c4 ⟨Nat.le_of_ble_eq_true rfl, Nat.le_of_ble_eq_true rfl⟩ hG hZ hP hD hS hA p1 (wv_o (ci := 14) h_p1.1 h_p1.2) rfl rfl rfl hl.1 rfl (Nat.le_of_ble_eq_true rfl) d_35_150_16 ⟨(show _ ≤ mc by omega), (show _ ≤ ms by omega)⟩ (fun _ H locs hP hD hS => ?_)
    have hP : va_P z.1 classes (wv z ad E M) H := hP
    have hD : va_D A (wv z ad E M) := hD
    refine W.eq (g2 := F0 m 19 ls [.int (oI r102)]) rfl ?_
    obtain ⟨ok103, h⟩ := ck_e h
    refine lv_if_eq (tgt := 41) hx hb d_35_150_19 (by decide) (fun c9 => ?_) (fun c9 => ?_)
    · have h := ite_t ((oI_eq0 ok103).mp c9) h
      cases h
    · have h := ite_f (fun q => c9 ((oI_eq0 ok103).mpr q)) h
      refine lv_aload_n hx hb d_35_150_22 rfl (lv_at hl 2 rfl) ?_
      refine lv_iconst (v := oI 0) hx hb d_35_150_23 (by decide +kernel) ?_
      refine m_piF (C := "java/lang/String") (T := TX13) (N := 4) (ci := 13) (k := 1) (ty := .byte) hx hb hts iX13 hown hG hP hD hS h_p0.1 h_p0.2 rfl (by decide) w_973 (fun _ h9 => h9) rfl rfl tyX13_ok nmX13 rfl hin rfl (by decide +kernel) rfl rfl d_35_150_24 (fun H locs hP hD hS => ?_)
      have hP : va_P z.1 classes (wv z ad E (u2 M p0 1 0)) H := hP
      have hD : va_D A (wv z ad E (u2 M p0 1 0)) := hD
      refine lv_aload_n hx hb d_35_150_27 rfl (lv_at hl 2 rfl) ?_
      refine lv_aload_n hx hb d_35_150_28 rfl (lv_at hl 1 rfl) ?_
      refine lv_iconst (v := oI 0) hx hb d_35_150_29 (by decide +kernel) ?_
      refine lv_iload hx hb d_35_150_30 (lv_at hl 0 rfl) ?_
      obtain ⟨⟨r104, E104, M104⟩, g104, h⟩ := bd_e h
      obtain ⟨hgw104, h⟩ := ck_e h
      refine kS (As := [.ref (ad r100), .int (oI 0), .int (oI r101)]) (rest := [.ref (ad p0)]) (s_Ar_copyOfRange l z ad E (u2 M p0 1 0) r100 0 r101 r104 E104 M104 g104) hx hb hml hown hts w_951 w_949 w_950 w_23 md_21582b ⟨Nat.le_of_ble_eq_true rfl, Nat.le_of_ble_eq_true rfl⟩ hG hZ hP hD hS hA rfl hl.1 rfl (Nat.le_of_ble_eq_true rfl) d_35_150_32 ⟨(show _ ≤ mc by omega), (show _ ≤ ms by omega)⟩ (fun u104 H locs hP hD hS => ?_)
      obtain ⟨ad104, had104⟩ : ∃ q, q = adj E ad u104 := ⟨_, rfl⟩
      have hP : va_P z.1 classes (wv z ad104 E104 M104) H := by rw [had104]; exact hP
      have hD : va_D A (wv z ad104 E104 M104) := by rw [had104]; exact hD
      have hag104 : ∀ i, i < nE E → ad104 i = ad i := fun i hi => by rw [had104]; exact adj_lt hi
      have hl : lv_has ls 5 [(4, .int (oI r101)), (3, .ref (ad104 r100)), (0, .ref (ad104 p0)), (1, .ref (ad104 p1)), (2, .null)] := by rw [hag104 r100 h_r100.1, hag104 p0 h_p0.1, hag104 p1 h_p1.1]; exact hl
      refine W.eq (g2 := F0 m 35 ls (.ref (ad104 r104) :: [.ref (ad104 p0)])) (by rw [hag104 p0 h_p0.1, had104] <;> rfl) ?_
      have hag0 : ∀ i, i < nE E0 → ad104 i = ad0 i := fun i hi => (hag104 i (Nat.lt_of_lt_of_le hi hE0)).trans (hag0 i hi)
      have hE0 : nE E0 ≤ nE E104 := Nat.le_trans hE0 hgw104.1
      obtain ⟨hL, h⟩ := ck_e h
      have h_r100 : isBA E104 r100 := isA_up hgw104 h_r100
      have h_p0 : isO 13 E104 p0 := isO_up hgw104 h_p0
      have h_p1 : isO 14 E104 p1 := isO_up hgw104 h_p1
      obtain ⟨h_r104, h⟩ := ck_e h
      obtain ⟨E105, eE105, h⟩ := nb_e h
      refine m_prF (C := "java/lang/String") (T := TX13) (N := 4) (ci := 13) (k := 0) (ty := (.array .byte)) hx hb hts iX13 hown hG hP hD hS h_p0.1 h_p0.2 rfl (by decide) w_972 (fun _ h9 => h9) rfl rfl tyX13_ok nmX13 rfl hin rfl (by decide +kernel) h_r104.1 (fun _ => rfl) (fun _ => rfl) d_35_150_35 (fun H locs hP hD hS => ?_)
      have hP : va_P z.1 classes (wv z ad104 E105 M104) H := by rw [eE105]; exact hP
      have hD : va_D A (wv z ad104 E105 M104) := by rw [eE105]; exact hD
      have hgw105 : Gw E104 E105 := by rw [eE105]; exact gw_ref _ _ _ _
      have hE0 : nE E0 ≤ nE E105 := Nat.le_trans hE0 hgw105.1
      obtain ⟨hL, h⟩ := ck_e h
      have h_r100 : isBA E105 r100 := isA_up hgw105 h_r100
      have h_p0 : isO 13 E105 p0 := isO_up hgw105 h_p0
      have h_p1 : isO 14 E105 p1 := isO_up hgw105 h_p1
      refine W.eq (g2 := F0 m 38 ls []) rfl ?_
      refine lv_goto (tgt := 97) hx hb d_35_150_38 (by decide) ?_
      refine W.wide (k := c1) (n := s1) (by omega) (by omega) ?_
      obtain ⟨rfl, rfl⟩ := in2 h
      exact W.vret hx hb hr (fun t ht hW => qkA hP hD hS ad104 (congrArg (fun q => wv z q E105 M104) (adj_self hag0).symm) rfl ht) hS.2.2 d_35_150_97
  exact key E ad 1 64 0 0 1 64 _ _ _ (by decide) (by decide) (by decide) (by decide) (fun _ _ => rfl) (Nat.le_refl _) hts hP hS
set_option maxRecDepth 100000 in
set_option maxHeartbeats 4000000 in
theorem s_St_init (l : Launch) (z : Zz) (ad : Nat → Nat) (E : Ev) (M : Mm) (p0 : Nat) (p1 : Nat) (F : Ev) (N : Mm) (h : f_St_init E M p0 p1 = some (F, N)) : CT l z ⟨"java/lang/String", "<init>", "(Ljava/lang/StringBuilder;)V"⟩ prog_35_method_53_code 2 none [.ref (ad p0), .ref (ad p1)] (wv z ad E M) 4 130 1 64 (fun u => none) (fun u => wv z (adj E ad u) F N) := by
  refine CT.of (own := "java/lang/String") (by decide +kernel) (Nat.le_of_ble_eq_true rfl) rfl (fun p e s m below meth c A ls hx hb hml hr hts hown hlocks hin hA hG hZ hP hD hS hl => ?_)
  have hl : lv_has ls 2 [(0, .ref (ad p0)), (1, .ref (ad p1))] := hl
  have key : ∀ (E0 : Ev) (ad0 : Nat → Nat) (mc ms c0 s0 c1 s1 : Nat) (H : Heap) (locs : List Loc) (args : Array Value), c0 + 1 ≤ c1 → s0 + 64 ≤ s1 → c1 ≤ mc → s1 ≤ ms → (∀ i, i < nE E0 → ad i = ad0 i) → nE E0 ≤ nE E → (∀ w ∈ WG, w.before args s = true) → va_P z.1 classes (wv z ad E M) H → va_S A s.heap H locs → W p l e (rmK 4 130 mc ms) s m args below meth c H locs c0 s0 (MQ below (QK z A (fun u => none) (fun u => wv z (adj E0 ad0 u) F N)) args s c1 s1 A) (F0 m 0 ls []) := by
    intro E0 ad0 mc ms c0 s0 c1 s1 H locs args hc hs hm hm2 hag0 hE0 hts hP hS
    unfold f_St_init at h
    obtain ⟨hL, h⟩ := ck_e h
    obtain ⟨h_p0, h⟩ := ck_e h
    obtain ⟨h_p1, h⟩ := ck_e h
    refine lv_aload_n hx hb d_35_53_0 rfl (lv_at hl 0 rfl) ?_
    refine lv_aload_n hx hb d_35_53_1 rfl (lv_at hl 1 rfl) ?_
    refine lv_null hx hb d_35_53_2 ?_
    obtain ⟨⟨E100, M100⟩, g100, h⟩ := bd_e h
    obtain ⟨hgw100, h⟩ := ck_e h
    refine kI (As := [.ref (ad p1), .null]) (rest := []) (s_St_init2 l z ad E M p0 p1 E100 M100 g100) hx hb hml hown hts w_933 w_931 w_932 rfl w_20 md_052a9f ⟨Nat.le_of_ble_eq_true rfl, Nat.le_of_ble_eq_true rfl⟩ hG hZ hP hD hS hA rfl hl.1 rfl (Nat.le_of_ble_eq_true rfl) d_35_53_3 ⟨(show _ ≤ mc by omega), (show _ ≤ ms by omega)⟩ (fun u100 H locs hP hD hS => ?_)
    obtain ⟨ad100, had100⟩ : ∃ q, q = adj E ad u100 := ⟨_, rfl⟩
    have hP : va_P z.1 classes (wv z ad100 E100 M100) H := by rw [had100]; exact hP
    have hD : va_D A (wv z ad100 E100 M100) := by rw [had100]; exact hD
    have hag100 : ∀ i, i < nE E → ad100 i = ad i := fun i hi => by rw [had100]; exact adj_lt hi
    have hl : lv_has ls 2 [(0, .ref (ad100 p0)), (1, .ref (ad100 p1))] := by rw [hag100 p0 h_p0.1, hag100 p1 h_p1.1]; exact hl
    refine W.eq (g2 := F0 m 6 ls []) (by rfl) ?_
    have hag0 : ∀ i, i < nE E0 → ad100 i = ad0 i := fun i hi => (hag100 i (Nat.lt_of_lt_of_le hi hE0)).trans (hag0 i hi)
    have hE0 : nE E0 ≤ nE E100 := Nat.le_trans hE0 hgw100.1
    obtain ⟨hL, h⟩ := ck_e h
    have h_p0 : isO 13 E100 p0 := isO_up hgw100 h_p0
    have h_p1 : isO 14 E100 p1 := isO_up hgw100 h_p1
    refine W.wide (k := c1) (n := s1) (by omega) (by omega) ?_
    obtain ⟨rfl, rfl⟩ := in2 h
    exact W.vret hx hb hr (fun t ht hW => qkA hP hD hS ad100 (congrArg (fun q => wv z q E100 M100) (adj_self hag0).symm) rfl ht) hS.2.2 d_35_53_6
  exact key E ad 1 64 0 0 1 64 _ _ _ (by decide) (by decide) (by decide) (by decide) (fun _ _ => rfl) (Nat.le_refl _) hts hP hS
set_option maxRecDepth 100000 in
set_option maxHeartbeats 4000000 in
theorem s_Sb_toString (l : Launch) (z : Zz) (ad : Nat → Nat) (E : Ev) (M : Mm) (p0 : Nat) (r : Nat) (F : Ev) (N : Mm) (h : f_Sb_toString E M p0 = some (r, F, N)) : CT l z ⟨"java/lang/StringBuilder", "toString", "()Ljava/lang/String;"⟩ prog_36_method_42_code 1 (some (.object "java/lang/String")) [.ref (ad p0)] (wv z ad E M) 5 151 2 68 (fun u => some (.ref ((adj E ad u) r))) (fun u => wv z (adj E ad u) F N) := by
  refine CT.of (own := "java/lang/StringBuilder") (by decide +kernel) (Nat.le_of_ble_eq_true rfl) rfl (fun p e s m below meth c A ls hx hb hml hr hts hown hlocks hin hA hG hZ hP hD hS hl => ?_)
  have hl : lv_has ls 1 [(0, .ref (ad p0))] := hl
  have key : ∀ (E0 : Ev) (ad0 : Nat → Nat) (mc ms c0 s0 c1 s1 : Nat) (H : Heap) (locs : List Loc) (args : Array Value), c0 + 2 ≤ c1 → s0 + 68 ≤ s1 → c1 ≤ mc → s1 ≤ ms → (∀ i, i < nE E0 → ad i = ad0 i) → nE E0 ≤ nE E → (∀ w ∈ WG, w.before args s = true) → va_P z.1 classes (wv z ad E M) H → va_S A s.heap H locs → W p l e (rmK 5 151 mc ms) s m args below meth c H locs c0 s0 (MQ below (QK z A (fun u => some (.ref ((adj E0 ad0 u) r))) (fun u => wv z (adj E0 ad0 u) F N)) args s c1 s1 A) (F0 m 0 ls []) := by
    intro E0 ad0 mc ms c0 s0 c1 s1 H locs args hc hs hm hm2 hag0 hE0 hts hP hS
    unfold f_Sb_toString at h
    obtain ⟨hL, h⟩ := ck_e h
    obtain ⟨h_p0, h⟩ := ck_e h
    obtain ⟨p100, ep100, h⟩ := nb_e h
    obtain ⟨E100, eE100, h⟩ := nb_e h
    obtain ⟨M100, eM100, h⟩ := nb_e h
    refine m_newO (ci := 13) (C := "java/lang/String") (T := TX13) (n := 4) hx hb hts iX13 tyX13_ok hown w_926 w_927 w_20 rfl (fun _ => fsX13) hG hP hD hS hA (show _ ≤ mc by omega) (show _ ≤ ms by omega) d_36_42_0 (fun ad100 H hag100 hP hD hS => ?_)
    have hP : va_P z.1 classes (wv z ad100 E100 M100) H := by rw [eE100, eM100]; exact hP
    have hD : va_D A (wv z ad100 E100 M100) := by rw [eE100, eM100]; exact hD
    refine W.eq (g2 := F0 m 3 ls (.ref (ad100 p100) :: [])) (by rw [ep100] <;> rfl) ?_
    have hl : lv_has ls 1 [(0, .ref (ad100 p0))] := by rw [hag100 p0 h_p0.1]; exact hl
    have hgw100 : Gw E E100 := by rw [eE100]; exact gw_new _ _
    have hL100 : Lay E100 := by rw [eE100]; exact lay_new hL
    have hag0 : ∀ i, i < nE E0 → ad100 i = ad0 i := fun i hi => (hag100 i (Nat.lt_of_lt_of_le hi hE0)).trans (hag0 i hi)
    have hE0 : nE E0 ≤ nE E100 := Nat.le_trans hE0 hgw100.1
    have hL : Lay E100 := hL100
    have h_p0 : isO 14 E100 p0 := isO_up hgw100 h_p0
    have h_p100 : isO 13 E100 p100 := by rw [ep100, eE100]; exact ⟨new_i _ _, new_T _ _⟩
    refine lv_dup hx hb d_36_42_3 rfl ?_
    refine lv_aload_n hx hb d_36_42_4 rfl (lv_at hl 0 rfl) ?_
    obtain ⟨⟨E101, M101⟩, g101, h⟩ := bd_e h
    obtain ⟨hgw101, h⟩ := ck_e h
    refine kI (As := [.ref (ad100 p0)]) (rest := [.ref (ad100 p100)]) (s_St_init l z ad100 E100 M100 p100 p0 E101 M101 g101) hx hb hml hown hts w_930 w_928 w_929 rfl w_20 md_2eb54e ⟨Nat.le_of_ble_eq_true rfl, Nat.le_of_ble_eq_true rfl⟩ hG hZ hP hD hS hA rfl hl.1 rfl (Nat.le_of_ble_eq_true rfl) d_36_42_5 ⟨(show _ ≤ mc by omega), (show _ ≤ ms by omega)⟩ (fun u101 H locs hP hD hS => ?_)
    obtain ⟨ad101, had101⟩ : ∃ q, q = adj E100 ad100 u101 := ⟨_, rfl⟩
    have hP : va_P z.1 classes (wv z ad101 E101 M101) H := by rw [had101]; exact hP
    have hD : va_D A (wv z ad101 E101 M101) := by rw [had101]; exact hD
    have hag101 : ∀ i, i < nE E100 → ad101 i = ad100 i := fun i hi => by rw [had101]; exact adj_lt hi
    have hl : lv_has ls 1 [(0, .ref (ad101 p0))] := by rw [hag101 p0 h_p0.1]; exact hl
    refine W.eq (g2 := F0 m 8 ls [.ref (ad101 p100)]) (by rw [hag101 p100 h_p100.1] <;> rfl) ?_
    have hag0 : ∀ i, i < nE E0 → ad101 i = ad0 i := fun i hi => (hag101 i (Nat.lt_of_lt_of_le hi hE0)).trans (hag0 i hi)
    have hE0 : nE E0 ≤ nE E101 := Nat.le_trans hE0 hgw101.1
    obtain ⟨hL, h⟩ := ck_e h
    have h_p0 : isO 14 E101 p0 := isO_up hgw101 h_p0
    have h_p100 : isO 13 E101 p100 := isO_up hgw101 h_p100
    refine W.wide (k := c1) (n := s1) (by omega) (by omega) ?_
    obtain ⟨rfl, rfl, rfl⟩ := in3 h
    exact W.aret hx hb hr (Or.inl ⟨_, rfl⟩) (Or.inr ⟨_, rfl⟩) (fun t ht hW => qkA hP hD hS ad101 (congrArg (fun q => wv z q E101 M101) (adj_self hag0).symm) (congrArg (fun q => some (Value.ref (q p100))) (adj_self hag0).symm) ht) hS.2.2 d_36_42_8
  exact key E ad 2 68 0 0 2 68 _ _ _ (by decide) (by decide) (by decide) (by decide) (fun _ _ => rfl) (Nat.le_refl _) hts hP hS
set_option maxRecDepth 100000 in
set_option maxHeartbeats 4000000 in
theorem s_St_coder (l : Launch) (z : Zz) (ad : Nat → Nat) (E : Ev) (M : Mm) (p0 : Nat) (r : Int)  (hL : Lay E) (h : f_St_coder E M p0 = some r) : CT l z ⟨"java/lang/String", "coder", "()B"⟩ prog_35_method_152_code 1 (some .byte) [.ref (ad p0)] (wv z ad E M) 0 20 0 0 (fun _ => some (.int (oI r))) (fun _ => (wv z ad E M)) := by
  refine CT.of (own := "java/lang/String") (by decide +kernel) (Nat.le_of_ble_eq_true rfl) rfl (fun p e s m below meth c A ls hx hb hml hr hts hown hlocks hin hA hG hZ hP hD hS hl => ?_)
  have hl : lv_has ls 1 [(0, .ref (ad p0))] := hl
  have key : ∀ (H : Heap) (locs : List Loc) (args : Array Value), (∀ w ∈ WG, w.before args s = true) → va_P z.1 classes (wv z ad E M) H → va_S A s.heap H locs → W p l e (rmK 0 20 0 0) s m args below meth c H locs 0 0 (MQ below (QK z A (fun _ => some (.int (oI r))) (fun _ => (wv z ad E M))) args s 0 0 A) (F0 m 0 ls []) := by
    intro H locs args hts hP hS
    unfold f_St_coder at h
    obtain ⟨h_p0, h⟩ := ck_e h
    refine va_gets hx hb hZ.2.1 hS hown (hts _ w_958) (fun _ h9 => h9) d_35_152_0 ?_
    refine lv_if_eq (tgt := 13) hx hb d_35_152_3 (by decide) (fun c9 => absurd c9 (by decide +kernel)) (fun _ => ?_)
    refine lv_aload_n hx hb d_35_152_6 rfl (lv_at hl 0 rfl) ?_
    refine m_gi (C := "java/lang/String") (T := TX13) (N := 4) (ci := 13) (k := 1) hx hb hts iX13 hown hG hP h_p0.1 h_p0.2 rfl (by decide) w_973 (fun _ h9 => h9) rfl rfl d_35_152_7 ?_
    refine lv_goto (tgt := 14) hx hb d_35_152_10 (by decide) ?_
    obtain ⟨ok100, h⟩ := ck_e h
    obtain rfl := in1 h
    exact W.zret hx hb hr (nb_b ok100) (fun t ht hW => qkA hP hD hS (fun k => k) rfl rfl ht) hS.2.2 d_35_152_14
  exact key _ _ _ hts hP hS
set_option maxRecDepth 100000 in
set_option maxHeartbeats 4000000 in
theorem s_St_length (l : Launch) (z : Zz) (ad : Nat → Nat) (E : Ev) (M : Mm) (p0 : Nat) (r : Int)  (hL : Lay E) (h : f_St_length E M p0 = some r) : CT l z ⟨"java/lang/String", "length", "()I"⟩ prog_35_method_54_code 1 (some .int) [.ref (ad p0)] (wv z ad E M) 1 40 0 0 (fun _ => some (.int (oI r))) (fun _ => (wv z ad E M)) := by
  refine CT.of (own := "java/lang/String") (by decide +kernel) (Nat.le_of_ble_eq_true rfl) rfl (fun p e s m below meth c A ls hx hb hml hr hts hown hlocks hin hA hG hZ hP hD hS hl => ?_)
  have hl : lv_has ls 1 [(0, .ref (ad p0))] := hl
  have key : ∀ (H : Heap) (locs : List Loc) (args : Array Value), (∀ w ∈ WG, w.before args s = true) → va_P z.1 classes (wv z ad E M) H → va_S A s.heap H locs → W p l e (rmK 1 40 0 0) s m args below meth c H locs 0 0 (MQ below (QK z A (fun _ => some (.int (oI r))) (fun _ => (wv z ad E M))) args s 0 0 A) (F0 m 0 ls []) := by
    intro H locs args hts hP hS
    unfold f_St_length at h
    obtain ⟨h_p0, h⟩ := ck_e h
    refine lv_aload_n hx hb d_35_54_0 rfl (lv_at hl 0 rfl) ?_
    obtain ⟨p100, g100, h⟩ := bd_e h
    obtain ⟨h_p100, h⟩ := ck_e h
    refine m_gr (j := p100) (C := "java/lang/String") (T := TX13) (N := 4) (ci := 13) (k := 0) hx hb hts iX13 hown hG hP h_p0.1 h_p0.2 rfl (by decide) w_972 (fun _ h9 => h9) rfl rfl g100 d_35_54_1 ?_
    refine m_lenB (v := ((tE E p100).2 : Int)) hx hb hG hP h_p100.1 (isBA_T h_p100) (len_oI _) d_35_54_4 ?_
    refine lv_aload_n hx hb d_35_54_5 rfl (lv_at hl 0 rfl) ?_
    obtain ⟨r101, g101, h⟩ := bd_e h
    refine kV (As := []) (rest := [.int (oI ((tE E p100).2 : Int))]) (s_St_coder l z ad E M p0 r101 hL g101) hx hb hml hown hts w_993 w_990 w_991 w_992 w_20 md_9e8065 ⟨Nat.le_of_ble_eq_true rfl, Nat.le_of_ble_eq_true rfl⟩ hG hZ hP hD hS hA p0 (wv_o (ci := 13) h_p0.1 h_p0.2) rfl rfl rfl hl.1 rfl (Nat.le_of_ble_eq_true rfl) d_35_54_6 ⟨Nat.le_of_ble_eq_true rfl, Nat.le_of_ble_eq_true rfl⟩ (fun _ H locs hP hD hS => ?_)
    have hP : va_P z.1 classes (wv z ad E M) H := hP
    have hD : va_D A (wv z ad E M) := hD
    refine W.eq (g2 := F0 m 9 ls [.int (oI r101), .int (oI ((tE E p100).2 : Int))]) rfl ?_
    obtain ⟨ok102, h⟩ := ck_e h
    obtain ⟨ok103, h⟩ := ck_e h
    refine lv_ishr hx hb d_35_54_9 ?_
    refine nrm (oI_shr (a := ((tE E p100).2 : Int)) ok102 ok103.1 ok103.2) ?_
    obtain rfl := in1 h
    exact W.iret hx hb hr (fun t ht hW => qkA hP hD hS (fun k => k) rfl rfl ht) hS.2.2 d_35_54_10
  exact key _ _ _ hts hP hS
set_option maxRecDepth 100000 in
set_option maxHeartbeats 4000000 in
theorem s_St_isLatin1 (l : Launch) (z : Zz) (ad : Nat → Nat) (E : Ev) (M : Mm) (p0 : Nat) (r : Int)  (hL : Lay E) (h : f_St_isLatin1 E M p0 = some r) : CT l z ⟨"java/lang/String", "isLatin1", "()Z"⟩ prog_35_method_154_code 1 (some .boolean) [.ref (ad p0)] (wv z ad E M) 0 20 0 0 (fun _ => some (.int (oI r))) (fun _ => (wv z ad E M)) := by
  refine CT.of (own := "java/lang/String") (by decide +kernel) (Nat.le_of_ble_eq_true rfl) rfl (fun p e s m below meth c A ls hx hb hml hr hts hown hlocks hin hA hG hZ hP hD hS hl => ?_)
  have hl : lv_has ls 1 [(0, .ref (ad p0))] := hl
  have key : ∀ (H : Heap) (locs : List Loc) (args : Array Value), (∀ w ∈ WG, w.before args s = true) → va_P z.1 classes (wv z ad E M) H → va_S A s.heap H locs → W p l e (rmK 0 20 0 0) s m args below meth c H locs 0 0 (MQ below (QK z A (fun _ => some (.int (oI r))) (fun _ => (wv z ad E M))) args s 0 0 A) (F0 m 0 ls []) := by
    intro H locs args hts hP hS
    unfold f_St_isLatin1 at h
    obtain ⟨h_p0, h⟩ := ck_e h
    refine va_gets hx hb hZ.2.1 hS hown (hts _ w_958) (fun _ h9 => h9) d_35_154_0 ?_
    refine lv_if_eq (tgt := 17) hx hb d_35_154_3 (by decide) (fun c9 => absurd c9 (by decide +kernel)) (fun _ => ?_)
    refine lv_aload_n hx hb d_35_154_6 rfl (lv_at hl 0 rfl) ?_
    refine m_gi (C := "java/lang/String") (T := TX13) (N := 4) (ci := 13) (k := 1) hx hb hts iX13 hown hG hP h_p0.1 h_p0.2 rfl (by decide) w_973 (fun _ h9 => h9) rfl rfl d_35_154_7 ?_
    obtain ⟨ok100, h⟩ := ck_e h
    refine lv_if_ne (tgt := 17) hx hb d_35_154_10 (by decide) (fun c9 => ?_) (fun c9 => ?_)
    · have h := ite_f (fun q => c9 ((oI_eq0 ok100).mpr q)) h
      refine lv_iconst (v := oI 0) hx hb d_35_154_17 (by decide +kernel) ?_
      obtain rfl := in1 h
      exact W.zret hx hb hr rfl (fun t ht hW => qkA hP hD hS (fun k => k) rfl rfl ht) hS.2.2 d_35_154_18
    · have h := ite_t ((oI_eq0 ok100).mp c9) h
      refine lv_iconst (v := oI 1) hx hb d_35_154_13 (by decide +kernel) ?_
      refine lv_goto (tgt := 18) hx hb d_35_154_14 (by decide) ?_
      obtain rfl := in1 h
      exact W.zret hx hb hr rfl (fun t ht hW => qkA hP hD hS (fun k => k) rfl rfl ht) hS.2.2 d_35_154_18
  exact key _ _ _ hts hP hS
set_option maxRecDepth 100000 in
set_option maxHeartbeats 4000000 in
theorem s_Pr_checkIndex (l : Launch) (z : Zz) (ad : Nat → Nat) (E : Ev) (M : Mm) (x0 : Int) (x1 : Int) (w2 : Option Nat) (r : Int)  (hL : Lay E) (h : f_Pr_checkIndex E M x0 x1 = some r) : CT l z ⟨"jdk/internal/util/Preconditions", "checkIndex", "(IILjava/util/function/BiFunction;)I"⟩ prog_46_method_11_code 3 (some .int) [.int (oI x0), .int (oI x1), va_rf w2] (wv z ad E M) 0 20 0 0 (fun _ => some (.int (oI r))) (fun _ => (wv z ad E M)) := by
  refine CT.of (own := "jdk/internal/util/Preconditions") (by decide +kernel) (by cases w2 <;> exact Nat.le_of_ble_eq_true rfl) rfl (fun p e s m below meth c A ls hx hb hml hr hts hown hlocks hin hA hG hZ hP hD hS hl => ?_)
  have hl : lv_has ls 3 [(0, .int (oI x0)), (1, .int (oI x1)), (2, va_rf w2)] := hl
  have key : ∀ (H : Heap) (locs : List Loc) (args : Array Value), (∀ w ∈ WG, w.before args s = true) → va_P z.1 classes (wv z ad E M) H → va_S A s.heap H locs → W p l e (rmK 0 20 0 0) s m args below meth c H locs 0 0 (MQ below (QK z A (fun _ => some (.int (oI r))) (fun _ => (wv z ad E M))) args s 0 0 A) (F0 m 0 ls []) := by
    intro H locs args hts hP hS
    unfold f_Pr_checkIndex at h
    refine lv_iload_n hx hb d_46_11_0 rfl (lv_at hl 0 rfl) ?_
    obtain ⟨ok100, h⟩ := ck_e h
    refine lv_if_lt (tgt := 9) hx hb d_46_11_1 (by decide) (fun c9 => ?_) (fun c9 => ?_)
    · have h := ite_t ((oI_lt0 ok100).mp c9) h
      cases h
    · have h := ite_f (fun q => c9 ((oI_lt0 ok100).mpr q)) h
      refine lv_iload_n hx hb d_46_11_4 rfl (lv_at hl 0 rfl) ?_
      refine lv_iload_n hx hb d_46_11_5 rfl (lv_at hl 1 rfl) ?_
      obtain ⟨ok101, h⟩ := ck_e h
      refine lv_icmp_lt (tgt := 16) hx hb d_46_11_6 (by decide) (fun c9 => ?_) (fun c9 => ?_)
      · have h := ite_t ((oI_lt (a := x0) (b := x1) ok100 ok101).mp c9) h
        refine lv_iload_n hx hb d_46_11_16 rfl (lv_at hl 0 rfl) ?_
        obtain rfl := in1 h
        exact W.iret hx hb hr (fun t ht hW => qkA hP hD hS (fun k => k) rfl rfl ht) hS.2.2 d_46_11_17
      · have h := ite_f (fun q => c9 ((oI_lt (a := x0) (b := x1) ok100 ok101).mpr q)) h
        cases h
  exact key _ _ _ hts hP hS
set_option maxRecDepth 100000 in
set_option maxHeartbeats 4000000 in
theorem s_St_checkIndex (l : Launch) (z : Zz) (ad : Nat → Nat) (E : Ev) (M : Mm) (x0 : Int) (x1 : Int)  (hL : Lay E) (h : f_St_checkIndex E M x0 x1 = some ()) : CT l z ⟨"java/lang/String", "checkIndex", "(II)V"⟩ prog_35_method_155_code 2 none [.int (oI x0), .int (oI x1)] (wv z ad E M) 1 42 0 0 (fun _ => none) (fun _ => (wv z ad E M)) := by
  refine CT.of (own := "java/lang/String") (by decide +kernel) (Nat.le_of_ble_eq_true rfl) rfl (fun p e s m below meth c A ls hx hb hml hr hts hown hlocks hin hA hG hZ hP hD hS hl => ?_)
  have hl : lv_has ls 2 [(0, .int (oI x0)), (1, .int (oI x1))] := hl
  have key : ∀ (H : Heap) (locs : List Loc) (args : Array Value), (∀ w ∈ WG, w.before args s = true) → va_P z.1 classes (wv z ad E M) H → va_S A s.heap H locs → W p l e (rmK 1 42 0 0) s m args below meth c H locs 0 0 (MQ below (QK z A (fun _ => none) (fun _ => (wv z ad E M))) args s 0 0 A) (F0 m 0 ls []) := by
    intro H locs args hts hP hS
    unfold f_St_checkIndex at h
    refine lv_iload_n hx hb d_35_155_0 rfl (lv_at hl 0 rfl) ?_
    refine lv_iload_n hx hb d_35_155_1 rfl (lv_at hl 1 rfl) ?_
    obtain ⟨w100, hw100⟩ := hZ.2.2.2
    refine va_gets hx hb hw100 hS hown (hts _ w_896) (fun _ h9 => h9) d_35_155_2 ?_
    obtain ⟨r101, g101, h⟩ := bd_e h
    refine kS (As := [.int (oI x0), .int (oI x1), va_rf w100]) (rest := []) (s_Pr_checkIndex l z ad E M x0 x1 w100 r101 hL g101) hx hb hml hown hts w_921 w_919 w_920 w_26 md_5da404 ⟨Nat.le_of_ble_eq_true rfl, Nat.le_of_ble_eq_true rfl⟩ hG hZ hP hD hS hA rfl hl.1 rfl (Nat.le_of_ble_eq_true rfl) d_35_155_5 ⟨Nat.le_of_ble_eq_true rfl, Nat.le_of_ble_eq_true rfl⟩ (fun _ H locs hP hD hS => ?_)
    have hP : va_P z.1 classes (wv z ad E M) H := hP
    have hD : va_D A (wv z ad E M) := hD
    refine W.eq (g2 := F0 m 8 ls [.int (oI r101)]) rfl ?_
    refine lv_pop hx hb d_35_155_8 rfl ?_
    clear h
    exact W.vret hx hb hr (fun t ht hW => qkA hP hD hS (fun k => k) rfl rfl ht) hS.2.2 d_35_155_9
  exact key _ _ _ hts hP hS
set_option maxRecDepth 100000 in
set_option maxHeartbeats 4000000 in
theorem s_Sl_charAt (l : Launch) (z : Zz) (ad : Nat → Nat) (E : Ev) (M : Mm) (p0 : Nat) (x1 : Int) (r : Int)  (hL : Lay E) (h : f_Sl_charAt E M p0 x1 = some r) : CT l z ⟨"java/lang/StringLatin1", "charAt", "([BI)C"⟩ prog_37_method_2_code 2 (some .char) [.ref (ad p0), .int (oI x1)] (wv z ad E M) 2 63 0 0 (fun _ => some (.int (oI r))) (fun _ => (wv z ad E M)) := by
  refine CT.of (own := "java/lang/StringLatin1") (by decide +kernel) (Nat.le_of_ble_eq_true rfl) rfl (fun p e s m below meth c A ls hx hb hml hr hts hown hlocks hin hA hG hZ hP hD hS hl => ?_)
  have hl : lv_has ls 2 [(0, .ref (ad p0)), (1, .int (oI x1))] := hl
  have key : ∀ (H : Heap) (locs : List Loc) (args : Array Value), (∀ w ∈ WG, w.before args s = true) → va_P z.1 classes (wv z ad E M) H → va_S A s.heap H locs → W p l e (rmK 2 63 0 0) s m args below meth c H locs 0 0 (MQ below (QK z A (fun _ => some (.int (oI r))) (fun _ => (wv z ad E M))) args s 0 0 A) (F0 m 0 ls []) := by
    intro H locs args hts hP hS
    unfold f_Sl_charAt at h
    obtain ⟨h_p0, h⟩ := ck_e h
    refine lv_iload_n hx hb d_37_2_0 rfl (lv_at hl 1 rfl) ?_
    refine lv_aload_n hx hb d_37_2_1 rfl (lv_at hl 0 rfl) ?_
    refine m_lenB (v := ((tE E p0).2 : Int)) hx hb hG hP h_p0.1 (isBA_T h_p0) (len_oI _) d_37_2_2 ?_
    obtain ⟨_, g100, h⟩ := bd_e h
    refine kS (As := [.int (oI x1), .int (oI ((tE E p0).2 : Int))]) (rest := []) (s_St_checkIndex l z ad E M x1 ((tE E p0).2 : Int) hL g100) hx hb hml hown hts w_918 w_1005 w_917 w_20 md_29a091 ⟨Nat.le_of_ble_eq_true rfl, Nat.le_of_ble_eq_true rfl⟩ hG hZ hP hD hS hA rfl hl.1 rfl (Nat.le_of_ble_eq_true rfl) d_37_2_3 ⟨Nat.le_of_ble_eq_true rfl, Nat.le_of_ble_eq_true rfl⟩ (fun _ H locs hP hD hS => ?_)
    have hP : va_P z.1 classes (wv z ad E M) H := hP
    have hD : va_D A (wv z ad E M) := hD
    refine W.eq (g2 := F0 m 6 ls []) rfl ?_
    refine lv_aload_n hx hb d_37_2_6 rfl (lv_at hl 0 rfl) ?_
    refine lv_iload_n hx hb d_37_2_7 rfl (lv_at hl 1 rfl) ?_
    obtain ⟨ok101, h⟩ := ck_e h
    refine m_ba hx hb hG hP h_p0.1 (isBA_T h_p0) ok101 d_37_2_8 ?_
    refine lv_sipush (v := oI 255) hx hb d_37_2_9 (by decide +kernel) ?_
    refine lv_iand hx hb d_37_2_12 ?_
    refine nrm (oI_m8 _) ?_
    obtain ⟨ok102, h⟩ := ck_e h
    refine lv_i2c (v := oI ((M p0 x1.toNat) % 256)) hx hb d_37_2_13 (oI_c ok102) ?_
    obtain ⟨ok103, h⟩ := ck_e h
    obtain rfl := in1 h
    exact W.zret hx hb hr (nc_b ok103) (fun t ht hW => qkA hP hD hS (fun k => k) rfl rfl ht) hS.2.2 d_37_2_14
  exact key _ _ _ hts hP hS
set_option maxRecDepth 100000 in
set_option maxHeartbeats 4000000 in
theorem s_St_charAt (l : Launch) (z : Zz) (ad : Nat → Nat) (E : Ev) (M : Mm) (p0 : Nat) (x1 : Int) (r : Int)  (hL : Lay E) (h : f_St_charAt E M p0 x1 = some r) : CT l z ⟨"java/lang/String", "charAt", "(I)C"⟩ prog_35_method_56_code 2 (some .char) [.ref (ad p0), .int (oI x1)] (wv z ad E M) 3 84 0 0 (fun _ => some (.int (oI r))) (fun _ => (wv z ad E M)) := by
  refine CT.of (own := "java/lang/String") (by decide +kernel) (Nat.le_of_ble_eq_true rfl) rfl (fun p e s m below meth c A ls hx hb hml hr hts hown hlocks hin hA hG hZ hP hD hS hl => ?_)
  have hl : lv_has ls 2 [(0, .ref (ad p0)), (1, .int (oI x1))] := hl
  have key : ∀ (H : Heap) (locs : List Loc) (args : Array Value), (∀ w ∈ WG, w.before args s = true) → va_P z.1 classes (wv z ad E M) H → va_S A s.heap H locs → W p l e (rmK 3 84 0 0) s m args below meth c H locs 0 0 (MQ below (QK z A (fun _ => some (.int (oI r))) (fun _ => (wv z ad E M))) args s 0 0 A) (F0 m 0 ls []) := by
    intro H locs args hts hP hS
    unfold f_St_charAt at h
    obtain ⟨h_p0, h⟩ := ck_e h
    refine lv_aload_n hx hb d_35_56_0 rfl (lv_at hl 0 rfl) ?_
    obtain ⟨r100, g100, h⟩ := bd_e h
    refine kV (As := []) (rest := []) (s_St_isLatin1 l z ad E M p0 r100 hL g100) hx hb hml hown hts w_1001 w_998 w_999 w_1000 w_20 md_482545 ⟨Nat.le_of_ble_eq_true rfl, Nat.le_of_ble_eq_true rfl⟩ hG hZ hP hD hS hA p0 (wv_o (ci := 13) h_p0.1 h_p0.2) rfl rfl rfl hl.1 rfl (Nat.le_of_ble_eq_true rfl) d_35_56_1 ⟨Nat.le_of_ble_eq_true rfl, Nat.le_of_ble_eq_true rfl⟩ (fun _ H locs hP hD hS => ?_)
    have hP : va_P z.1 classes (wv z ad E M) H := hP
    have hD : va_D A (wv z ad E M) := hD
    refine W.eq (g2 := F0 m 4 ls [.int (oI r100)]) rfl ?_
    obtain ⟨ok101, h⟩ := ck_e h
    refine lv_if_eq (tgt := 16) hx hb d_35_56_4 (by decide) (fun c9 => ?_) (fun c9 => ?_)
    · have h := ite_t ((oI_eq0 ok101).mp c9) h
      cases h
    · have h := ite_f (fun q => c9 ((oI_eq0 ok101).mpr q)) h
      refine lv_aload_n hx hb d_35_56_7 rfl (lv_at hl 0 rfl) ?_
      obtain ⟨p102, g102, h⟩ := bd_e h
      obtain ⟨h_p102, h⟩ := ck_e h
      refine m_gr (j := p102) (C := "java/lang/String") (T := TX13) (N := 4) (ci := 13) (k := 0) hx hb hts iX13 hown hG hP h_p0.1 h_p0.2 rfl (by decide) w_972 (fun _ h9 => h9) rfl rfl g102 d_35_56_8 ?_
      refine lv_iload_n hx hb d_35_56_11 rfl (lv_at hl 1 rfl) ?_
      obtain ⟨r103, g103, h⟩ := bd_e h
      refine kS (As := [.ref (ad p102), .int (oI x1)]) (rest := []) (s_Sl_charAt l z ad E M p102 x1 r103 hL g103) hx hb hml hown hts w_1004 w_1002 w_1003 w_25 md_a90649 ⟨Nat.le_of_ble_eq_true rfl, Nat.le_of_ble_eq_true rfl⟩ hG hZ hP hD hS hA rfl hl.1 rfl (Nat.le_of_ble_eq_true rfl) d_35_56_12 ⟨Nat.le_of_ble_eq_true rfl, Nat.le_of_ble_eq_true rfl⟩ (fun _ H locs hP hD hS => ?_)
      have hP : va_P z.1 classes (wv z ad E M) H := hP
      have hD : va_D A (wv z ad E M) := hD
      refine W.eq (g2 := F0 m 15 ls [.int (oI r103)]) rfl ?_
      obtain ⟨ok104, h⟩ := ck_e h
      obtain rfl := in1 h
      exact W.zret hx hb hr (nc_b ok104) (fun t ht hW => qkA hP hD hS (fun k => k) rfl rfl ht) hS.2.2 d_35_56_15
  exact key _ _ _ hts hP hS
set_option maxRecDepth 100000 in
set_option maxHeartbeats 4000000 in
theorem s_Bx_appendSign (l : Launch) (z : Zz) (ad : Nat → Nat) (E : Ev) (M : Mm) (x1 : Int) (N : Mm) (hL : Lay E) (h : f_Bx_appendSign E M x1 = some N) : CT l z ⟨"Ballothall$BallotBox", "appendSign", "(I)V"⟩ prog_2_method_5_code 2 none [.ref (ad 2), .int (oI x1)] (wv z ad E M) 0 20 0 0 (fun _ => none) (fun _ => (wv z ad E N)) := by
  refine CT.of (own := "Ballothall$BallotBox") (by decide +kernel) (Nat.le_of_ble_eq_true rfl) rfl (fun p e s m below meth c A ls hx hb hml hr hts hown hlocks hin hA hG hZ hP hD hS hl => ?_)
  have hl : lv_has ls 2 [(0, .ref (ad 2)), (1, .int (oI x1))] := hl
  have key : ∀ (H : Heap) (locs : List Loc) (args : Array Value), (∀ w ∈ WG, w.before args s = true) → va_P z.1 classes (wv z ad E M) H → va_S A s.heap H locs → W p l e (rmK 0 20 0 0) s m args below meth c H locs 0 0 (MQ below (QK z A (fun _ => none) (fun _ => (wv z ad E N))) args s 0 0 A) (F0 m 0 ls []) := by
    intro H locs args hts hP hS
    unfold f_Bx_appendSign at h
    refine lv_iload_n hx hb d_2_5_0 rfl (lv_at hl 1 rfl) ?_
    obtain ⟨ok100, h⟩ := ck_e h
    refine lv_if_eq (tgt := 36) hx hb d_2_5_1 (by decide) (fun c9 => ?_) (fun c9 => ?_)
    · have h := ite_t ((oI_eq0 ok100).mp c9) h
      obtain rfl := in1 h
      exact W.vret hx hb hr (fun t ht hW => qkA hP hD hS (fun k => k) rfl rfl ht) hS.2.2 d_2_5_36
    · have h := ite_f (fun q => c9 ((oI_eq0 ok100).mpr q)) h
      refine lv_aload_n hx hb d_2_5_4 rfl (lv_at hl 0 rfl) ?_
      refine m_gi (C := "Ballothall$BallotBox") (T := TX0) (N := 10) (ci := 0) (k := 1) hx hb hts iX0 hown hG hP (yi_2 hL) (yt_2 hL) rfl (by decide) w_50 (fun _ h9 => h9) rfl rfl d_2_5_5 ?_
      refine lv_aload_n hx hb d_2_5_8 rfl (lv_at hl 0 rfl) ?_
      refine m_gr (j := 3) (C := "Ballothall$BallotBox") (T := TX0) (N := 10) (ci := 0) (k := 0) hx hb hts iX0 hown hG hP (yi_2 hL) (yt_2 hL) rfl (by decide) w_48 (fun _ h9 => h9) rfl rfl (yr_2_0 hL) d_2_5_9 ?_
      refine m_len (v := 30) hx hb hG hP (yi_3 hL) (yt_3 hL) (by decide +kernel) d_2_5_12 ?_
      obtain ⟨ok101, h⟩ := ck_e h
      refine lv_icmp_ge (tgt := 36) hx hb d_2_5_13 (by decide) (fun c9 => ?_) (fun c9 => ?_)
      · have h := ite_t ((oI_le (a := (30 : Int)) (b := (M 2 1)) (by decide) ok101).mp c9) h
        obtain rfl := in1 h
        exact W.vret hx hb hr (fun t ht hW => qkA hP hD hS (fun k => k) rfl rfl ht) hS.2.2 d_2_5_36
      · have h := ite_f (fun q => c9 ((oI_le (a := (30 : Int)) (b := (M 2 1)) (by decide) ok101).mpr q)) h
        refine lv_aload_n hx hb d_2_5_16 rfl (lv_at hl 0 rfl) ?_
        refine m_gr (j := 3) (C := "Ballothall$BallotBox") (T := TX0) (N := 10) (ci := 0) (k := 0) hx hb hts iX0 hown hG hP (yi_2 hL) (yt_2 hL) rfl (by decide) w_48 (fun _ h9 => h9) rfl rfl (yr_2_0 hL) d_2_5_17 ?_
        refine lv_aload_n hx hb d_2_5_20 rfl (lv_at hl 0 rfl) ?_
        refine m_gi (C := "Ballothall$BallotBox") (T := TX0) (N := 10) (ci := 0) (k := 1) hx hb hts iX0 hown hG hP (yi_2 hL) (yt_2 hL) rfl (by decide) w_50 (fun _ h9 => h9) rfl rfl d_2_5_21 ?_
        refine lv_iload_n hx hb d_2_5_24 rfl (lv_at hl 1 rfl) ?_
        obtain ⟨ok102, h⟩ := ck_e h
        refine m_is hx hb hG hP hD hS (yi_3 hL) (yt_3 hL) ok102 d_2_5_25 (fun H locs hP hD hS => ?_)
        have hP : va_P z.1 classes (wv z ad E (u2 M 3 (M 2 1).toNat x1)) H := hP
        have hD : va_D A (wv z ad E (u2 M 3 (M 2 1).toNat x1)) := hD
        refine lv_aload_n hx hb d_2_5_26 rfl (lv_at hl 0 rfl) ?_
        refine lv_dup hx hb d_2_5_27 rfl ?_
        refine m_gi (C := "Ballothall$BallotBox") (T := TX0) (N := 10) (ci := 0) (k := 1) hx hb hts iX0 hown hG hP (yi_2 hL) (yt_2 hL) rfl (by decide) w_50 (fun _ h9 => h9) rfl rfl d_2_5_28 ?_
        refine lv_iconst (v := oI 1) hx hb d_2_5_31 (by decide +kernel) ?_
        refine lv_iadd hx hb d_2_5_32 ?_
        refine nrm (oI_add _ _) ?_
        refine m_pi (C := "Ballothall$BallotBox") (T := TX0) (N := 10) (ci := 0) (k := 1) (ty := .int) hx hb hts iX0 hown hG hP hD hS (yi_2 hL) (yt_2 hL) rfl (by decide) w_50 (fun _ h9 => h9) rfl rfl tyX0_ok nmX0 rfl (by decide +kernel) rfl rfl d_2_5_33 (fun H locs hP hD hS => ?_)
        have hP : va_P z.1 classes (wv z ad E (u2 (u2 M 3 (M 2 1).toNat x1) 2 1 (((u2 M 3 (M 2 1).toNat x1) 2 1) + 1))) H := hP
        have hD : va_D A (wv z ad E (u2 (u2 M 3 (M 2 1).toNat x1) 2 1 (((u2 M 3 (M 2 1).toNat x1) 2 1) + 1))) := hD
        obtain rfl := in1 h
        exact W.vret hx hb hr (fun t ht hW => qkA hP hD hS (fun k => k) rfl rfl ht) hS.2.2 d_2_5_36
  exact key _ _ _ hts hP hS
set_option maxRecDepth 100000 in
set_option maxHeartbeats 4000000 in
theorem b_B_type_6b (l : Launch) (z : Zz) (ad : Nat → Nat) (E : Ev) (M : Mm) (x1 : Int) (x3 : Int) (x4 : Int) (t : Nat) (w3 : Int) (w4 : Int) (N : Mm) {Q : State → Prop} {p : Program} {e : Env} {s : State} {m : MethodId} {below : List Frame} {meth : Method} {c : Code} {A : Nat → Prop} {args : Array Value} (hx : p.tables.exec = Jvm.exec) (hb : c.code = prog_1_method_4_code) (hml : c.maxLocals = 5) (hts : ∀ w ∈ WG, w.before args s = true) (hown : s.vm.findClass "Ballothall" = some m.cls) (hlocks : meth.locks = false) (hA : ∀ q, s.heap.size ≤ q → A q) (hG : KG z s) (hZ : FZ z A s) (hL : Lay E) (h : B_type_6b E M x1 x3 x4 = some (t, w3, w4, N)) (k0 : t = 0 → ∀ (H : Heap) (locs : List Loc) (ls : Array Slot), va_P z.1 classes (wv z ad E N) H → va_D A (wv z ad E N) → va_S A s.heap H locs → lv_has ls 5 [(0, .ref (ad 1)), (1, .long (oJ x1)), (3, .int (oI w3)), (4, .int (oI w4))] → W p l e (rmK 1 41 0 0) s m args below meth c H locs 0 0 Q (F0 m 6 ls [])) (k1 : t = 1 → ∀ (H : Heap) (locs : List Loc) (ls : Array Slot), va_P z.1 classes (wv z ad E N) H → va_D A (wv z ad E N) → va_S A s.heap H locs → lv_has ls 5 [(0, .ref (ad 1)), (1, .long (oJ x1)), (3, .int (oI w3))] → W p l e (rmK 1 41 0 0) s m args below meth c H locs 0 0 Q (F0 m 33 ls [])) : ∀ (H : Heap) (locs : List Loc) (ls : Array Slot), va_P z.1 classes (wv z ad E M) H → va_D A (wv z ad E M) → va_S A s.heap H locs → lv_has ls 5 [(0, .ref (ad 1)), (1, .long (oJ x1)), (3, .int (oI x3)), (4, .int (oI x4))] → W p l e (rmK 1 41 0 0) s m args below meth c H locs 0 0 Q (F0 m 6 ls []) := by
  intro H locs ls hP hD hS hl
  unfold B_type_6b at h
  refine lv_iload hx hb d_1_4_6 (lv_at hl 3 rfl) ?_
  obtain ⟨ok100, h⟩ := ck_e h
  refine lv_if_lt (tgt := 33) hx hb d_1_4_8 (by decide) (fun c9 => ?_) (fun c9 => ?_)
  · have h := ite_t ((oI_lt0 ok100).mp c9) h
    obtain ⟨rfl, rfl, rfl, rfl⟩ := in4 h
    exact k1 rfl H locs ls hP hD hS (lv_sub hl [0, 1, 2] rfl)
  · have h := ite_f (fun q => c9 ((oI_lt0 ok100).mpr q)) h
    refine lv_lload_n hx hb d_1_4_11 rfl (lv_at hl 1 rfl) ?_
    refine lv_iload hx hb d_1_4_12 (lv_at hl 3 rfl) ?_
    obtain ⟨ok101, h⟩ := ck_e h
    obtain ⟨ok102, h⟩ := ck_e h
    refine lv_lshr (v := oJ (x1 / 2 ^ x4.toNat)) hx hb d_1_4_14 (oJ_shr (b := x4) ok102 ok101.1 ok101.2) ?_
    refine lv_ldc2 hx hb hown (hts _ w_1013) d_1_4_15 ?_
    refine nrmL (x1 := oJ 255) (by decide +kernel) ?_
    refine lv_land hx hb d_1_4_18 ?_
    refine nrmL (oJ_m8 _) ?_
    refine lv_lconst (v := oJ 0) hx hb d_1_4_19 (by decide +kernel) ?_
    refine W.lcmp hx hb d_1_4_20 ?_
    refine nrm (cmp_val (a := ((x1 / 2 ^ x4.toNat) % 256)) (b := (0 : Int)) ⟨by omega, by omega⟩ (by decide)) ?_
    refine lv_if_eq (tgt := 27) hx hb d_1_4_21 (by decide) (fun c9 => ?_) (fun c9 => ?_)
    · have h := ite_t ((cmp_eq ((x1 / 2 ^ x4.toNat) % 256) (0 : Int)).mp c9) h
      refine lv_iinc (v := oI (x4 + (-8))) (lv' := [(4, .int (oI (x4 + (-8)))), (0, .ref (ad 1)), (1, .long (oJ x1)), (3, .int (oI x3))]) hx hb d_1_4_27 hl (k := 3) rfl (oI_add x4 (-8)) (by decide) rfl (fun ls hl => ?_)
      refine lv_goto (tgt := 6) hx hb d_1_4_30 (by decide) ?_
      obtain ⟨rfl, rfl, rfl, rfl⟩ := in4 h
      exact k0 rfl H locs ls hP hD hS (lv_sub hl [1, 2, 3, 0] rfl)
    · have h := ite_f (fun q => c9 ((cmp_eq ((x1 / 2 ^ x4.toNat) % 256) (0 : Int)).mpr q)) h
      refine lv_iinc (v := oI (x3 + 1)) (lv' := [(3, .int (oI (x3 + 1))), (0, .ref (ad 1)), (1, .long (oJ x1)), (4, .int (oI x4))]) hx hb d_1_4_24 hl (k := 2) rfl (oI_add x3 1) (by decide) rfl (fun ls hl => ?_)
      refine lv_iinc (v := oI (x4 + (-8))) (lv' := [(4, .int (oI (x4 + (-8)))), (3, .int (oI (x3 + 1))), (0, .ref (ad 1)), (1, .long (oJ x1))]) hx hb d_1_4_27 hl (k := 3) rfl (oI_add x4 (-8)) (by decide) rfl (fun ls hl => ?_)
      refine lv_goto (tgt := 6) hx hb d_1_4_30 (by decide) ?_
      obtain ⟨rfl, rfl, rfl, rfl⟩ := in4 h
      exact k0 rfl H locs ls hP hD hS (lv_sub hl [2, 3, 1, 0] rfl)
set_option maxRecDepth 100000 in
set_option maxHeartbeats 4000000 in
theorem s_B_type_6 (l : Launch) (z : Zz) (ad : Nat → Nat) (E : Ev) (x1 : Int) {Q : State → Prop} {p : Program} {e : Env} {s : State} {m : MethodId} {below : List Frame} {meth : Method} {c : Code} {A : Nat → Prop} {args : Array Value} (hx : p.tables.exec = Jvm.exec) (hb : c.code = prog_1_method_4_code) (hml : c.maxLocals = 5) (hts : ∀ w ∈ WG, w.before args s = true) (hown : s.vm.findClass "Ballothall" = some m.cls) (hlocks : meth.locks = false) (hA : ∀ q, s.heap.size ≤ q → A q) (hG : KG z s) (hZ : FZ z A s) (hL : Lay E) : ∀ (fu : Nat) (M : Mm) (x3 : Int) (x4 : Int) (t : Nat) (w3 : Int) (w4 : Int) (N : Mm), l_B_type_6 E x1 fu M x3 x4 = some (t, w3, w4, N) → (t = 1 → ∀ (H : Heap) (locs : List Loc) (ls : Array Slot), va_P z.1 classes (wv z ad E N) H → va_D A (wv z ad E N) → va_S A s.heap H locs → lv_has ls 5 [(0, .ref (ad 1)), (1, .long (oJ x1)), (3, .int (oI w3))] → W p l e (rmK 1 41 0 0) s m args below meth c H locs 0 0 Q (F0 m 33 ls [])) → ∀ (H : Heap) (locs : List Loc) (ls : Array Slot), va_P z.1 classes (wv z ad E M) H → va_D A (wv z ad E M) → va_S A s.heap H locs → lv_has ls 5 [(0, .ref (ad 1)), (1, .long (oJ x1)), (3, .int (oI x3)), (4, .int (oI x4))] → W p l e (rmK 1 41 0 0) s m args below meth c H locs 0 0 Q (F0 m 6 ls []) := by
  intro fu
  induction fu with
  | zero =>
    intro M x3 x4 t w3 w4 N h
    have h : (none : Option (Nat × Int × Int × Mm)) = some _ := h
    cases h
  | succ fu ih =>
    intro M x3 x4 t w3 w4 N h k1 H locs ls hP hD hS hl
    obtain ⟨⟨t0, w30, w40, N9⟩, g0, h⟩ := bd_e h
    refine b_B_type_6b l z ad E M x1 x3 x4 t0 w30 w40 N9 hx hb hml hts hown hlocks hA hG hZ hL g0 (fun e0 => ?_) (fun e0 => ?_) H locs ls hP hD hS hl
    · subst e0
      have h := ite_t rfl h
      exact ih N9 w30 w40 t w3 w4 N h k1
    · subst e0
      have h := ite_f (by decide) h
      obtain ⟨rfl, rfl, rfl, rfl⟩ := in4 h
      exact k1 rfl
set_option maxRecDepth 100000 in
set_option maxHeartbeats 4000000 in
theorem b_B_type_51b (l : Launch) (z : Zz) (ad : Nat → Nat) (E : Ev) (M : Mm) (x1 : Int) (x4 : Int) (t : Nat) (w4 : Int) (N : Mm) {Q : State → Prop} {p : Program} {e : Env} {s : State} {m : MethodId} {below : List Frame} {meth : Method} {c : Code} {A : Nat → Prop} {args : Array Value} (hx : p.tables.exec = Jvm.exec) (hb : c.code = prog_1_method_4_code) (hml : c.maxLocals = 5) (hts : ∀ w ∈ WG, w.before args s = true) (hown : s.vm.findClass "Ballothall" = some m.cls) (hlocks : meth.locks = false) (hA : ∀ q, s.heap.size ≤ q → A q) (hG : KG z s) (hZ : FZ z A s) (hL : Lay E) (h : B_type_51b E M x1 x4 = some (t, w4, N)) (k0 : t = 0 → ∀ (H : Heap) (locs : List Loc) (ls : Array Slot), va_P z.1 classes (wv z ad E N) H → va_D A (wv z ad E N) → va_S A s.heap H locs → lv_has ls 5 [(0, .ref (ad 1)), (1, .long (oJ x1)), (4, .int (oI w4))] → W p l e (rmK 1 41 0 0) s m args below meth c H locs 0 0 Q (F0 m 51 ls [])) (k1 : t = 1 → ∀ (H : Heap) (locs : List Loc) (ls : Array Slot), va_P z.1 classes (wv z ad E N) H → va_D A (wv z ad E N) → va_S A s.heap H locs → lv_has ls 5 [(0, .ref (ad 1))] → W p l e (rmK 1 41 0 0) s m args below meth c H locs 0 0 Q (F0 m 78 ls [])) : ∀ (H : Heap) (locs : List Loc) (ls : Array Slot), va_P z.1 classes (wv z ad E M) H → va_D A (wv z ad E M) → va_S A s.heap H locs → lv_has ls 5 [(0, .ref (ad 1)), (1, .long (oJ x1)), (4, .int (oI x4))] → W p l e (rmK 1 41 0 0) s m args below meth c H locs 0 0 Q (F0 m 51 ls []) := by
  intro H locs ls hP hD hS hl
  unfold B_type_51b at h
  refine lv_iload hx hb d_1_4_51 (lv_at hl 2 rfl) ?_
  obtain ⟨ok105, h⟩ := ck_e h
  refine lv_if_lt (tgt := 78) hx hb d_1_4_53 (by decide) (fun c9 => ?_) (fun c9 => ?_)
  · have h := ite_t ((oI_lt0 ok105).mp c9) h
    obtain ⟨rfl, rfl, rfl⟩ := in3 h
    exact k1 rfl H locs ls hP hD hS (lv_sub hl [0] rfl)
  · have h := ite_f (fun q => c9 ((oI_lt0 ok105).mpr q)) h
    refine lv_aload_n hx hb d_1_4_56 rfl (lv_at hl 0 rfl) ?_
    refine m_gr (j := 2) (C := "Ballothall") (T := TX11) (N := 14) (ci := 11) (k := 0) hx hb hts iX11 hown hG hP (yi_1 hL) (yt_1 hL) rfl (by decide) w_397 (fun _ h9 => h9) rfl rfl (yr_1_0 hL) d_1_4_57 ?_
    refine lv_lload_n hx hb d_1_4_60 rfl (lv_at hl 1 rfl) ?_
    refine lv_iload hx hb d_1_4_61 (lv_at hl 2 rfl) ?_
    obtain ⟨ok106, h⟩ := ck_e h
    obtain ⟨ok107, h⟩ := ck_e h
    refine lv_lshr (v := oJ (x1 / 2 ^ x4.toNat)) hx hb d_1_4_63 (oJ_shr (b := x4) ok107 ok106.1 ok106.2) ?_
    refine lv_ldc2 hx hb hown (hts _ w_1013) d_1_4_64 ?_
    refine nrmL (x1 := oJ 255) (by decide +kernel) ?_
    refine lv_land hx hb d_1_4_67 ?_
    refine nrmL (oJ_m8 _) ?_
    refine lv_l2i (v := oI ((x1 / 2 ^ x4.toNat) % 256)) hx hb d_1_4_68 (oJ_i _) ?_
    obtain ⟨M108, g108, h⟩ := bd_e h
    refine kVN (As := [.int (oI ((x1 / 2 ^ x4.toNat) % 256))]) (rest := []) (s_Bx_appendSign l z ad E M ((x1 / 2 ^ x4.toNat) % 256) M108 hL g108) hx hb hml hown hts w_1017 n_1014 w_1016 w_s_aa5e63 w_2 md_dc90bd ⟨Nat.le_of_ble_eq_true rfl, Nat.le_of_ble_eq_true rfl⟩ hG hZ hP hD hS hA 2 (wv_o (ci := 0) (yi_2 hL) (yt_2 hL)) rfl rfl rfl hl.1 rfl (Nat.le_of_ble_eq_true rfl) d_1_4_69 ⟨Nat.le_of_ble_eq_true rfl, Nat.le_of_ble_eq_true rfl⟩ (fun _ H locs hP hD hS => ?_)
    have hP : va_P z.1 classes (wv z ad E M108) H := hP
    have hD : va_D A (wv z ad E M108) := hD
    refine W.eq (g2 := F0 m 72 ls []) rfl ?_
    refine lv_iinc (v := oI (x4 + (-8))) (lv' := [(4, .int (oI (x4 + (-8)))), (0, .ref (ad 1)), (1, .long (oJ x1))]) hx hb d_1_4_72 hl (k := 2) rfl (oI_add x4 (-8)) (by decide) rfl (fun ls hl => ?_)
    refine lv_goto (tgt := 51) hx hb d_1_4_75 (by decide) ?_
    obtain ⟨rfl, rfl, rfl⟩ := in3 h
    exact k0 rfl H locs ls hP hD hS (lv_sub hl [1, 2, 0] rfl)
set_option maxRecDepth 100000 in
set_option maxHeartbeats 4000000 in
theorem s_B_type_51 (l : Launch) (z : Zz) (ad : Nat → Nat) (E : Ev) (x1 : Int) {Q : State → Prop} {p : Program} {e : Env} {s : State} {m : MethodId} {below : List Frame} {meth : Method} {c : Code} {A : Nat → Prop} {args : Array Value} (hx : p.tables.exec = Jvm.exec) (hb : c.code = prog_1_method_4_code) (hml : c.maxLocals = 5) (hts : ∀ w ∈ WG, w.before args s = true) (hown : s.vm.findClass "Ballothall" = some m.cls) (hlocks : meth.locks = false) (hA : ∀ q, s.heap.size ≤ q → A q) (hG : KG z s) (hZ : FZ z A s) (hL : Lay E) : ∀ (fu : Nat) (M : Mm) (x4 : Int) (t : Nat) (w4 : Int) (N : Mm), l_B_type_51 E x1 fu M x4 = some (t, w4, N) → (t = 1 → ∀ (H : Heap) (locs : List Loc) (ls : Array Slot), va_P z.1 classes (wv z ad E N) H → va_D A (wv z ad E N) → va_S A s.heap H locs → lv_has ls 5 [(0, .ref (ad 1))] → W p l e (rmK 1 41 0 0) s m args below meth c H locs 0 0 Q (F0 m 78 ls [])) → ∀ (H : Heap) (locs : List Loc) (ls : Array Slot), va_P z.1 classes (wv z ad E M) H → va_D A (wv z ad E M) → va_S A s.heap H locs → lv_has ls 5 [(0, .ref (ad 1)), (1, .long (oJ x1)), (4, .int (oI x4))] → W p l e (rmK 1 41 0 0) s m args below meth c H locs 0 0 Q (F0 m 51 ls []) := by
  intro fu
  induction fu with
  | zero =>
    intro M x4 t w4 N h
    have h : (none : Option (Nat × Int × Mm)) = some _ := h
    cases h
  | succ fu ih =>
    intro M x4 t w4 N h k1 H locs ls hP hD hS hl
    obtain ⟨⟨t0, w40, N9⟩, g0, h⟩ := bd_e h
    refine b_B_type_51b l z ad E M x1 x4 t0 w40 N9 hx hb hml hts hown hlocks hA hG hZ hL g0 (fun e0 => ?_) (fun e0 => ?_) H locs ls hP hD hS hl
    · subst e0
      have h := ite_t rfl h
      exact ih N9 w40 t w4 N h k1
    · subst e0
      have h := ite_f (by decide) h
      obtain ⟨rfl, rfl, rfl⟩ := in3 h
      exact k1 rfl
