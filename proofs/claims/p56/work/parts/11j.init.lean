/-! THE CONSTRUCTORS: each makes a list of cells longer; what is new is zero -/
theorem ok_nbx {α β : Type} {x : α} {f : α → Option β} {Q : β → Prop} (h : ∀ y, y = x → Ok (f y) Q) : Ok (nb x f) Q := h x rfl
def g_Na_init (cs : Gc) (p0 : Nat) : Gc := gRef (gNew (cs) (0, 13)) p0 0 (cs.length)
theorem g_Na_init_len (cs : Gc) (p0 : Nat) : (g_Na_init cs p0).length = cs.length + 1 := by simp only [g_Na_init, gNew_len, gRef_len, gGrid_len]
set_option maxHeartbeats 2000000 in
theorem d_Na_init {E : Ev} {M : Mm} {cs : Gc} {p0 : Nat} (hD : Desc E cs) (hp0 : p0 < cs.length) (tp0 : gT' cs p0 = (108, 0)) : Ok (f_Na_init E M p0) (fun r => Desc r.1 (g_Na_init cs p0) ∧ Zs cs.length M (cs.length + 1) r.2) := by
  unfold f_Na_init
  refine ok_ck (hD.obj hp0 tp0) ?_
  have D0 := hD
  have Z0 : Zs cs.length M cs.length M := Zs.refl _ _
  have l0 : cs.length = cs.length := rfl
  have a0 : cs.length ≤ cs.length := Nat.le_refl _
  refine ok_nbx fun n1 hn1 => ok_nbx fun E1 hE1 => ok_nbx fun M1 hM1 => ?_
  have en1 : nE E = cs.length := D0.1.trans l0
  rw [en1] at hn1 hM1
  obtain ⟨c1, hc1⟩ : ∃ c, c = gNew cs (0, 13) := ⟨_, rfl⟩
  have l1 : c1.length = cs.length + 1 := by rw [hc1, gNew_len, l0]
  have a1 : cs.length ≤ c1.length := by rw [hc1, gNew_len]; exact Nat.le_trans a0 (Nat.le_succ _)
  have b1 : cs.length < c1.length := by rw [l1]; exact Nat.lt_succ_self _
  have D1 : Desc E1 c1 := by rw [hE1, hc1]; exact D0.new (0, 13)
  have Z1 : Zs cs.length M (cs.length + 1) M1 := by rw [hM1]; exact Z0.new
  refine ok_nbx fun E2 hE2 => ?_
  obtain ⟨c2, hc2⟩ : ∃ c, c = gRef c1 p0 0 (cs.length) := ⟨_, rfl⟩
  have l2 : c2.length = cs.length + 1 := by rw [hc2, gRef_len, l1]
  have a2 : cs.length ≤ c2.length := by rw [hc2, gRef_len]; exact a1
  have D2 : Desc E2 c2 := by rw [hE2, hn1, hc2]; exact D1.ref (Nat.lt_of_lt_of_le hp0 a1) b1
  have Z2 := Z1
  have e : g_Na_init cs p0 = c2 := by unfold g_Na_init; rw [← hc1, ← hc2]
  rw [e]
  exact ok_some ⟨D2, Z2⟩
def g_Bx_init (cs : Gc) (p0 : Nat) : Gc := gRef (gNew (gRef (gGrid (gRef (gNew (gRef (gNew (gRef (gNew (gRef (gNew (gRef (gNew (cs) (0, 30)) p0 0 (cs.length)) (0, 8)) p0 4 (cs.length + 1)) (0, 31)) p0 5 (cs.length + 1 + 1)) (0, 31)) p0 6 (cs.length + 1 + 1 + 1)) (0, 31)) p0 7 (cs.length + 1 + 1 + 1 + 1)) 31 8) p0 8 (cs.length + 1 + 1 + 1 + 1 + 1)) (0, 256)) p0 9 (cs.length + 1 + 1 + 1 + 1 + 1 + 1 + 31)
theorem g_Bx_init_len (cs : Gc) (p0 : Nat) : (g_Bx_init cs p0).length = cs.length + 38 := by simp only [g_Bx_init, gNew_len, gRef_len, gGrid_len]
set_option maxHeartbeats 2000000 in
theorem d_Bx_init {E : Ev} {M : Mm} {cs : Gc} {p0 : Nat} (hD : Desc E cs) (hp0 : p0 < cs.length) (tp0 : gT' cs p0 = (100, 0)) : Ok (f_Bx_init E M p0) (fun r => Desc r.1 (g_Bx_init cs p0) ∧ Zs cs.length M (cs.length + 38) r.2) := by
  unfold f_Bx_init
  refine ok_ck (hD.obj hp0 tp0) ?_
  have D0 := hD
  have Z0 : Zs cs.length M cs.length M := Zs.refl _ _
  have l0 : cs.length = cs.length := rfl
  have a0 : cs.length ≤ cs.length := Nat.le_refl _
  refine ok_nbx fun n1 hn1 => ok_nbx fun E1 hE1 => ok_nbx fun M1 hM1 => ?_
  have en1 : nE E = cs.length := D0.1.trans l0
  rw [en1] at hn1 hM1
  obtain ⟨c1, hc1⟩ : ∃ c, c = gNew cs (0, 30) := ⟨_, rfl⟩
  have l1 : c1.length = cs.length + 1 := by rw [hc1, gNew_len, l0]
  have a1 : cs.length ≤ c1.length := by rw [hc1, gNew_len]; exact Nat.le_trans a0 (Nat.le_succ _)
  have b1 : cs.length < c1.length := by rw [l1]; exact Nat.lt_succ_self _
  have D1 : Desc E1 c1 := by rw [hE1, hc1]; exact D0.new (0, 30)
  have Z1 : Zs cs.length M (cs.length + 1) M1 := by rw [hM1]; exact Z0.new
  refine ok_nbx fun E2 hE2 => ?_
  obtain ⟨c2, hc2⟩ : ∃ c, c = gRef c1 p0 0 (cs.length) := ⟨_, rfl⟩
  have l2 : c2.length = cs.length + 1 := by rw [hc2, gRef_len, l1]
  have a2 : cs.length ≤ c2.length := by rw [hc2, gRef_len]; exact a1
  have D2 : Desc E2 c2 := by rw [hE2, hn1, hc2]; exact D1.ref (Nat.lt_of_lt_of_le hp0 a1) b1
  have Z2 := Z1
  refine ok_nbx fun n3 hn3 => ok_nbx fun E3 hE3 => ok_nbx fun M3 hM3 => ?_
  have en3 : nE E2 = cs.length + 1 := D2.1.trans l2
  rw [en3] at hn3 hM3
  obtain ⟨c3, hc3⟩ : ∃ c, c = gNew c2 (0, 8) := ⟨_, rfl⟩
  have l3 : c3.length = cs.length + 1 + 1 := by rw [hc3, gNew_len, l2]
  have a3 : cs.length ≤ c3.length := by rw [hc3, gNew_len]; exact Nat.le_trans a2 (Nat.le_succ _)
  have b3 : cs.length + 1 < c3.length := by rw [l3]; exact Nat.lt_succ_self _
  have D3 : Desc E3 c3 := by rw [hE3, hc3]; exact D2.new (0, 8)
  have Z3 : Zs cs.length M (cs.length + 1 + 1) M3 := by rw [hM3]; exact Z2.new
  refine ok_nbx fun E4 hE4 => ?_
  obtain ⟨c4, hc4⟩ : ∃ c, c = gRef c3 p0 4 (cs.length + 1) := ⟨_, rfl⟩
  have l4 : c4.length = cs.length + 1 + 1 := by rw [hc4, gRef_len, l3]
  have a4 : cs.length ≤ c4.length := by rw [hc4, gRef_len]; exact a3
  have D4 : Desc E4 c4 := by rw [hE4, hn3, hc4]; exact D3.ref (Nat.lt_of_lt_of_le hp0 a3) b3
  have Z4 := Z3
  refine ok_nbx fun n5 hn5 => ok_nbx fun E5 hE5 => ok_nbx fun M5 hM5 => ?_
  have en5 : nE E4 = cs.length + 1 + 1 := D4.1.trans l4
  rw [en5] at hn5 hM5
  obtain ⟨c5, hc5⟩ : ∃ c, c = gNew c4 (0, 31) := ⟨_, rfl⟩
  have l5 : c5.length = cs.length + 1 + 1 + 1 := by rw [hc5, gNew_len, l4]
  have a5 : cs.length ≤ c5.length := by rw [hc5, gNew_len]; exact Nat.le_trans a4 (Nat.le_succ _)
  have b5 : cs.length + 1 + 1 < c5.length := by rw [l5]; exact Nat.lt_succ_self _
  have D5 : Desc E5 c5 := by rw [hE5, hc5]; exact D4.new (0, 31)
  have Z5 : Zs cs.length M (cs.length + 1 + 1 + 1) M5 := by rw [hM5]; exact Z4.new
  refine ok_nbx fun E6 hE6 => ?_
  obtain ⟨c6, hc6⟩ : ∃ c, c = gRef c5 p0 5 (cs.length + 1 + 1) := ⟨_, rfl⟩
  have l6 : c6.length = cs.length + 1 + 1 + 1 := by rw [hc6, gRef_len, l5]
  have a6 : cs.length ≤ c6.length := by rw [hc6, gRef_len]; exact a5
  have D6 : Desc E6 c6 := by rw [hE6, hn5, hc6]; exact D5.ref (Nat.lt_of_lt_of_le hp0 a5) b5
  have Z6 := Z5
  refine ok_nbx fun n7 hn7 => ok_nbx fun E7 hE7 => ok_nbx fun M7 hM7 => ?_
  have en7 : nE E6 = cs.length + 1 + 1 + 1 := D6.1.trans l6
  rw [en7] at hn7 hM7
  obtain ⟨c7, hc7⟩ : ∃ c, c = gNew c6 (0, 31) := ⟨_, rfl⟩
  have l7 : c7.length = cs.length + 1 + 1 + 1 + 1 := by rw [hc7, gNew_len, l6]
  have a7 : cs.length ≤ c7.length := by rw [hc7, gNew_len]; exact Nat.le_trans a6 (Nat.le_succ _)
  have b7 : cs.length + 1 + 1 + 1 < c7.length := by rw [l7]; exact Nat.lt_succ_self _
  have D7 : Desc E7 c7 := by rw [hE7, hc7]; exact D6.new (0, 31)
  have Z7 : Zs cs.length M (cs.length + 1 + 1 + 1 + 1) M7 := by rw [hM7]; exact Z6.new
  refine ok_nbx fun E8 hE8 => ?_
  obtain ⟨c8, hc8⟩ : ∃ c, c = gRef c7 p0 6 (cs.length + 1 + 1 + 1) := ⟨_, rfl⟩
  have l8 : c8.length = cs.length + 1 + 1 + 1 + 1 := by rw [hc8, gRef_len, l7]
  have a8 : cs.length ≤ c8.length := by rw [hc8, gRef_len]; exact a7
  have D8 : Desc E8 c8 := by rw [hE8, hn7, hc8]; exact D7.ref (Nat.lt_of_lt_of_le hp0 a7) b7
  have Z8 := Z7
  refine ok_nbx fun n9 hn9 => ok_nbx fun E9 hE9 => ok_nbx fun M9 hM9 => ?_
  have en9 : nE E8 = cs.length + 1 + 1 + 1 + 1 := D8.1.trans l8
  rw [en9] at hn9 hM9
  obtain ⟨c9, hc9⟩ : ∃ c, c = gNew c8 (0, 31) := ⟨_, rfl⟩
  have l9 : c9.length = cs.length + 1 + 1 + 1 + 1 + 1 := by rw [hc9, gNew_len, l8]
  have a9 : cs.length ≤ c9.length := by rw [hc9, gNew_len]; exact Nat.le_trans a8 (Nat.le_succ _)
  have b9 : cs.length + 1 + 1 + 1 + 1 < c9.length := by rw [l9]; exact Nat.lt_succ_self _
  have D9 : Desc E9 c9 := by rw [hE9, hc9]; exact D8.new (0, 31)
  have Z9 : Zs cs.length M (cs.length + 1 + 1 + 1 + 1 + 1) M9 := by rw [hM9]; exact Z8.new
  refine ok_nbx fun E10 hE10 => ?_
  obtain ⟨c10, hc10⟩ : ∃ c, c = gRef c9 p0 7 (cs.length + 1 + 1 + 1 + 1) := ⟨_, rfl⟩
  have l10 : c10.length = cs.length + 1 + 1 + 1 + 1 + 1 := by rw [hc10, gRef_len, l9]
  have a10 : cs.length ≤ c10.length := by rw [hc10, gRef_len]; exact a9
  have D10 : Desc E10 c10 := by rw [hE10, hn9, hc10]; exact D9.ref (Nat.lt_of_lt_of_le hp0 a9) b9
  have Z10 := Z9
  refine ok_nbx fun n11 hn11 => ok_nbx fun E11 hE11 => ok_nbx fun M11 hM11 => ?_
  have en11 : nE E10 = cs.length + 1 + 1 + 1 + 1 + 1 := D10.1.trans l10
  rw [en11] at hn11 hM11
  obtain ⟨c11, hc11⟩ : ∃ c, c = gGrid c10 31 8 := ⟨_, rfl⟩
  have l11 : c11.length = cs.length + 1 + 1 + 1 + 1 + 1 + 1 + 31 := by rw [hc11, gGrid_len, l10]
  have a11 : cs.length ≤ c11.length := by rw [hc11, gGrid_len]; exact Nat.le_trans a10 (Nat.le_trans (Nat.le_succ _) (Nat.le_add_right _ _))
  have b11 : cs.length + 1 + 1 + 1 + 1 + 1 < c11.length := by rw [l11]; exact Nat.lt_of_lt_of_le (Nat.lt_succ_self _) (Nat.le_add_right _ _)
  have D11 : Desc E11 c11 := by rw [hE11, hc11]; exact D10.grid 31 8
  have Z11 : Zs cs.length M (cs.length + 1 + 1 + 1 + 1 + 1 + 1 + 31) M11 := by rw [hM11]; exact Z10.grid
  refine ok_nbx fun E12 hE12 => ?_
  obtain ⟨c12, hc12⟩ : ∃ c, c = gRef c11 p0 8 (cs.length + 1 + 1 + 1 + 1 + 1) := ⟨_, rfl⟩
  have l12 : c12.length = cs.length + 1 + 1 + 1 + 1 + 1 + 1 + 31 := by rw [hc12, gRef_len, l11]
  have a12 : cs.length ≤ c12.length := by rw [hc12, gRef_len]; exact a11
  have D12 : Desc E12 c12 := by rw [hE12, hn11, hc12]; exact D11.ref (Nat.lt_of_lt_of_le hp0 a11) b11
  have Z12 := Z11
  refine ok_nbx fun n13 hn13 => ok_nbx fun E13 hE13 => ok_nbx fun M13 hM13 => ?_
  have en13 : nE E12 = cs.length + 1 + 1 + 1 + 1 + 1 + 1 + 31 := D12.1.trans l12
  rw [en13] at hn13 hM13
  obtain ⟨c13, hc13⟩ : ∃ c, c = gNew c12 (0, 256) := ⟨_, rfl⟩
  have l13 : c13.length = cs.length + 1 + 1 + 1 + 1 + 1 + 1 + 31 + 1 := by rw [hc13, gNew_len, l12]
  have a13 : cs.length ≤ c13.length := by rw [hc13, gNew_len]; exact Nat.le_trans a12 (Nat.le_succ _)
  have b13 : cs.length + 1 + 1 + 1 + 1 + 1 + 1 + 31 < c13.length := by rw [l13]; exact Nat.lt_succ_self _
  have D13 : Desc E13 c13 := by rw [hE13, hc13]; exact D12.new (0, 256)
  have Z13 : Zs cs.length M (cs.length + 1 + 1 + 1 + 1 + 1 + 1 + 31 + 1) M13 := by rw [hM13]; exact Z12.new
  refine ok_nbx fun E14 hE14 => ?_
  obtain ⟨c14, hc14⟩ : ∃ c, c = gRef c13 p0 9 (cs.length + 1 + 1 + 1 + 1 + 1 + 1 + 31) := ⟨_, rfl⟩
  have l14 : c14.length = cs.length + 1 + 1 + 1 + 1 + 1 + 1 + 31 + 1 := by rw [hc14, gRef_len, l13]
  have a14 : cs.length ≤ c14.length := by rw [hc14, gRef_len]; exact a13
  have D14 : Desc E14 c14 := by rw [hE14, hn13, hc14]; exact D13.ref (Nat.lt_of_lt_of_le hp0 a13) b13
  have Z14 := Z13
  have e : g_Bx_init cs p0 = c14 := by unfold g_Bx_init; rw [← hc1, ← hc2, ← hc3, ← hc4, ← hc5, ← hc6, ← hc7, ← hc8, ← hc9, ← hc10, ← hc11, ← hc12, ← hc13, ← hc14]
  rw [e]
  exact ok_some ⟨D14, Z14⟩
def g_Po_init (cs : Gc) (p0 : Nat) (p1 : Nat) : Gc := gRef (gRef (gNew (gRef (gNew (gRef (gNew (gRef (gNew (gRef (gNew (gRef (gNew (gRef (gNew (gRef (gNew (gRef (gNew (cs) (0, 31)) p0 3 (cs.length)) (0, 8)) p0 4 (cs.length + 1)) (0, 8)) p0 5 (cs.length + 1 + 1)) (0, 64)) p0 6 (cs.length + 1 + 1 + 1)) (0, 8)) p0 7 (cs.length + 1 + 1 + 1 + 1)) (0, 64)) p0 8 (cs.length + 1 + 1 + 1 + 1 + 1)) (1, 8)) p0 9 (cs.length + 1 + 1 + 1 + 1 + 1 + 1)) (0, 8)) p0 10 (cs.length + 1 + 1 + 1 + 1 + 1 + 1 + 1)) (1, 256)) p0 11 (cs.length + 1 + 1 + 1 + 1 + 1 + 1 + 1 + 1)) p0 0 (p1)
theorem g_Po_init_len (cs : Gc) (p0 : Nat) (p1 : Nat) : (g_Po_init cs p0 p1).length = cs.length + 9 := by simp only [g_Po_init, gNew_len, gRef_len, gGrid_len]
set_option maxHeartbeats 2000000 in
theorem d_Po_init {E : Ev} {M : Mm} {cs : Gc} {p0 : Nat} {p1 : Nat} (hD : Desc E cs) (hp0 : p0 < cs.length) (tp0 : gT' cs p0 = (109, 0)) (hp1 : p1 < cs.length) (tp1 : gT' cs p1 = (100, 0)) : Ok (f_Po_init E M p0 p1) (fun r => Desc r.1 (g_Po_init cs p0 p1) ∧ Zs cs.length M (cs.length + 9) r.2) := by
  unfold f_Po_init
  refine ok_ck (hD.obj hp0 tp0) ?_
  refine ok_ck (hD.obj hp1 tp1) ?_
  have D0 := hD
  have Z0 : Zs cs.length M cs.length M := Zs.refl _ _
  have l0 : cs.length = cs.length := rfl
  have a0 : cs.length ≤ cs.length := Nat.le_refl _
  refine ok_nbx fun n1 hn1 => ok_nbx fun E1 hE1 => ok_nbx fun M1 hM1 => ?_
  have en1 : nE E = cs.length := D0.1.trans l0
  rw [en1] at hn1 hM1
  obtain ⟨c1, hc1⟩ : ∃ c, c = gNew cs (0, 31) := ⟨_, rfl⟩
  have l1 : c1.length = cs.length + 1 := by rw [hc1, gNew_len, l0]
  have a1 : cs.length ≤ c1.length := by rw [hc1, gNew_len]; exact Nat.le_trans a0 (Nat.le_succ _)
  have b1 : cs.length < c1.length := by rw [l1]; exact Nat.lt_succ_self _
  have D1 : Desc E1 c1 := by rw [hE1, hc1]; exact D0.new (0, 31)
  have Z1 : Zs cs.length M (cs.length + 1) M1 := by rw [hM1]; exact Z0.new
  refine ok_nbx fun E2 hE2 => ?_
  obtain ⟨c2, hc2⟩ : ∃ c, c = gRef c1 p0 3 (cs.length) := ⟨_, rfl⟩
  have l2 : c2.length = cs.length + 1 := by rw [hc2, gRef_len, l1]
  have a2 : cs.length ≤ c2.length := by rw [hc2, gRef_len]; exact a1
  have D2 : Desc E2 c2 := by rw [hE2, hn1, hc2]; exact D1.ref (Nat.lt_of_lt_of_le hp0 a1) b1
  have Z2 := Z1
  refine ok_nbx fun n3 hn3 => ok_nbx fun E3 hE3 => ok_nbx fun M3 hM3 => ?_
  have en3 : nE E2 = cs.length + 1 := D2.1.trans l2
  rw [en3] at hn3 hM3
  obtain ⟨c3, hc3⟩ : ∃ c, c = gNew c2 (0, 8) := ⟨_, rfl⟩
  have l3 : c3.length = cs.length + 1 + 1 := by rw [hc3, gNew_len, l2]
  have a3 : cs.length ≤ c3.length := by rw [hc3, gNew_len]; exact Nat.le_trans a2 (Nat.le_succ _)
  have b3 : cs.length + 1 < c3.length := by rw [l3]; exact Nat.lt_succ_self _
  have D3 : Desc E3 c3 := by rw [hE3, hc3]; exact D2.new (0, 8)
  have Z3 : Zs cs.length M (cs.length + 1 + 1) M3 := by rw [hM3]; exact Z2.new
  refine ok_nbx fun E4 hE4 => ?_
  obtain ⟨c4, hc4⟩ : ∃ c, c = gRef c3 p0 4 (cs.length + 1) := ⟨_, rfl⟩
  have l4 : c4.length = cs.length + 1 + 1 := by rw [hc4, gRef_len, l3]
  have a4 : cs.length ≤ c4.length := by rw [hc4, gRef_len]; exact a3
  have D4 : Desc E4 c4 := by rw [hE4, hn3, hc4]; exact D3.ref (Nat.lt_of_lt_of_le hp0 a3) b3
  have Z4 := Z3
  refine ok_nbx fun n5 hn5 => ok_nbx fun E5 hE5 => ok_nbx fun M5 hM5 => ?_
  have en5 : nE E4 = cs.length + 1 + 1 := D4.1.trans l4
  rw [en5] at hn5 hM5
  obtain ⟨c5, hc5⟩ : ∃ c, c = gNew c4 (0, 8) := ⟨_, rfl⟩
  have l5 : c5.length = cs.length + 1 + 1 + 1 := by rw [hc5, gNew_len, l4]
  have a5 : cs.length ≤ c5.length := by rw [hc5, gNew_len]; exact Nat.le_trans a4 (Nat.le_succ _)
  have b5 : cs.length + 1 + 1 < c5.length := by rw [l5]; exact Nat.lt_succ_self _
  have D5 : Desc E5 c5 := by rw [hE5, hc5]; exact D4.new (0, 8)
  have Z5 : Zs cs.length M (cs.length + 1 + 1 + 1) M5 := by rw [hM5]; exact Z4.new
  refine ok_nbx fun E6 hE6 => ?_
  obtain ⟨c6, hc6⟩ : ∃ c, c = gRef c5 p0 5 (cs.length + 1 + 1) := ⟨_, rfl⟩
  have l6 : c6.length = cs.length + 1 + 1 + 1 := by rw [hc6, gRef_len, l5]
  have a6 : cs.length ≤ c6.length := by rw [hc6, gRef_len]; exact a5
  have D6 : Desc E6 c6 := by rw [hE6, hn5, hc6]; exact D5.ref (Nat.lt_of_lt_of_le hp0 a5) b5
  have Z6 := Z5
  refine ok_nbx fun n7 hn7 => ok_nbx fun E7 hE7 => ok_nbx fun M7 hM7 => ?_
  have en7 : nE E6 = cs.length + 1 + 1 + 1 := D6.1.trans l6
  rw [en7] at hn7 hM7
  obtain ⟨c7, hc7⟩ : ∃ c, c = gNew c6 (0, 64) := ⟨_, rfl⟩
  have l7 : c7.length = cs.length + 1 + 1 + 1 + 1 := by rw [hc7, gNew_len, l6]
  have a7 : cs.length ≤ c7.length := by rw [hc7, gNew_len]; exact Nat.le_trans a6 (Nat.le_succ _)
  have b7 : cs.length + 1 + 1 + 1 < c7.length := by rw [l7]; exact Nat.lt_succ_self _
  have D7 : Desc E7 c7 := by rw [hE7, hc7]; exact D6.new (0, 64)
  have Z7 : Zs cs.length M (cs.length + 1 + 1 + 1 + 1) M7 := by rw [hM7]; exact Z6.new
  refine ok_nbx fun E8 hE8 => ?_
  obtain ⟨c8, hc8⟩ : ∃ c, c = gRef c7 p0 6 (cs.length + 1 + 1 + 1) := ⟨_, rfl⟩
  have l8 : c8.length = cs.length + 1 + 1 + 1 + 1 := by rw [hc8, gRef_len, l7]
  have a8 : cs.length ≤ c8.length := by rw [hc8, gRef_len]; exact a7
  have D8 : Desc E8 c8 := by rw [hE8, hn7, hc8]; exact D7.ref (Nat.lt_of_lt_of_le hp0 a7) b7
  have Z8 := Z7
  refine ok_nbx fun n9 hn9 => ok_nbx fun E9 hE9 => ok_nbx fun M9 hM9 => ?_
  have en9 : nE E8 = cs.length + 1 + 1 + 1 + 1 := D8.1.trans l8
  rw [en9] at hn9 hM9
  obtain ⟨c9, hc9⟩ : ∃ c, c = gNew c8 (0, 8) := ⟨_, rfl⟩
  have l9 : c9.length = cs.length + 1 + 1 + 1 + 1 + 1 := by rw [hc9, gNew_len, l8]
  have a9 : cs.length ≤ c9.length := by rw [hc9, gNew_len]; exact Nat.le_trans a8 (Nat.le_succ _)
  have b9 : cs.length + 1 + 1 + 1 + 1 < c9.length := by rw [l9]; exact Nat.lt_succ_self _
  have D9 : Desc E9 c9 := by rw [hE9, hc9]; exact D8.new (0, 8)
  have Z9 : Zs cs.length M (cs.length + 1 + 1 + 1 + 1 + 1) M9 := by rw [hM9]; exact Z8.new
  refine ok_nbx fun E10 hE10 => ?_
  obtain ⟨c10, hc10⟩ : ∃ c, c = gRef c9 p0 7 (cs.length + 1 + 1 + 1 + 1) := ⟨_, rfl⟩
  have l10 : c10.length = cs.length + 1 + 1 + 1 + 1 + 1 := by rw [hc10, gRef_len, l9]
  have a10 : cs.length ≤ c10.length := by rw [hc10, gRef_len]; exact a9
  have D10 : Desc E10 c10 := by rw [hE10, hn9, hc10]; exact D9.ref (Nat.lt_of_lt_of_le hp0 a9) b9
  have Z10 := Z9
  refine ok_nbx fun n11 hn11 => ok_nbx fun E11 hE11 => ok_nbx fun M11 hM11 => ?_
  have en11 : nE E10 = cs.length + 1 + 1 + 1 + 1 + 1 := D10.1.trans l10
  rw [en11] at hn11 hM11
  obtain ⟨c11, hc11⟩ : ∃ c, c = gNew c10 (0, 64) := ⟨_, rfl⟩
  have l11 : c11.length = cs.length + 1 + 1 + 1 + 1 + 1 + 1 := by rw [hc11, gNew_len, l10]
  have a11 : cs.length ≤ c11.length := by rw [hc11, gNew_len]; exact Nat.le_trans a10 (Nat.le_succ _)
  have b11 : cs.length + 1 + 1 + 1 + 1 + 1 < c11.length := by rw [l11]; exact Nat.lt_succ_self _
  have D11 : Desc E11 c11 := by rw [hE11, hc11]; exact D10.new (0, 64)
  have Z11 : Zs cs.length M (cs.length + 1 + 1 + 1 + 1 + 1 + 1) M11 := by rw [hM11]; exact Z10.new
  refine ok_nbx fun E12 hE12 => ?_
  obtain ⟨c12, hc12⟩ : ∃ c, c = gRef c11 p0 8 (cs.length + 1 + 1 + 1 + 1 + 1) := ⟨_, rfl⟩
  have l12 : c12.length = cs.length + 1 + 1 + 1 + 1 + 1 + 1 := by rw [hc12, gRef_len, l11]
  have a12 : cs.length ≤ c12.length := by rw [hc12, gRef_len]; exact a11
  have D12 : Desc E12 c12 := by rw [hE12, hn11, hc12]; exact D11.ref (Nat.lt_of_lt_of_le hp0 a11) b11
  have Z12 := Z11
  refine ok_nbx fun n13 hn13 => ok_nbx fun E13 hE13 => ok_nbx fun M13 hM13 => ?_
  have en13 : nE E12 = cs.length + 1 + 1 + 1 + 1 + 1 + 1 := D12.1.trans l12
  rw [en13] at hn13 hM13
  obtain ⟨c13, hc13⟩ : ∃ c, c = gNew c12 (1, 8) := ⟨_, rfl⟩
  have l13 : c13.length = cs.length + 1 + 1 + 1 + 1 + 1 + 1 + 1 := by rw [hc13, gNew_len, l12]
  have a13 : cs.length ≤ c13.length := by rw [hc13, gNew_len]; exact Nat.le_trans a12 (Nat.le_succ _)
  have b13 : cs.length + 1 + 1 + 1 + 1 + 1 + 1 < c13.length := by rw [l13]; exact Nat.lt_succ_self _
  have D13 : Desc E13 c13 := by rw [hE13, hc13]; exact D12.new (1, 8)
  have Z13 : Zs cs.length M (cs.length + 1 + 1 + 1 + 1 + 1 + 1 + 1) M13 := by rw [hM13]; exact Z12.new
  refine ok_nbx fun E14 hE14 => ?_
  obtain ⟨c14, hc14⟩ : ∃ c, c = gRef c13 p0 9 (cs.length + 1 + 1 + 1 + 1 + 1 + 1) := ⟨_, rfl⟩
  have l14 : c14.length = cs.length + 1 + 1 + 1 + 1 + 1 + 1 + 1 := by rw [hc14, gRef_len, l13]
  have a14 : cs.length ≤ c14.length := by rw [hc14, gRef_len]; exact a13
  have D14 : Desc E14 c14 := by rw [hE14, hn13, hc14]; exact D13.ref (Nat.lt_of_lt_of_le hp0 a13) b13
  have Z14 := Z13
  refine ok_nbx fun n15 hn15 => ok_nbx fun E15 hE15 => ok_nbx fun M15 hM15 => ?_
  have en15 : nE E14 = cs.length + 1 + 1 + 1 + 1 + 1 + 1 + 1 := D14.1.trans l14
  rw [en15] at hn15 hM15
  obtain ⟨c15, hc15⟩ : ∃ c, c = gNew c14 (0, 8) := ⟨_, rfl⟩
  have l15 : c15.length = cs.length + 1 + 1 + 1 + 1 + 1 + 1 + 1 + 1 := by rw [hc15, gNew_len, l14]
  have a15 : cs.length ≤ c15.length := by rw [hc15, gNew_len]; exact Nat.le_trans a14 (Nat.le_succ _)
  have b15 : cs.length + 1 + 1 + 1 + 1 + 1 + 1 + 1 < c15.length := by rw [l15]; exact Nat.lt_succ_self _
  have D15 : Desc E15 c15 := by rw [hE15, hc15]; exact D14.new (0, 8)
  have Z15 : Zs cs.length M (cs.length + 1 + 1 + 1 + 1 + 1 + 1 + 1 + 1) M15 := by rw [hM15]; exact Z14.new
  refine ok_nbx fun E16 hE16 => ?_
  obtain ⟨c16, hc16⟩ : ∃ c, c = gRef c15 p0 10 (cs.length + 1 + 1 + 1 + 1 + 1 + 1 + 1) := ⟨_, rfl⟩
  have l16 : c16.length = cs.length + 1 + 1 + 1 + 1 + 1 + 1 + 1 + 1 := by rw [hc16, gRef_len, l15]
  have a16 : cs.length ≤ c16.length := by rw [hc16, gRef_len]; exact a15
  have D16 : Desc E16 c16 := by rw [hE16, hn15, hc16]; exact D15.ref (Nat.lt_of_lt_of_le hp0 a15) b15
  have Z16 := Z15
  refine ok_nbx fun n17 hn17 => ok_nbx fun E17 hE17 => ok_nbx fun M17 hM17 => ?_
  have en17 : nE E16 = cs.length + 1 + 1 + 1 + 1 + 1 + 1 + 1 + 1 := D16.1.trans l16
  rw [en17] at hn17 hM17
  obtain ⟨c17, hc17⟩ : ∃ c, c = gNew c16 (1, 256) := ⟨_, rfl⟩
  have l17 : c17.length = cs.length + 1 + 1 + 1 + 1 + 1 + 1 + 1 + 1 + 1 := by rw [hc17, gNew_len, l16]
  have a17 : cs.length ≤ c17.length := by rw [hc17, gNew_len]; exact Nat.le_trans a16 (Nat.le_succ _)
  have b17 : cs.length + 1 + 1 + 1 + 1 + 1 + 1 + 1 + 1 < c17.length := by rw [l17]; exact Nat.lt_succ_self _
  have D17 : Desc E17 c17 := by rw [hE17, hc17]; exact D16.new (1, 256)
  have Z17 : Zs cs.length M (cs.length + 1 + 1 + 1 + 1 + 1 + 1 + 1 + 1 + 1) M17 := by rw [hM17]; exact Z16.new
  refine ok_nbx fun E18 hE18 => ?_
  obtain ⟨c18, hc18⟩ : ∃ c, c = gRef c17 p0 11 (cs.length + 1 + 1 + 1 + 1 + 1 + 1 + 1 + 1) := ⟨_, rfl⟩
  have l18 : c18.length = cs.length + 1 + 1 + 1 + 1 + 1 + 1 + 1 + 1 + 1 := by rw [hc18, gRef_len, l17]
  have a18 : cs.length ≤ c18.length := by rw [hc18, gRef_len]; exact a17
  have D18 : Desc E18 c18 := by rw [hE18, hn17, hc18]; exact D17.ref (Nat.lt_of_lt_of_le hp0 a17) b17
  have Z18 := Z17
  refine ok_nbx fun E19 hE19 => ?_
  obtain ⟨c19, hc19⟩ : ∃ c, c = gRef c18 p0 0 (p1) := ⟨_, rfl⟩
  have l19 : c19.length = cs.length + 1 + 1 + 1 + 1 + 1 + 1 + 1 + 1 + 1 := by rw [hc19, gRef_len, l18]
  have a19 : cs.length ≤ c19.length := by rw [hc19, gRef_len]; exact a18
  have D19 : Desc E19 c19 := by rw [hE19, hc19]; exact D18.ref (Nat.lt_of_lt_of_le hp0 a18) (Nat.lt_of_lt_of_le hp1 a18)
  have Z19 := Z18
  have e : g_Po_init cs p0 p1 = c19 := by unfold g_Po_init; rw [← hc1, ← hc2, ← hc3, ← hc4, ← hc5, ← hc6, ← hc7, ← hc8, ← hc9, ← hc10, ← hc11, ← hc12, ← hc13, ← hc14, ← hc15, ← hc16, ← hc17, ← hc18, ← hc19]
  rw [e]
  exact ok_some ⟨D19, Z19⟩
def g_Fb_init (cs : Gc) (p0 : Nat) (p1 : Nat) (p2 : Nat) : Gc := gRef (gRef (gRef (gNew (cs) (0, 5)) p0 2 (cs.length)) p0 0 (p1)) p0 1 (p2)
theorem g_Fb_init_len (cs : Gc) (p0 : Nat) (p1 : Nat) (p2 : Nat) : (g_Fb_init cs p0 p1 p2).length = cs.length + 1 := by simp only [g_Fb_init, gNew_len, gRef_len, gGrid_len]
set_option maxHeartbeats 2000000 in
theorem d_Fb_init {E : Ev} {M : Mm} {cs : Gc} {p0 : Nat} {p1 : Nat} {p2 : Nat} (hD : Desc E cs) (hp0 : p0 < cs.length) (tp0 : gT' cs p0 = (105, 0)) (hp1 : p1 < cs.length) (tp1 : gT' cs p1 = (100, 0)) (hp2 : p2 < cs.length) (tp2 : gT' cs p2 = (109, 0)) : Ok (f_Fb_init E M p0 p1 p2) (fun r => Desc r.1 (g_Fb_init cs p0 p1 p2) ∧ Zs cs.length M (cs.length + 1) r.2) := by
  unfold f_Fb_init
  refine ok_ck (hD.obj hp0 tp0) ?_
  refine ok_ck (hD.obj hp1 tp1) ?_
  refine ok_ck (hD.obj hp2 tp2) ?_
  have D0 := hD
  have Z0 : Zs cs.length M cs.length M := Zs.refl _ _
  have l0 : cs.length = cs.length := rfl
  have a0 : cs.length ≤ cs.length := Nat.le_refl _
  refine ok_nbx fun n1 hn1 => ok_nbx fun E1 hE1 => ok_nbx fun M1 hM1 => ?_
  have en1 : nE E = cs.length := D0.1.trans l0
  rw [en1] at hn1 hM1
  obtain ⟨c1, hc1⟩ : ∃ c, c = gNew cs (0, 5) := ⟨_, rfl⟩
  have l1 : c1.length = cs.length + 1 := by rw [hc1, gNew_len, l0]
  have a1 : cs.length ≤ c1.length := by rw [hc1, gNew_len]; exact Nat.le_trans a0 (Nat.le_succ _)
  have b1 : cs.length < c1.length := by rw [l1]; exact Nat.lt_succ_self _
  have D1 : Desc E1 c1 := by rw [hE1, hc1]; exact D0.new (0, 5)
  have Z1 : Zs cs.length M (cs.length + 1) M1 := by rw [hM1]; exact Z0.new
  refine ok_nbx fun E2 hE2 => ?_
  obtain ⟨c2, hc2⟩ : ∃ c, c = gRef c1 p0 2 (cs.length) := ⟨_, rfl⟩
  have l2 : c2.length = cs.length + 1 := by rw [hc2, gRef_len, l1]
  have a2 : cs.length ≤ c2.length := by rw [hc2, gRef_len]; exact a1
  have D2 : Desc E2 c2 := by rw [hE2, hn1, hc2]; exact D1.ref (Nat.lt_of_lt_of_le hp0 a1) b1
  have Z2 := Z1
  refine ok_nbx fun E3 hE3 => ?_
  obtain ⟨c3, hc3⟩ : ∃ c, c = gRef c2 p0 0 (p1) := ⟨_, rfl⟩
  have l3 : c3.length = cs.length + 1 := by rw [hc3, gRef_len, l2]
  have a3 : cs.length ≤ c3.length := by rw [hc3, gRef_len]; exact a2
  have D3 : Desc E3 c3 := by rw [hE3, hc3]; exact D2.ref (Nat.lt_of_lt_of_le hp0 a2) (Nat.lt_of_lt_of_le hp1 a2)
  have Z3 := Z2
  refine ok_nbx fun E4 hE4 => ?_
  obtain ⟨c4, hc4⟩ : ∃ c, c = gRef c3 p0 1 (p2) := ⟨_, rfl⟩
  have l4 : c4.length = cs.length + 1 := by rw [hc4, gRef_len, l3]
  have a4 : cs.length ≤ c4.length := by rw [hc4, gRef_len]; exact a3
  have D4 : Desc E4 c4 := by rw [hE4, hc4]; exact D3.ref (Nat.lt_of_lt_of_le hp0 a3) (Nat.lt_of_lt_of_le hp2 a3)
  have Z4 := Z3
  have e : g_Fb_init cs p0 p1 p2 = c4 := by unfold g_Fb_init; rw [← hc1, ← hc2, ← hc3, ← hc4]
  rw [e]
  exact ok_some ⟨D4, Z4⟩
def g_Di_init (cs : Gc) (p0 : Nat) : Gc := gRef (gNew (gRef (gNew (gRef (gNew (gRef (gNew (gRef (gNew (gRef (gNew (cs) (0, 8)) p0 2 (cs.length)) (1, 8)) p0 3 (cs.length + 1)) (0, 8)) p0 4 (cs.length + 1 + 1)) (0, 8)) p0 5 (cs.length + 1 + 1 + 1)) (1, 8)) p0 6 (cs.length + 1 + 1 + 1 + 1)) (0, 61)) p0 7 (cs.length + 1 + 1 + 1 + 1 + 1)
theorem g_Di_init_len (cs : Gc) (p0 : Nat) : (g_Di_init cs p0).length = cs.length + 6 := by simp only [g_Di_init, gNew_len, gRef_len, gGrid_len]
set_option maxHeartbeats 2000000 in
theorem d_Di_init {E : Ev} {M : Mm} {cs : Gc} {p0 : Nat} (hD : Desc E cs) (hp0 : p0 < cs.length) (tp0 : gT' cs p0 = (104, 0)) : Ok (f_Di_init E M p0) (fun r => Desc r.1 (g_Di_init cs p0) ∧ Zs cs.length M (cs.length + 6) r.2) := by
  unfold f_Di_init
  refine ok_ck (hD.obj hp0 tp0) ?_
  have D0 := hD
  have Z0 : Zs cs.length M cs.length M := Zs.refl _ _
  have l0 : cs.length = cs.length := rfl
  have a0 : cs.length ≤ cs.length := Nat.le_refl _
  refine ok_nbx fun n1 hn1 => ok_nbx fun E1 hE1 => ok_nbx fun M1 hM1 => ?_
  have en1 : nE E = cs.length := D0.1.trans l0
  rw [en1] at hn1 hM1
  obtain ⟨c1, hc1⟩ : ∃ c, c = gNew cs (0, 8) := ⟨_, rfl⟩
  have l1 : c1.length = cs.length + 1 := by rw [hc1, gNew_len, l0]
  have a1 : cs.length ≤ c1.length := by rw [hc1, gNew_len]; exact Nat.le_trans a0 (Nat.le_succ _)
  have b1 : cs.length < c1.length := by rw [l1]; exact Nat.lt_succ_self _
  have D1 : Desc E1 c1 := by rw [hE1, hc1]; exact D0.new (0, 8)
  have Z1 : Zs cs.length M (cs.length + 1) M1 := by rw [hM1]; exact Z0.new
  refine ok_nbx fun E2 hE2 => ?_
  obtain ⟨c2, hc2⟩ : ∃ c, c = gRef c1 p0 2 (cs.length) := ⟨_, rfl⟩
  have l2 : c2.length = cs.length + 1 := by rw [hc2, gRef_len, l1]
  have a2 : cs.length ≤ c2.length := by rw [hc2, gRef_len]; exact a1
  have D2 : Desc E2 c2 := by rw [hE2, hn1, hc2]; exact D1.ref (Nat.lt_of_lt_of_le hp0 a1) b1
  have Z2 := Z1
  refine ok_nbx fun n3 hn3 => ok_nbx fun E3 hE3 => ok_nbx fun M3 hM3 => ?_
  have en3 : nE E2 = cs.length + 1 := D2.1.trans l2
  rw [en3] at hn3 hM3
  obtain ⟨c3, hc3⟩ : ∃ c, c = gNew c2 (1, 8) := ⟨_, rfl⟩
  have l3 : c3.length = cs.length + 1 + 1 := by rw [hc3, gNew_len, l2]
  have a3 : cs.length ≤ c3.length := by rw [hc3, gNew_len]; exact Nat.le_trans a2 (Nat.le_succ _)
  have b3 : cs.length + 1 < c3.length := by rw [l3]; exact Nat.lt_succ_self _
  have D3 : Desc E3 c3 := by rw [hE3, hc3]; exact D2.new (1, 8)
  have Z3 : Zs cs.length M (cs.length + 1 + 1) M3 := by rw [hM3]; exact Z2.new
  refine ok_nbx fun E4 hE4 => ?_
  obtain ⟨c4, hc4⟩ : ∃ c, c = gRef c3 p0 3 (cs.length + 1) := ⟨_, rfl⟩
  have l4 : c4.length = cs.length + 1 + 1 := by rw [hc4, gRef_len, l3]
  have a4 : cs.length ≤ c4.length := by rw [hc4, gRef_len]; exact a3
  have D4 : Desc E4 c4 := by rw [hE4, hn3, hc4]; exact D3.ref (Nat.lt_of_lt_of_le hp0 a3) b3
  have Z4 := Z3
  refine ok_nbx fun n5 hn5 => ok_nbx fun E5 hE5 => ok_nbx fun M5 hM5 => ?_
  have en5 : nE E4 = cs.length + 1 + 1 := D4.1.trans l4
  rw [en5] at hn5 hM5
  obtain ⟨c5, hc5⟩ : ∃ c, c = gNew c4 (0, 8) := ⟨_, rfl⟩
  have l5 : c5.length = cs.length + 1 + 1 + 1 := by rw [hc5, gNew_len, l4]
  have a5 : cs.length ≤ c5.length := by rw [hc5, gNew_len]; exact Nat.le_trans a4 (Nat.le_succ _)
  have b5 : cs.length + 1 + 1 < c5.length := by rw [l5]; exact Nat.lt_succ_self _
  have D5 : Desc E5 c5 := by rw [hE5, hc5]; exact D4.new (0, 8)
  have Z5 : Zs cs.length M (cs.length + 1 + 1 + 1) M5 := by rw [hM5]; exact Z4.new
  refine ok_nbx fun E6 hE6 => ?_
  obtain ⟨c6, hc6⟩ : ∃ c, c = gRef c5 p0 4 (cs.length + 1 + 1) := ⟨_, rfl⟩
  have l6 : c6.length = cs.length + 1 + 1 + 1 := by rw [hc6, gRef_len, l5]
  have a6 : cs.length ≤ c6.length := by rw [hc6, gRef_len]; exact a5
  have D6 : Desc E6 c6 := by rw [hE6, hn5, hc6]; exact D5.ref (Nat.lt_of_lt_of_le hp0 a5) b5
  have Z6 := Z5
  refine ok_nbx fun n7 hn7 => ok_nbx fun E7 hE7 => ok_nbx fun M7 hM7 => ?_
  have en7 : nE E6 = cs.length + 1 + 1 + 1 := D6.1.trans l6
  rw [en7] at hn7 hM7
  obtain ⟨c7, hc7⟩ : ∃ c, c = gNew c6 (0, 8) := ⟨_, rfl⟩
  have l7 : c7.length = cs.length + 1 + 1 + 1 + 1 := by rw [hc7, gNew_len, l6]
  have a7 : cs.length ≤ c7.length := by rw [hc7, gNew_len]; exact Nat.le_trans a6 (Nat.le_succ _)
  have b7 : cs.length + 1 + 1 + 1 < c7.length := by rw [l7]; exact Nat.lt_succ_self _
  have D7 : Desc E7 c7 := by rw [hE7, hc7]; exact D6.new (0, 8)
  have Z7 : Zs cs.length M (cs.length + 1 + 1 + 1 + 1) M7 := by rw [hM7]; exact Z6.new
  refine ok_nbx fun E8 hE8 => ?_
  obtain ⟨c8, hc8⟩ : ∃ c, c = gRef c7 p0 5 (cs.length + 1 + 1 + 1) := ⟨_, rfl⟩
  have l8 : c8.length = cs.length + 1 + 1 + 1 + 1 := by rw [hc8, gRef_len, l7]
  have a8 : cs.length ≤ c8.length := by rw [hc8, gRef_len]; exact a7
  have D8 : Desc E8 c8 := by rw [hE8, hn7, hc8]; exact D7.ref (Nat.lt_of_lt_of_le hp0 a7) b7
  have Z8 := Z7
  refine ok_nbx fun n9 hn9 => ok_nbx fun E9 hE9 => ok_nbx fun M9 hM9 => ?_
  have en9 : nE E8 = cs.length + 1 + 1 + 1 + 1 := D8.1.trans l8
  rw [en9] at hn9 hM9
  obtain ⟨c9, hc9⟩ : ∃ c, c = gNew c8 (1, 8) := ⟨_, rfl⟩
  have l9 : c9.length = cs.length + 1 + 1 + 1 + 1 + 1 := by rw [hc9, gNew_len, l8]
  have a9 : cs.length ≤ c9.length := by rw [hc9, gNew_len]; exact Nat.le_trans a8 (Nat.le_succ _)
  have b9 : cs.length + 1 + 1 + 1 + 1 < c9.length := by rw [l9]; exact Nat.lt_succ_self _
  have D9 : Desc E9 c9 := by rw [hE9, hc9]; exact D8.new (1, 8)
  have Z9 : Zs cs.length M (cs.length + 1 + 1 + 1 + 1 + 1) M9 := by rw [hM9]; exact Z8.new
  refine ok_nbx fun E10 hE10 => ?_
  obtain ⟨c10, hc10⟩ : ∃ c, c = gRef c9 p0 6 (cs.length + 1 + 1 + 1 + 1) := ⟨_, rfl⟩
  have l10 : c10.length = cs.length + 1 + 1 + 1 + 1 + 1 := by rw [hc10, gRef_len, l9]
  have a10 : cs.length ≤ c10.length := by rw [hc10, gRef_len]; exact a9
  have D10 : Desc E10 c10 := by rw [hE10, hn9, hc10]; exact D9.ref (Nat.lt_of_lt_of_le hp0 a9) b9
  have Z10 := Z9
  refine ok_nbx fun n11 hn11 => ok_nbx fun E11 hE11 => ok_nbx fun M11 hM11 => ?_
  have en11 : nE E10 = cs.length + 1 + 1 + 1 + 1 + 1 := D10.1.trans l10
  rw [en11] at hn11 hM11
  obtain ⟨c11, hc11⟩ : ∃ c, c = gNew c10 (0, 61) := ⟨_, rfl⟩
  have l11 : c11.length = cs.length + 1 + 1 + 1 + 1 + 1 + 1 := by rw [hc11, gNew_len, l10]
  have a11 : cs.length ≤ c11.length := by rw [hc11, gNew_len]; exact Nat.le_trans a10 (Nat.le_succ _)
  have b11 : cs.length + 1 + 1 + 1 + 1 + 1 < c11.length := by rw [l11]; exact Nat.lt_succ_self _
  have D11 : Desc E11 c11 := by rw [hE11, hc11]; exact D10.new (0, 61)
  have Z11 : Zs cs.length M (cs.length + 1 + 1 + 1 + 1 + 1 + 1) M11 := by rw [hM11]; exact Z10.new
  refine ok_nbx fun E12 hE12 => ?_
  obtain ⟨c12, hc12⟩ : ∃ c, c = gRef c11 p0 7 (cs.length + 1 + 1 + 1 + 1 + 1) := ⟨_, rfl⟩
  have l12 : c12.length = cs.length + 1 + 1 + 1 + 1 + 1 + 1 := by rw [hc12, gRef_len, l11]
  have a12 : cs.length ≤ c12.length := by rw [hc12, gRef_len]; exact a11
  have D12 : Desc E12 c12 := by rw [hE12, hn11, hc12]; exact D11.ref (Nat.lt_of_lt_of_le hp0 a11) b11
  have Z12 := Z11
  have e : g_Di_init cs p0 = c12 := by unfold g_Di_init; rw [← hc1, ← hc2, ← hc3, ← hc4, ← hc5, ← hc6, ← hc7, ← hc8, ← hc9, ← hc10, ← hc11, ← hc12]
  rw [e]
  exact ok_some ⟨D12, Z12⟩
def g_Ks_init (cs : Gc) (p0 : Nat) : Gc := gRef (gNew (gRef (gNew (gRef (gNew (gRef (gNew (cs) (0, 60)) p0 3 (cs.length)) (0, 8)) p0 4 (cs.length + 1)) (0, 8)) p0 5 (cs.length + 1 + 1)) (0, 8)) p0 6 (cs.length + 1 + 1 + 1)
theorem g_Ks_init_len (cs : Gc) (p0 : Nat) : (g_Ks_init cs p0).length = cs.length + 4 := by simp only [g_Ks_init, gNew_len, gRef_len, gGrid_len]
set_option maxHeartbeats 2000000 in
theorem d_Ks_init {E : Ev} {M : Mm} {cs : Gc} {p0 : Nat} (hD : Desc E cs) (hp0 : p0 < cs.length) (tp0 : gT' cs p0 = (106, 0)) : Ok (f_Ks_init E M p0) (fun r => Desc r.1 (g_Ks_init cs p0) ∧ Zs cs.length M (cs.length + 4) r.2) := by
  unfold f_Ks_init
  refine ok_ck (hD.obj hp0 tp0) ?_
  have D0 := hD
  have Z0 : Zs cs.length M cs.length M := Zs.refl _ _
  have l0 : cs.length = cs.length := rfl
  have a0 : cs.length ≤ cs.length := Nat.le_refl _
  refine ok_nbx fun n1 hn1 => ok_nbx fun E1 hE1 => ok_nbx fun M1 hM1 => ?_
  have en1 : nE E = cs.length := D0.1.trans l0
  rw [en1] at hn1 hM1
  obtain ⟨c1, hc1⟩ : ∃ c, c = gNew cs (0, 60) := ⟨_, rfl⟩
  have l1 : c1.length = cs.length + 1 := by rw [hc1, gNew_len, l0]
  have a1 : cs.length ≤ c1.length := by rw [hc1, gNew_len]; exact Nat.le_trans a0 (Nat.le_succ _)
  have b1 : cs.length < c1.length := by rw [l1]; exact Nat.lt_succ_self _
  have D1 : Desc E1 c1 := by rw [hE1, hc1]; exact D0.new (0, 60)
  have Z1 : Zs cs.length M (cs.length + 1) M1 := by rw [hM1]; exact Z0.new
  refine ok_nbx fun E2 hE2 => ?_
  obtain ⟨c2, hc2⟩ : ∃ c, c = gRef c1 p0 3 (cs.length) := ⟨_, rfl⟩
  have l2 : c2.length = cs.length + 1 := by rw [hc2, gRef_len, l1]
  have a2 : cs.length ≤ c2.length := by rw [hc2, gRef_len]; exact a1
  have D2 : Desc E2 c2 := by rw [hE2, hn1, hc2]; exact D1.ref (Nat.lt_of_lt_of_le hp0 a1) b1
  have Z2 := Z1
  refine ok_nbx fun n3 hn3 => ok_nbx fun E3 hE3 => ok_nbx fun M3 hM3 => ?_
  have en3 : nE E2 = cs.length + 1 := D2.1.trans l2
  rw [en3] at hn3 hM3
  obtain ⟨c3, hc3⟩ : ∃ c, c = gNew c2 (0, 8) := ⟨_, rfl⟩
  have l3 : c3.length = cs.length + 1 + 1 := by rw [hc3, gNew_len, l2]
  have a3 : cs.length ≤ c3.length := by rw [hc3, gNew_len]; exact Nat.le_trans a2 (Nat.le_succ _)
  have b3 : cs.length + 1 < c3.length := by rw [l3]; exact Nat.lt_succ_self _
  have D3 : Desc E3 c3 := by rw [hE3, hc3]; exact D2.new (0, 8)
  have Z3 : Zs cs.length M (cs.length + 1 + 1) M3 := by rw [hM3]; exact Z2.new
  refine ok_nbx fun E4 hE4 => ?_
  obtain ⟨c4, hc4⟩ : ∃ c, c = gRef c3 p0 4 (cs.length + 1) := ⟨_, rfl⟩
  have l4 : c4.length = cs.length + 1 + 1 := by rw [hc4, gRef_len, l3]
  have a4 : cs.length ≤ c4.length := by rw [hc4, gRef_len]; exact a3
  have D4 : Desc E4 c4 := by rw [hE4, hn3, hc4]; exact D3.ref (Nat.lt_of_lt_of_le hp0 a3) b3
  have Z4 := Z3
  refine ok_nbx fun n5 hn5 => ok_nbx fun E5 hE5 => ok_nbx fun M5 hM5 => ?_
  have en5 : nE E4 = cs.length + 1 + 1 := D4.1.trans l4
  rw [en5] at hn5 hM5
  obtain ⟨c5, hc5⟩ : ∃ c, c = gNew c4 (0, 8) := ⟨_, rfl⟩
  have l5 : c5.length = cs.length + 1 + 1 + 1 := by rw [hc5, gNew_len, l4]
  have a5 : cs.length ≤ c5.length := by rw [hc5, gNew_len]; exact Nat.le_trans a4 (Nat.le_succ _)
  have b5 : cs.length + 1 + 1 < c5.length := by rw [l5]; exact Nat.lt_succ_self _
  have D5 : Desc E5 c5 := by rw [hE5, hc5]; exact D4.new (0, 8)
  have Z5 : Zs cs.length M (cs.length + 1 + 1 + 1) M5 := by rw [hM5]; exact Z4.new
  refine ok_nbx fun E6 hE6 => ?_
  obtain ⟨c6, hc6⟩ : ∃ c, c = gRef c5 p0 5 (cs.length + 1 + 1) := ⟨_, rfl⟩
  have l6 : c6.length = cs.length + 1 + 1 + 1 := by rw [hc6, gRef_len, l5]
  have a6 : cs.length ≤ c6.length := by rw [hc6, gRef_len]; exact a5
  have D6 : Desc E6 c6 := by rw [hE6, hn5, hc6]; exact D5.ref (Nat.lt_of_lt_of_le hp0 a5) b5
  have Z6 := Z5
  refine ok_nbx fun n7 hn7 => ok_nbx fun E7 hE7 => ok_nbx fun M7 hM7 => ?_
  have en7 : nE E6 = cs.length + 1 + 1 + 1 := D6.1.trans l6
  rw [en7] at hn7 hM7
  obtain ⟨c7, hc7⟩ : ∃ c, c = gNew c6 (0, 8) := ⟨_, rfl⟩
  have l7 : c7.length = cs.length + 1 + 1 + 1 + 1 := by rw [hc7, gNew_len, l6]
  have a7 : cs.length ≤ c7.length := by rw [hc7, gNew_len]; exact Nat.le_trans a6 (Nat.le_succ _)
  have b7 : cs.length + 1 + 1 + 1 < c7.length := by rw [l7]; exact Nat.lt_succ_self _
  have D7 : Desc E7 c7 := by rw [hE7, hc7]; exact D6.new (0, 8)
  have Z7 : Zs cs.length M (cs.length + 1 + 1 + 1 + 1) M7 := by rw [hM7]; exact Z6.new
  refine ok_nbx fun E8 hE8 => ?_
  obtain ⟨c8, hc8⟩ : ∃ c, c = gRef c7 p0 6 (cs.length + 1 + 1 + 1) := ⟨_, rfl⟩
  have l8 : c8.length = cs.length + 1 + 1 + 1 + 1 := by rw [hc8, gRef_len, l7]
  have a8 : cs.length ≤ c8.length := by rw [hc8, gRef_len]; exact a7
  have D8 : Desc E8 c8 := by rw [hE8, hn7, hc8]; exact D7.ref (Nat.lt_of_lt_of_le hp0 a7) b7
  have Z8 := Z7
  have e : g_Ks_init cs p0 = c8 := by unfold g_Ks_init; rw [← hc1, ← hc2, ← hc3, ← hc4, ← hc5, ← hc6, ← hc7, ← hc8]
  rw [e]
  exact ok_some ⟨D8, Z8⟩
def g_Wa_init (cs : Gc) (p0 : Nat) : Gc := gRef (gNew (gRef (gGrid (gRef (gGrid (gRef (gNew (cs) (0, 16)) p0 1 (cs.length)) 2 16) p0 2 (cs.length + 1)) 17 16) p0 3 (cs.length + 1 + 1 + 2)) (0, 16)) p0 4 (cs.length + 1 + 1 + 2 + 1 + 17)
theorem g_Wa_init_len (cs : Gc) (p0 : Nat) : (g_Wa_init cs p0).length = cs.length + 23 := by simp only [g_Wa_init, gNew_len, gRef_len, gGrid_len]
set_option maxHeartbeats 2000000 in
theorem d_Wa_init {E : Ev} {M : Mm} {cs : Gc} {p0 : Nat} (hD : Desc E cs) (hp0 : p0 < cs.length) (tp0 : gT' cs p0 = (110, 0)) : Ok (f_Wa_init E M p0) (fun r => Desc r.1 (g_Wa_init cs p0) ∧ Zs cs.length M (cs.length + 23) r.2) := by
  unfold f_Wa_init
  refine ok_ck (hD.obj hp0 tp0) ?_
  have D0 := hD
  have Z0 : Zs cs.length M cs.length M := Zs.refl _ _
  have l0 : cs.length = cs.length := rfl
  have a0 : cs.length ≤ cs.length := Nat.le_refl _
  refine ok_nbx fun n1 hn1 => ok_nbx fun E1 hE1 => ok_nbx fun M1 hM1 => ?_
  have en1 : nE E = cs.length := D0.1.trans l0
  rw [en1] at hn1 hM1
  obtain ⟨c1, hc1⟩ : ∃ c, c = gNew cs (0, 16) := ⟨_, rfl⟩
  have l1 : c1.length = cs.length + 1 := by rw [hc1, gNew_len, l0]
  have a1 : cs.length ≤ c1.length := by rw [hc1, gNew_len]; exact Nat.le_trans a0 (Nat.le_succ _)
  have b1 : cs.length < c1.length := by rw [l1]; exact Nat.lt_succ_self _
  have D1 : Desc E1 c1 := by rw [hE1, hc1]; exact D0.new (0, 16)
  have Z1 : Zs cs.length M (cs.length + 1) M1 := by rw [hM1]; exact Z0.new
  refine ok_nbx fun E2 hE2 => ?_
  obtain ⟨c2, hc2⟩ : ∃ c, c = gRef c1 p0 1 (cs.length) := ⟨_, rfl⟩
  have l2 : c2.length = cs.length + 1 := by rw [hc2, gRef_len, l1]
  have a2 : cs.length ≤ c2.length := by rw [hc2, gRef_len]; exact a1
  have D2 : Desc E2 c2 := by rw [hE2, hn1, hc2]; exact D1.ref (Nat.lt_of_lt_of_le hp0 a1) b1
  have Z2 := Z1
  refine ok_nbx fun n3 hn3 => ok_nbx fun E3 hE3 => ok_nbx fun M3 hM3 => ?_
  have en3 : nE E2 = cs.length + 1 := D2.1.trans l2
  rw [en3] at hn3 hM3
  obtain ⟨c3, hc3⟩ : ∃ c, c = gGrid c2 2 16 := ⟨_, rfl⟩
  have l3 : c3.length = cs.length + 1 + 1 + 2 := by rw [hc3, gGrid_len, l2]
  have a3 : cs.length ≤ c3.length := by rw [hc3, gGrid_len]; exact Nat.le_trans a2 (Nat.le_trans (Nat.le_succ _) (Nat.le_add_right _ _))
  have b3 : cs.length + 1 < c3.length := by rw [l3]; exact Nat.lt_of_lt_of_le (Nat.lt_succ_self _) (Nat.le_add_right _ _)
  have D3 : Desc E3 c3 := by rw [hE3, hc3]; exact D2.grid 2 16
  have Z3 : Zs cs.length M (cs.length + 1 + 1 + 2) M3 := by rw [hM3]; exact Z2.grid
  refine ok_nbx fun E4 hE4 => ?_
  obtain ⟨c4, hc4⟩ : ∃ c, c = gRef c3 p0 2 (cs.length + 1) := ⟨_, rfl⟩
  have l4 : c4.length = cs.length + 1 + 1 + 2 := by rw [hc4, gRef_len, l3]
  have a4 : cs.length ≤ c4.length := by rw [hc4, gRef_len]; exact a3
  have D4 : Desc E4 c4 := by rw [hE4, hn3, hc4]; exact D3.ref (Nat.lt_of_lt_of_le hp0 a3) b3
  have Z4 := Z3
  refine ok_nbx fun n5 hn5 => ok_nbx fun E5 hE5 => ok_nbx fun M5 hM5 => ?_
  have en5 : nE E4 = cs.length + 1 + 1 + 2 := D4.1.trans l4
  rw [en5] at hn5 hM5
  obtain ⟨c5, hc5⟩ : ∃ c, c = gGrid c4 17 16 := ⟨_, rfl⟩
  have l5 : c5.length = cs.length + 1 + 1 + 2 + 1 + 17 := by rw [hc5, gGrid_len, l4]
  have a5 : cs.length ≤ c5.length := by rw [hc5, gGrid_len]; exact Nat.le_trans a4 (Nat.le_trans (Nat.le_succ _) (Nat.le_add_right _ _))
  have b5 : cs.length + 1 + 1 + 2 < c5.length := by rw [l5]; exact Nat.lt_of_lt_of_le (Nat.lt_succ_self _) (Nat.le_add_right _ _)
  have D5 : Desc E5 c5 := by rw [hE5, hc5]; exact D4.grid 17 16
  have Z5 : Zs cs.length M (cs.length + 1 + 1 + 2 + 1 + 17) M5 := by rw [hM5]; exact Z4.grid
  refine ok_nbx fun E6 hE6 => ?_
  obtain ⟨c6, hc6⟩ : ∃ c, c = gRef c5 p0 3 (cs.length + 1 + 1 + 2) := ⟨_, rfl⟩
  have l6 : c6.length = cs.length + 1 + 1 + 2 + 1 + 17 := by rw [hc6, gRef_len, l5]
  have a6 : cs.length ≤ c6.length := by rw [hc6, gRef_len]; exact a5
  have D6 : Desc E6 c6 := by rw [hE6, hn5, hc6]; exact D5.ref (Nat.lt_of_lt_of_le hp0 a5) b5
  have Z6 := Z5
  refine ok_nbx fun n7 hn7 => ok_nbx fun E7 hE7 => ok_nbx fun M7 hM7 => ?_
  have en7 : nE E6 = cs.length + 1 + 1 + 2 + 1 + 17 := D6.1.trans l6
  rw [en7] at hn7 hM7
  obtain ⟨c7, hc7⟩ : ∃ c, c = gNew c6 (0, 16) := ⟨_, rfl⟩
  have l7 : c7.length = cs.length + 1 + 1 + 2 + 1 + 17 + 1 := by rw [hc7, gNew_len, l6]
  have a7 : cs.length ≤ c7.length := by rw [hc7, gNew_len]; exact Nat.le_trans a6 (Nat.le_succ _)
  have b7 : cs.length + 1 + 1 + 2 + 1 + 17 < c7.length := by rw [l7]; exact Nat.lt_succ_self _
  have D7 : Desc E7 c7 := by rw [hE7, hc7]; exact D6.new (0, 16)
  have Z7 : Zs cs.length M (cs.length + 1 + 1 + 2 + 1 + 17 + 1) M7 := by rw [hM7]; exact Z6.new
  refine ok_nbx fun E8 hE8 => ?_
  obtain ⟨c8, hc8⟩ : ∃ c, c = gRef c7 p0 4 (cs.length + 1 + 1 + 2 + 1 + 17) := ⟨_, rfl⟩
  have l8 : c8.length = cs.length + 1 + 1 + 2 + 1 + 17 + 1 := by rw [hc8, gRef_len, l7]
  have a8 : cs.length ≤ c8.length := by rw [hc8, gRef_len]; exact a7
  have D8 : Desc E8 c8 := by rw [hE8, hn7, hc8]; exact D7.ref (Nat.lt_of_lt_of_le hp0 a7) b7
  have Z8 := Z7
  have e : g_Wa_init cs p0 = c8 := by unfold g_Wa_init; rw [← hc1, ← hc2, ← hc3, ← hc4, ← hc5, ← hc6, ← hc7, ← hc8]
  rw [e]
  exact ok_some ⟨D8, Z8⟩
def g_Cl_init (cs : Gc) (p0 : Nat) : Gc := gRef (gNew (gRef (gNew (cs) (0, 12)) p0 2 (cs.length)) (0, 4096)) p0 3 (cs.length + 1)
theorem g_Cl_init_len (cs : Gc) (p0 : Nat) : (g_Cl_init cs p0).length = cs.length + 2 := by simp only [g_Cl_init, gNew_len, gRef_len, gGrid_len]
set_option maxHeartbeats 2000000 in
theorem d_Cl_init {E : Ev} {M : Mm} {cs : Gc} {p0 : Nat} (hD : Desc E cs) (hp0 : p0 < cs.length) (tp0 : gT' cs p0 = (101, 0)) : Ok (f_Cl_init E M p0) (fun r => Desc r.1 (g_Cl_init cs p0) ∧ Zs cs.length (u2 M p0 1 1) (cs.length + 2) r.2) := by
  unfold f_Cl_init
  refine ok_ck (hD.obj hp0 tp0) ?_
  have D0 := hD
  have Z0 : Zs cs.length (u2 M p0 1 1) cs.length (u2 M p0 1 1) := Zs.refl _ _
  have l0 : cs.length = cs.length := rfl
  have a0 : cs.length ≤ cs.length := Nat.le_refl _
  refine ok_nbx fun n1 hn1 => ok_nbx fun E1 hE1 => ok_nbx fun M1 hM1 => ?_
  have en1 : nE E = cs.length := D0.1.trans l0
  rw [en1] at hn1 hM1
  obtain ⟨c1, hc1⟩ : ∃ c, c = gNew cs (0, 12) := ⟨_, rfl⟩
  have l1 : c1.length = cs.length + 1 := by rw [hc1, gNew_len, l0]
  have a1 : cs.length ≤ c1.length := by rw [hc1, gNew_len]; exact Nat.le_trans a0 (Nat.le_succ _)
  have b1 : cs.length < c1.length := by rw [l1]; exact Nat.lt_succ_self _
  have D1 : Desc E1 c1 := by rw [hE1, hc1]; exact D0.new (0, 12)
  have Z1 : Zs cs.length (u2 M p0 1 1) (cs.length + 1) M1 := by rw [hM1]; exact Z0.new
  refine ok_nbx fun E2 hE2 => ?_
  obtain ⟨c2, hc2⟩ : ∃ c, c = gRef c1 p0 2 (cs.length) := ⟨_, rfl⟩
  have l2 : c2.length = cs.length + 1 := by rw [hc2, gRef_len, l1]
  have a2 : cs.length ≤ c2.length := by rw [hc2, gRef_len]; exact a1
  have D2 : Desc E2 c2 := by rw [hE2, hn1, hc2]; exact D1.ref (Nat.lt_of_lt_of_le hp0 a1) b1
  have Z2 := Z1
  refine ok_nbx fun n3 hn3 => ok_nbx fun E3 hE3 => ok_nbx fun M3 hM3 => ?_
  have en3 : nE E2 = cs.length + 1 := D2.1.trans l2
  rw [en3] at hn3 hM3
  obtain ⟨c3, hc3⟩ : ∃ c, c = gNew c2 (0, 4096) := ⟨_, rfl⟩
  have l3 : c3.length = cs.length + 1 + 1 := by rw [hc3, gNew_len, l2]
  have a3 : cs.length ≤ c3.length := by rw [hc3, gNew_len]; exact Nat.le_trans a2 (Nat.le_succ _)
  have b3 : cs.length + 1 < c3.length := by rw [l3]; exact Nat.lt_succ_self _
  have D3 : Desc E3 c3 := by rw [hE3, hc3]; exact D2.new (0, 4096)
  have Z3 : Zs cs.length (u2 M p0 1 1) (cs.length + 1 + 1) M3 := by rw [hM3]; exact Z2.new
  refine ok_nbx fun E4 hE4 => ?_
  obtain ⟨c4, hc4⟩ : ∃ c, c = gRef c3 p0 3 (cs.length + 1) := ⟨_, rfl⟩
  have l4 : c4.length = cs.length + 1 + 1 := by rw [hc4, gRef_len, l3]
  have a4 : cs.length ≤ c4.length := by rw [hc4, gRef_len]; exact a3
  have D4 : Desc E4 c4 := by rw [hE4, hn3, hc4]; exact D3.ref (Nat.lt_of_lt_of_le hp0 a3) b3
  have Z4 := Z3
  have e : g_Cl_init cs p0 = c4 := by unfold g_Cl_init; rw [← hc1, ← hc2, ← hc3, ← hc4]
  rw [e]
  exact ok_some ⟨D4, Z4⟩
def g_Ct_init (cs : Gc) (p0 : Nat) : Gc := gRef (gNew (gRef (gNew (gRef (gNew (gRef (gNew (cs) (0, 30)) p0 6 (cs.length)) (0, 3)) p0 7 (cs.length + 1)) (0, 8)) p0 8 (cs.length + 1 + 1)) (0, 1170)) p0 9 (cs.length + 1 + 1 + 1)
theorem g_Ct_init_len (cs : Gc) (p0 : Nat) : (g_Ct_init cs p0).length = cs.length + 4 := by simp only [g_Ct_init, gNew_len, gRef_len, gGrid_len]
set_option maxHeartbeats 2000000 in
theorem d_Ct_init {E : Ev} {M : Mm} {cs : Gc} {p0 : Nat} (hD : Desc E cs) (hp0 : p0 < cs.length) (tp0 : gT' cs p0 = (102, 0)) : Ok (f_Ct_init E M p0) (fun r => Desc r.1 (g_Ct_init cs p0) ∧ Zs cs.length M (cs.length + 4) r.2) := by
  unfold f_Ct_init
  refine ok_ck (hD.obj hp0 tp0) ?_
  have D0 := hD
  have Z0 : Zs cs.length M cs.length M := Zs.refl _ _
  have l0 : cs.length = cs.length := rfl
  have a0 : cs.length ≤ cs.length := Nat.le_refl _
  refine ok_nbx fun n1 hn1 => ok_nbx fun E1 hE1 => ok_nbx fun M1 hM1 => ?_
  have en1 : nE E = cs.length := D0.1.trans l0
  rw [en1] at hn1 hM1
  obtain ⟨c1, hc1⟩ : ∃ c, c = gNew cs (0, 30) := ⟨_, rfl⟩
  have l1 : c1.length = cs.length + 1 := by rw [hc1, gNew_len, l0]
  have a1 : cs.length ≤ c1.length := by rw [hc1, gNew_len]; exact Nat.le_trans a0 (Nat.le_succ _)
  have b1 : cs.length < c1.length := by rw [l1]; exact Nat.lt_succ_self _
  have D1 : Desc E1 c1 := by rw [hE1, hc1]; exact D0.new (0, 30)
  have Z1 : Zs cs.length M (cs.length + 1) M1 := by rw [hM1]; exact Z0.new
  refine ok_nbx fun E2 hE2 => ?_
  obtain ⟨c2, hc2⟩ : ∃ c, c = gRef c1 p0 6 (cs.length) := ⟨_, rfl⟩
  have l2 : c2.length = cs.length + 1 := by rw [hc2, gRef_len, l1]
  have a2 : cs.length ≤ c2.length := by rw [hc2, gRef_len]; exact a1
  have D2 : Desc E2 c2 := by rw [hE2, hn1, hc2]; exact D1.ref (Nat.lt_of_lt_of_le hp0 a1) b1
  have Z2 := Z1
  refine ok_nbx fun n3 hn3 => ok_nbx fun E3 hE3 => ok_nbx fun M3 hM3 => ?_
  have en3 : nE E2 = cs.length + 1 := D2.1.trans l2
  rw [en3] at hn3 hM3
  obtain ⟨c3, hc3⟩ : ∃ c, c = gNew c2 (0, 3) := ⟨_, rfl⟩
  have l3 : c3.length = cs.length + 1 + 1 := by rw [hc3, gNew_len, l2]
  have a3 : cs.length ≤ c3.length := by rw [hc3, gNew_len]; exact Nat.le_trans a2 (Nat.le_succ _)
  have b3 : cs.length + 1 < c3.length := by rw [l3]; exact Nat.lt_succ_self _
  have D3 : Desc E3 c3 := by rw [hE3, hc3]; exact D2.new (0, 3)
  have Z3 : Zs cs.length M (cs.length + 1 + 1) M3 := by rw [hM3]; exact Z2.new
  refine ok_nbx fun E4 hE4 => ?_
  obtain ⟨c4, hc4⟩ : ∃ c, c = gRef c3 p0 7 (cs.length + 1) := ⟨_, rfl⟩
  have l4 : c4.length = cs.length + 1 + 1 := by rw [hc4, gRef_len, l3]
  have a4 : cs.length ≤ c4.length := by rw [hc4, gRef_len]; exact a3
  have D4 : Desc E4 c4 := by rw [hE4, hn3, hc4]; exact D3.ref (Nat.lt_of_lt_of_le hp0 a3) b3
  have Z4 := Z3
  refine ok_nbx fun n5 hn5 => ok_nbx fun E5 hE5 => ok_nbx fun M5 hM5 => ?_
  have en5 : nE E4 = cs.length + 1 + 1 := D4.1.trans l4
  rw [en5] at hn5 hM5
  obtain ⟨c5, hc5⟩ : ∃ c, c = gNew c4 (0, 8) := ⟨_, rfl⟩
  have l5 : c5.length = cs.length + 1 + 1 + 1 := by rw [hc5, gNew_len, l4]
  have a5 : cs.length ≤ c5.length := by rw [hc5, gNew_len]; exact Nat.le_trans a4 (Nat.le_succ _)
  have b5 : cs.length + 1 + 1 < c5.length := by rw [l5]; exact Nat.lt_succ_self _
  have D5 : Desc E5 c5 := by rw [hE5, hc5]; exact D4.new (0, 8)
  have Z5 : Zs cs.length M (cs.length + 1 + 1 + 1) M5 := by rw [hM5]; exact Z4.new
  refine ok_nbx fun E6 hE6 => ?_
  obtain ⟨c6, hc6⟩ : ∃ c, c = gRef c5 p0 8 (cs.length + 1 + 1) := ⟨_, rfl⟩
  have l6 : c6.length = cs.length + 1 + 1 + 1 := by rw [hc6, gRef_len, l5]
  have a6 : cs.length ≤ c6.length := by rw [hc6, gRef_len]; exact a5
  have D6 : Desc E6 c6 := by rw [hE6, hn5, hc6]; exact D5.ref (Nat.lt_of_lt_of_le hp0 a5) b5
  have Z6 := Z5
  refine ok_nbx fun n7 hn7 => ok_nbx fun E7 hE7 => ok_nbx fun M7 hM7 => ?_
  have en7 : nE E6 = cs.length + 1 + 1 + 1 := D6.1.trans l6
  rw [en7] at hn7 hM7
  obtain ⟨c7, hc7⟩ : ∃ c, c = gNew c6 (0, 1170) := ⟨_, rfl⟩
  have l7 : c7.length = cs.length + 1 + 1 + 1 + 1 := by rw [hc7, gNew_len, l6]
  have a7 : cs.length ≤ c7.length := by rw [hc7, gNew_len]; exact Nat.le_trans a6 (Nat.le_succ _)
  have b7 : cs.length + 1 + 1 + 1 < c7.length := by rw [l7]; exact Nat.lt_succ_self _
  have D7 : Desc E7 c7 := by rw [hE7, hc7]; exact D6.new (0, 1170)
  have Z7 : Zs cs.length M (cs.length + 1 + 1 + 1 + 1) M7 := by rw [hM7]; exact Z6.new
  refine ok_nbx fun E8 hE8 => ?_
  obtain ⟨c8, hc8⟩ : ∃ c, c = gRef c7 p0 9 (cs.length + 1 + 1 + 1) := ⟨_, rfl⟩
  have l8 : c8.length = cs.length + 1 + 1 + 1 + 1 := by rw [hc8, gRef_len, l7]
  have a8 : cs.length ≤ c8.length := by rw [hc8, gRef_len]; exact a7
  have D8 : Desc E8 c8 := by rw [hE8, hn7, hc8]; exact D7.ref (Nat.lt_of_lt_of_le hp0 a7) b7
  have Z8 := Z7
  have e : g_Ct_init cs p0 = c8 := by unfold g_Ct_init; rw [← hc1, ← hc2, ← hc3, ← hc4, ← hc5, ← hc6, ← hc7, ← hc8]
  rw [e]
  exact ok_some ⟨D8, Z8⟩
