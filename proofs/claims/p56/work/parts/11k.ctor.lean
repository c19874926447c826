/-! THE CONSTRUCTOR OF THE CLASS, AT ITS OWN NUMBERS -/
theorem all_lt {n : Nat} {f : Nat → Bool} (h : (List.range n).all f = true) {i : Nat} (hi : i < n) : f i = true := List.all_eq_true.mp h i (List.mem_range.mpr hi)
def okT (cs ds : Gc) : Bool := ((ds.map Prod.fst).take cs.length == cs.map Prod.fst) && Nat.ble cs.length ds.length
theorem Desc.gw2 {E F : Ev} {cs ds : Gc} (h : Desc E cs) (g : Desc F ds) (hp : okT cs ds = true) : Gw E F := by
  unfold okT at hp
  rw [Bool.and_eq_true] at hp
  exact h.gw g hp.1 (Nat.le_of_ble_eq_true hp.2)
theorem Desc.rd {E : Ev} {cs : Gc} (h : Desc E cs) {i k j : Nat} (hi : (Nat.ble (i + 1) cs.length && (gR' cs i k == some j)) = true) : rE E i k = some j := by
  rw [Bool.and_eq_true] at hi
  exact ((h.2 i (Nat.le_of_ble_eq_true hi.1)).2 k).trans (by simpa using hi.2)
theorem Desc.ob {E : Ev} {cs : Gc} (h : Desc E cs) {ci p : Nat} (hi : (Nat.ble (p + 1) cs.length && (gT' cs p == (100 + ci, 0))) = true) : isO ci E p := by
  rw [Bool.and_eq_true] at hi
  exact h.obj (Nat.le_of_ble_eq_true hi.1) (by simpa using hi.2)
theorem lt_b {n m : Nat} (h : Nat.ble (n + 1) m = true) : n < m := Nat.le_of_ble_eq_true h
theorem eq_b {a b : Dd} (h : (a == b) = true) : a = b := by simpa using h
theorem Zs.len {n n1 n2 : Nat} {M N : Mm} (h : Zs n M n1 N) (e : n1 = n2) : Zs n M n2 N := e ▸ h
def kc0 : Gc := [((0, 1), []), ((111, 0), [])]
def kc1 : Gc := gNew kc0 (100, 0)
def kc2 : Gc := g_Bx_init kc1 2
def kc3 : Gc := gRef kc2 1 0 2
def kc4 : Gc := gNew kc3 (109, 0)
def kc6 : Gc := g_Po_init kc4 41 2
def kc7 : Gc := gRef kc6 1 1 41
def kc8 : Gc := gNew kc7 (105, 0)
def kc11 : Gc := g_Fb_init kc8 51 2 41
def kc12 : Gc := gRef kc11 1 2 51
def kc13 : Gc := gNew kc12 (107, 0)
def kc15 : Gc := gNew kc13 (0, 8)
def kc16 : Gc := gRef kc15 53 1 54
def kc17 : Gc := gNew kc16 (0, 8)
def kc18 : Gc := gRef kc17 53 2 55
def kc19 : Gc := gNew kc18 (0, 8)
def kc20 : Gc := gRef kc19 53 3 56
def kc21 : Gc := gNew kc20 (104, 0)
def kc22 : Gc := g_Di_init kc21 57
def kc23 : Gc := gRef kc22 53 4 57
def kc24 : Gc := gNew kc23 (104, 0)
def kc25 : Gc := g_Di_init kc24 64
def kc26 : Gc := gRef kc25 53 5 64
def kc27 : Gc := gNew kc26 (0, 8)
def kc28 : Gc := gRef kc27 53 7 71
def kc29 : Gc := gNew kc28 (0, 8)
def kc30 : Gc := gRef kc29 53 8 72
def kc31 : Gc := gNew kc30 (3, 21)
def kc32 : Gc := gRef kc31 53 9 73
def gl_Li_init : Nat → Gc
  | 0 => kc32
  | j + 1 => gRef (g_Ks_init (gNew (gl_Li_init j) (106, 0)) (gl_Li_init j).length) 73 j (gl_Li_init j).length
def cl_Li_init (j : Nat) : Bool := ((gl_Li_init j).length == 74 + 5 * j) && (gT' (gl_Li_init j) 53 == (107, 0)) && (gR' (gl_Li_init j) 53 9 == some 73) && (gT' (gl_Li_init j) 73 == (3, 21)) && (gT' (gNew (gl_Li_init j) (106, 0)) (gl_Li_init j).length == (106, 0)) && okT (gNew (gl_Li_init j) (106, 0)) (g_Ks_init (gNew (gl_Li_init j) (106, 0)) (gl_Li_init j).length) && (gT' (g_Ks_init (gNew (gl_Li_init j) (106, 0)) (gl_Li_init j).length) 73 == (3, 21)) && okT kc32 (gl_Li_init j)
set_option maxRecDepth 100000 in
theorem cl_Li_init_ok : (List.range 22).all cl_Li_init = true := by decide +kernel
theorem cl_Li_init_at {j : Nat} (hj : j < 22) : (gl_Li_init j).length = 74 + 5 * j ∧ gT' (gl_Li_init j) 53 = (107, 0) ∧ gR' (gl_Li_init j) 53 9 = some 73 ∧ gT' (gl_Li_init j) 73 = (3, 21) ∧ gT' (gNew (gl_Li_init j) (106, 0)) (gl_Li_init j).length = (106, 0) ∧ okT (gNew (gl_Li_init j) (106, 0)) (g_Ks_init (gNew (gl_Li_init j) (106, 0)) (gl_Li_init j).length) = true ∧ gT' (g_Ks_init (gNew (gl_Li_init j) (106, 0)) (gl_Li_init j).length) 73 = (3, 21) ∧ okT kc32 (gl_Li_init j) = true := by
  have h := all_lt cl_Li_init_ok hj
  unfold cl_Li_init at h
  simp only [Bool.and_eq_true, beq_iff_eq] at h
  obtain ⟨⟨⟨⟨⟨⟨⟨a, b⟩, c⟩, d⟩, e⟩, f⟩, g⟩, i⟩ := h
  exact ⟨a, b, c, d, e, f, g, i⟩
def kc33 : Gc := gRef (gl_Li_init 21) 1 3 53
def kc34 : Gc := gNew kc33 (103, 0)
def kc37 : Gc := gNew kc34 (4, 21)
def kc38 : Gc := gRef kc37 179 1 180
def kc39 : Gc := gNew kc38 (5, 240)
def kc40 : Gc := gRef kc39 179 4 181
def kc41 : Gc := gNew kc40 (5, 9)
def kc42 : Gc := gRef kc41 179 5 182
def kc43 : Gc := gNew kc42 (108, 0)
def kc44 : Gc := g_Na_init kc43 183
def kc45 : Gc := gRef kc44 179 6 183
def kc46 : Gc := gNew kc45 (108, 0)
def kc47 : Gc := g_Na_init kc46 185
def kc48 : Gc := gRef kc47 179 7 185
def kc49 : Gc := gNew kc48 (108, 0)
def kc50 : Gc := g_Na_init kc49 187
def kc51 : Gc := gRef kc50 179 8 187
def kc52 : Gc := gNew kc51 (108, 0)
def kc53 : Gc := g_Na_init kc52 189
def kc54 : Gc := gRef kc53 179 9 189
def kc55 : Gc := gNew kc54 (108, 0)
def kc56 : Gc := g_Na_init kc55 191
def kc57 : Gc := gRef kc56 179 10 191
def kc58 : Gc := gNew kc57 (108, 0)
def kc59 : Gc := g_Na_init kc58 193
def kc60 : Gc := gRef kc59 179 11 193
def kc61 : Gc := gNew kc60 (108, 0)
def kc62 : Gc := g_Na_init kc61 195
def kc63 : Gc := gRef kc62 179 12 195
def kc64 : Gc := gNew kc63 (108, 0)
def kc65 : Gc := g_Na_init kc64 197
def kc66 : Gc := gRef kc65 179 13 197
def kc67 : Gc := gNew kc66 (108, 0)
def kc68 : Gc := g_Na_init kc67 199
def kc69 : Gc := gRef kc68 179 14 199
def kc70 : Gc := gRef kc69 179 0 2
def gl_Co_init : Nat → Gc
  | 0 => kc70
  | j + 1 => gRef (g_Na_init (gNew (gl_Co_init j) (108, 0)) (gl_Co_init j).length) 182 j (gl_Co_init j).length
def cl_Co_init (j : Nat) : Bool := ((gl_Co_init j).length == 201 + 2 * j) && (gT' (gl_Co_init j) 179 == (103, 0)) && (gR' (gl_Co_init j) 179 5 == some 182) && (gT' (gl_Co_init j) 182 == (5, 9)) && (gT' (gNew (gl_Co_init j) (108, 0)) (gl_Co_init j).length == (108, 0)) && okT (gNew (gl_Co_init j) (108, 0)) (g_Na_init (gNew (gl_Co_init j) (108, 0)) (gl_Co_init j).length) && (gT' (g_Na_init (gNew (gl_Co_init j) (108, 0)) (gl_Co_init j).length) 182 == (5, 9)) && okT kc70 (gl_Co_init j)
set_option maxRecDepth 100000 in
theorem cl_Co_init_ok : (List.range 10).all cl_Co_init = true := by decide +kernel
theorem cl_Co_init_at {j : Nat} (hj : j < 10) : (gl_Co_init j).length = 201 + 2 * j ∧ gT' (gl_Co_init j) 179 = (103, 0) ∧ gR' (gl_Co_init j) 179 5 = some 182 ∧ gT' (gl_Co_init j) 182 = (5, 9) ∧ gT' (gNew (gl_Co_init j) (108, 0)) (gl_Co_init j).length = (108, 0) ∧ okT (gNew (gl_Co_init j) (108, 0)) (g_Na_init (gNew (gl_Co_init j) (108, 0)) (gl_Co_init j).length) = true ∧ gT' (g_Na_init (gNew (gl_Co_init j) (108, 0)) (gl_Co_init j).length) 182 = (5, 9) ∧ okT kc70 (gl_Co_init j) = true := by
  have h := all_lt cl_Co_init_ok hj
  unfold cl_Co_init at h
  simp only [Bool.and_eq_true, beq_iff_eq] at h
  obtain ⟨⟨⟨⟨⟨⟨⟨a, b⟩, c⟩, d⟩, e⟩, f⟩, g⟩, i⟩ := h
  exact ⟨a, b, c, d, e, f, g, i⟩
def kc71 : Gc := gRef (gl_Co_init 9) 1 4 179
def kc72 : Gc := gNew kc71 (110, 0)
def kc73 : Gc := g_Wa_init kc72 219
def kc74 : Gc := gRef kc73 1 5 219
def kc75 : Gc := gNew kc74 (101, 0)
def kc76 : Gc := g_Cl_init kc75 243
def kc77 : Gc := gRef kc76 1 6 243
def kc78 : Gc := gNew kc77 (0, 20)
def kc79 : Gc := gRef kc78 1 7 246
def kc80 : Gc := gNew kc79 (0, 20)
def kc81 : Gc := gRef kc80 1 8 247
def kc82 : Gc := gNew kc81 (0, 20)
def kc83 : Gc := gRef kc82 1 9 248
def kc84 : Gc := gNew kc83 (0, 240)
def kc85 : Gc := gRef kc84 1 12 249
set_option maxHeartbeats 4000000 in
set_option maxRecDepth 100000 in
theorem d_Li_init {E : Ev} {M0 : Mm} (D0 : Desc E kc13) : Ok (f_Li_init E M0 53) (fun r => Desc r.1 (gl_Li_init 21) ∧ Zs 54 M0 179 r.2) := by
  unfold f_Li_init
  have Z0 : Zs 54 M0 54 M0 := Zs.refl _ _
  refine ok_ck (D0.ob (ci := 7) (p := 53) (by decide +kernel)) ?_
  refine ok_nbx fun n15 hn15 => ok_nbx fun E15 hE15 => ok_nbx fun M15 hM15 => ?_
  have en15 : nE E = 54 := D0.1.trans (by decide +kernel)
  rw [en15] at hn15 hM15
  subst hn15
  have D15 : Desc E15 kc15 := by rw [hE15]; exact D0.new _
  have Z15 : Zs 54 M0 55 M15 := by rw [hM15]; exact Z0.new
  refine ok_nbx fun E16 hE16 => ?_
  have D16 : Desc E16 kc16 := by rw [hE16]; exact D15.ref (lt_b (by decide +kernel)) (lt_b (by decide +kernel))
  refine ok_nbx fun n17 hn17 => ok_nbx fun E17 hE17 => ok_nbx fun M17 hM17 => ?_
  have en17 : nE E16 = 55 := D16.1.trans (by decide +kernel)
  rw [en17] at hn17 hM17
  subst hn17
  have D17 : Desc E17 kc17 := by rw [hE17]; exact D16.new _
  have Z17 : Zs 54 M0 56 M17 := by rw [hM17]; exact Z15.new
  refine ok_nbx fun E18 hE18 => ?_
  have D18 : Desc E18 kc18 := by rw [hE18]; exact D17.ref (lt_b (by decide +kernel)) (lt_b (by decide +kernel))
  refine ok_nbx fun n19 hn19 => ok_nbx fun E19 hE19 => ok_nbx fun M19 hM19 => ?_
  have en19 : nE E18 = 56 := D18.1.trans (by decide +kernel)
  rw [en19] at hn19 hM19
  subst hn19
  have D19 : Desc E19 kc19 := by rw [hE19]; exact D18.new _
  have Z19 : Zs 54 M0 57 M19 := by rw [hM19]; exact Z17.new
  refine ok_nbx fun E20 hE20 => ?_
  have D20 : Desc E20 kc20 := by rw [hE20]; exact D19.ref (lt_b (by decide +kernel)) (lt_b (by decide +kernel))
  refine ok_nbx fun n21 hn21 => ok_nbx fun E21 hE21 => ok_nbx fun M21 hM21 => ?_
  have en21 : nE E20 = 57 := D20.1.trans (by decide +kernel)
  rw [en21] at hn21 hM21
  subst hn21
  have D21 : Desc E21 kc21 := by rw [hE21]; exact D20.new _
  have Z21 : Zs 54 M0 58 M21 := by rw [hM21]; exact Z19.new
  refine ok_bm (d_Di_init D21 (lt_b (by decide +kernel)) (eq_b (by decide +kernel))) fun r22 hr22 => ?_
  obtain ⟨E22, M22⟩ := r22
  obtain ⟨D22, Y22⟩ := hr22
  have D22 : Desc E22 kc22 := D22
  have Z22 : Zs 54 M0 64 M22 := Z21.trans ((show kc21.length = 58 by decide +kernel) ▸ Y22.len (show kc21.length + 6 = 64 by decide +kernel))
  refine ok_ck (D21.gw2 D22 (by decide +kernel)) ?_
  refine ok_nbx fun E23 hE23 => ?_
  have D23 : Desc E23 kc23 := by rw [hE23]; exact D22.ref (lt_b (by decide +kernel)) (lt_b (by decide +kernel))
  refine ok_nbx fun n24 hn24 => ok_nbx fun E24 hE24 => ok_nbx fun M24 hM24 => ?_
  have en24 : nE E23 = 64 := D23.1.trans (by decide +kernel)
  rw [en24] at hn24 hM24
  subst hn24
  have D24 : Desc E24 kc24 := by rw [hE24]; exact D23.new _
  have Z24 : Zs 54 M0 65 M24 := by rw [hM24]; exact Z22.new
  refine ok_bm (d_Di_init D24 (lt_b (by decide +kernel)) (eq_b (by decide +kernel))) fun r25 hr25 => ?_
  obtain ⟨E25, M25⟩ := r25
  obtain ⟨D25, Y25⟩ := hr25
  have D25 : Desc E25 kc25 := D25
  have Z25 : Zs 54 M0 71 M25 := Z24.trans ((show kc24.length = 65 by decide +kernel) ▸ Y25.len (show kc24.length + 6 = 71 by decide +kernel))
  refine ok_ck (D24.gw2 D25 (by decide +kernel)) ?_
  refine ok_nbx fun E26 hE26 => ?_
  have D26 : Desc E26 kc26 := by rw [hE26]; exact D25.ref (lt_b (by decide +kernel)) (lt_b (by decide +kernel))
  refine ok_nbx fun n27 hn27 => ok_nbx fun E27 hE27 => ok_nbx fun M27 hM27 => ?_
  have en27 : nE E26 = 71 := D26.1.trans (by decide +kernel)
  rw [en27] at hn27 hM27
  subst hn27
  have D27 : Desc E27 kc27 := by rw [hE27]; exact D26.new _
  have Z27 : Zs 54 M0 72 M27 := by rw [hM27]; exact Z25.new
  refine ok_nbx fun E28 hE28 => ?_
  have D28 : Desc E28 kc28 := by rw [hE28]; exact D27.ref (lt_b (by decide +kernel)) (lt_b (by decide +kernel))
  refine ok_nbx fun n29 hn29 => ok_nbx fun E29 hE29 => ok_nbx fun M29 hM29 => ?_
  have en29 : nE E28 = 72 := D28.1.trans (by decide +kernel)
  rw [en29] at hn29 hM29
  subst hn29
  have D29 : Desc E29 kc29 := by rw [hE29]; exact D28.new _
  have Z29 : Zs 54 M0 73 M29 := by rw [hM29]; exact Z27.new
  refine ok_nbx fun E30 hE30 => ?_
  have D30 : Desc E30 kc30 := by rw [hE30]; exact D29.ref (lt_b (by decide +kernel)) (lt_b (by decide +kernel))
  refine ok_nbx fun n31 hn31 => ok_nbx fun E31 hE31 => ok_nbx fun M31 hM31 => ?_
  have en31 : nE E30 = 73 := D30.1.trans (by decide +kernel)
  rw [en31] at hn31 hM31
  subst hn31
  have D31 : Desc E31 kc31 := by rw [hE31]; exact D30.new _
  have Z31 : Zs 54 M0 74 M31 := by rw [hM31]; exact Z29.new
  refine ok_nbx fun E32 hE32 => ?_
  have D32 : Desc E32 kc32 := by rw [hE32]; exact D31.ref (lt_b (by decide +kernel)) (lt_b (by decide +kernel))
  refine ok_bm (L_Li_init_77 53 (I := fun E M i => ∃ j : Nat, i = (j : Int) ∧ j ≤ 21 ∧ Desc E (gl_Li_init j) ∧ Zs 54 M0 (74 + 5 * j) M) (μ := fun _ _ i => 22 - i.toNat) (Q := fun r => r.1 = 1 ∧ Desc r.2.2.1 (gl_Li_init 21) ∧ Zs 54 M0 (74 + 5 * 21) r.2.2.2) ?_ 32 E32 M31 0 ⟨0, rfl, Nat.zero_le _, D32, Z31⟩ (by show 22 - _ < 32; decide)) ?_
  · rintro E M i ⟨j, rfl, hj, hD, hZ⟩
    obtain ⟨a1, a2, a3, a4, a5, a6, a7, a8⟩ := cl_Li_init_at (show j < 22 by omega)
    have h0 : 53 < (gl_Li_init j).length := by rw [a1]; omega
    have hA : 73 < (gl_Li_init j).length := by rw [a1]; omega
    unfold Li_init_77b
    refine ok_ck (hD.obj h0 a2) (ok_ck (rgI_nat (by omega)) (ok_if (fun c => ?_) (fun c => ?_)))
    · have e : j = 21 := by omega
      subst e
      exact ok_some (ok_out (by show (1 : Nat) ≠ 0; decide) ⟨rfl, hD, hZ⟩)
    · rw [(hD.2 53 h0).2 9, a3]
      refine ok_sb (ok_ck ⟨by rw [hD.1]; exact hA, by rw [(hD.2 73 hA).1, a4]⟩ (ok_nbx fun n1 hn1 => ok_nbx fun E1 hE1 => ok_nbx fun M1 hM1 => ?_))
      have en1 : nE E = (gl_Li_init j).length := hD.1
      rw [en1] at hn1 hM1
      have D1 : Desc E1 (gNew (gl_Li_init j) (106, 0)) := by rw [hE1]; exact hD.new _
      have Z1 : Zs 54 M0 (74 + 5 * j + 1) M1 := by rw [hM1, a1]; exact hZ.new
      have l1 : (gNew (gl_Li_init j) (106, 0)).length = 74 + 5 * j + 1 := by rw [gNew_len, a1]
      rw [hn1]
      refine ok_bm (d_Ks_init D1 (by rw [l1, a1]; exact Nat.lt_succ_self _) a5) fun r hr => ?_
      obtain ⟨E2, M2⟩ := r
      obtain ⟨D2, Z2⟩ := hr
      have D2 : Desc E2 (g_Ks_init (gNew (gl_Li_init j) (106, 0)) (gl_Li_init j).length) := D2
      have l2 : (g_Ks_init (gNew (gl_Li_init j) (106, 0)) (gl_Li_init j).length).length = 74 + 5 * j + 1 + 4 := by rw [g_Ks_init_len, l1]
      refine ok_ck (D1.gw2 D2 a6) (ok_ck ⟨by omega, ?_, by omega⟩ (ok_nbx fun E3 hE3 => ok_some (ok_go rfl ⟨⟨j + 1, by show (j : Int) + 1 = _; omega, by omega, ?_, ?_⟩, by show 22 - ((j : Int) + 1).toNat < 22 - (j : Int).toNat; omega⟩)))
      · rw [(D2.2 73 (by rw [l2]; omega)).1, a7]
        show (j : Int) < (21 : Int)
        omega
      · show Desc E3 (gRef (g_Ks_init (gNew (gl_Li_init j) (106, 0)) (gl_Li_init j).length) 73 j (gl_Li_init j).length)
        rw [hE3, Int.toNat_natCast]
        exact D2.ref (by rw [l2]; omega) (by rw [l2, a1]; omega)
      · show Zs 54 M0 (74 + 5 * (j + 1)) M2
        have Z2 : Zs (gNew (gl_Li_init j) (106, 0)).length M1 ((gNew (gl_Li_init j) (106, 0)).length + 4) M2 := Z2
        rw [l1] at Z2
        exact (Z1.trans Z2).len (by omega)
  · rintro ⟨t, i, E9, M9⟩ ⟨h0, D9, Z9⟩
    have D9 : Desc E9 (gl_Li_init 21) := D9
    refine ok_ck (D32.gw2 D9 (cl_Li_init_at (show 21 < 22 by decide)).2.2.2.2.2.2.2) (ok_ck h0 (ok_some ⟨D9, Z9.len (by decide)⟩))
set_option maxHeartbeats 4000000 in
set_option maxRecDepth 100000 in
theorem d_Co_init {E : Ev} {M0 : Mm} (D0 : Desc E kc34) : Ok (f_Co_init E M0 179 2) (fun r => Desc r.1 (gl_Co_init 9) ∧ Zs 180 M0 219 r.2) := by
  unfold f_Co_init
  have Z0 : Zs 180 M0 180 M0 := Zs.refl _ _
  refine ok_ck (D0.ob (ci := 3) (p := 179) (by decide +kernel)) ?_
  refine ok_ck (D0.ob (ci := 0) (p := 2) (by decide +kernel)) ?_
  refine ok_nbx fun n37 hn37 => ok_nbx fun E37 hE37 => ok_nbx fun M37 hM37 => ?_
  have en37 : nE E = 180 := D0.1.trans (by decide +kernel)
  rw [en37] at hn37 hM37
  subst hn37
  have D37 : Desc E37 kc37 := by rw [hE37]; exact D0.new _
  have Z37 : Zs 180 M0 181 M37 := by rw [hM37]; exact Z0.new
  refine ok_nbx fun E38 hE38 => ?_
  have D38 : Desc E38 kc38 := by rw [hE38]; exact D37.ref (lt_b (by decide +kernel)) (lt_b (by decide +kernel))
  refine ok_nbx fun n39 hn39 => ok_nbx fun E39 hE39 => ok_nbx fun M39 hM39 => ?_
  have en39 : nE E38 = 181 := D38.1.trans (by decide +kernel)
  rw [en39] at hn39 hM39
  subst hn39
  have D39 : Desc E39 kc39 := by rw [hE39]; exact D38.new _
  have Z39 : Zs 180 M0 182 M39 := by rw [hM39]; exact Z37.new
  refine ok_nbx fun E40 hE40 => ?_
  have D40 : Desc E40 kc40 := by rw [hE40]; exact D39.ref (lt_b (by decide +kernel)) (lt_b (by decide +kernel))
  refine ok_nbx fun n41 hn41 => ok_nbx fun E41 hE41 => ok_nbx fun M41 hM41 => ?_
  have en41 : nE E40 = 182 := D40.1.trans (by decide +kernel)
  rw [en41] at hn41 hM41
  subst hn41
  have D41 : Desc E41 kc41 := by rw [hE41]; exact D40.new _
  have Z41 : Zs 180 M0 183 M41 := by rw [hM41]; exact Z39.new
  refine ok_nbx fun E42 hE42 => ?_
  have D42 : Desc E42 kc42 := by rw [hE42]; exact D41.ref (lt_b (by decide +kernel)) (lt_b (by decide +kernel))
  refine ok_nbx fun n43 hn43 => ok_nbx fun E43 hE43 => ok_nbx fun M43 hM43 => ?_
  have en43 : nE E42 = 183 := D42.1.trans (by decide +kernel)
  rw [en43] at hn43 hM43
  subst hn43
  have D43 : Desc E43 kc43 := by rw [hE43]; exact D42.new _
  have Z43 : Zs 180 M0 184 M43 := by rw [hM43]; exact Z41.new
  refine ok_bm (d_Na_init D43 (lt_b (by decide +kernel)) (eq_b (by decide +kernel))) fun r44 hr44 => ?_
  obtain ⟨E44, M44⟩ := r44
  obtain ⟨D44, Y44⟩ := hr44
  have D44 : Desc E44 kc44 := D44
  have Z44 : Zs 180 M0 185 M44 := Z43.trans ((show kc43.length = 184 by decide +kernel) ▸ Y44.len (show kc43.length + 1 = 185 by decide +kernel))
  refine ok_ck (D43.gw2 D44 (by decide +kernel)) ?_
  refine ok_nbx fun E45 hE45 => ?_
  have D45 : Desc E45 kc45 := by rw [hE45]; exact D44.ref (lt_b (by decide +kernel)) (lt_b (by decide +kernel))
  refine ok_nbx fun n46 hn46 => ok_nbx fun E46 hE46 => ok_nbx fun M46 hM46 => ?_
  have en46 : nE E45 = 185 := D45.1.trans (by decide +kernel)
  rw [en46] at hn46 hM46
  subst hn46
  have D46 : Desc E46 kc46 := by rw [hE46]; exact D45.new _
  have Z46 : Zs 180 M0 186 M46 := by rw [hM46]; exact Z44.new
  refine ok_bm (d_Na_init D46 (lt_b (by decide +kernel)) (eq_b (by decide +kernel))) fun r47 hr47 => ?_
  obtain ⟨E47, M47⟩ := r47
  obtain ⟨D47, Y47⟩ := hr47
  have D47 : Desc E47 kc47 := D47
  have Z47 : Zs 180 M0 187 M47 := Z46.trans ((show kc46.length = 186 by decide +kernel) ▸ Y47.len (show kc46.length + 1 = 187 by decide +kernel))
  refine ok_ck (D46.gw2 D47 (by decide +kernel)) ?_
  refine ok_nbx fun E48 hE48 => ?_
  have D48 : Desc E48 kc48 := by rw [hE48]; exact D47.ref (lt_b (by decide +kernel)) (lt_b (by decide +kernel))
  refine ok_nbx fun n49 hn49 => ok_nbx fun E49 hE49 => ok_nbx fun M49 hM49 => ?_
  have en49 : nE E48 = 187 := D48.1.trans (by decide +kernel)
  rw [en49] at hn49 hM49
  subst hn49
  have D49 : Desc E49 kc49 := by rw [hE49]; exact D48.new _
  have Z49 : Zs 180 M0 188 M49 := by rw [hM49]; exact Z47.new
  refine ok_bm (d_Na_init D49 (lt_b (by decide +kernel)) (eq_b (by decide +kernel))) fun r50 hr50 => ?_
  obtain ⟨E50, M50⟩ := r50
  obtain ⟨D50, Y50⟩ := hr50
  have D50 : Desc E50 kc50 := D50
  have Z50 : Zs 180 M0 189 M50 := Z49.trans ((show kc49.length = 188 by decide +kernel) ▸ Y50.len (show kc49.length + 1 = 189 by decide +kernel))
  refine ok_ck (D49.gw2 D50 (by decide +kernel)) ?_
  refine ok_nbx fun E51 hE51 => ?_
  have D51 : Desc E51 kc51 := by rw [hE51]; exact D50.ref (lt_b (by decide +kernel)) (lt_b (by decide +kernel))
  refine ok_nbx fun n52 hn52 => ok_nbx fun E52 hE52 => ok_nbx fun M52 hM52 => ?_
  have en52 : nE E51 = 189 := D51.1.trans (by decide +kernel)
  rw [en52] at hn52 hM52
  subst hn52
  have D52 : Desc E52 kc52 := by rw [hE52]; exact D51.new _
  have Z52 : Zs 180 M0 190 M52 := by rw [hM52]; exact Z50.new
  refine ok_bm (d_Na_init D52 (lt_b (by decide +kernel)) (eq_b (by decide +kernel))) fun r53 hr53 => ?_
  obtain ⟨E53, M53⟩ := r53
  obtain ⟨D53, Y53⟩ := hr53
  have D53 : Desc E53 kc53 := D53
  have Z53 : Zs 180 M0 191 M53 := Z52.trans ((show kc52.length = 190 by decide +kernel) ▸ Y53.len (show kc52.length + 1 = 191 by decide +kernel))
  refine ok_ck (D52.gw2 D53 (by decide +kernel)) ?_
  refine ok_nbx fun E54 hE54 => ?_
  have D54 : Desc E54 kc54 := by rw [hE54]; exact D53.ref (lt_b (by decide +kernel)) (lt_b (by decide +kernel))
  refine ok_nbx fun n55 hn55 => ok_nbx fun E55 hE55 => ok_nbx fun M55 hM55 => ?_
  have en55 : nE E54 = 191 := D54.1.trans (by decide +kernel)
  rw [en55] at hn55 hM55
  subst hn55
  have D55 : Desc E55 kc55 := by rw [hE55]; exact D54.new _
  have Z55 : Zs 180 M0 192 M55 := by rw [hM55]; exact Z53.new
  refine ok_bm (d_Na_init D55 (lt_b (by decide +kernel)) (eq_b (by decide +kernel))) fun r56 hr56 => ?_
  obtain ⟨E56, M56⟩ := r56
  obtain ⟨D56, Y56⟩ := hr56
  have D56 : Desc E56 kc56 := D56
  have Z56 : Zs 180 M0 193 M56 := Z55.trans ((show kc55.length = 192 by decide +kernel) ▸ Y56.len (show kc55.length + 1 = 193 by decide +kernel))
  refine ok_ck (D55.gw2 D56 (by decide +kernel)) ?_
  refine ok_nbx fun E57 hE57 => ?_
  have D57 : Desc E57 kc57 := by rw [hE57]; exact D56.ref (lt_b (by decide +kernel)) (lt_b (by decide +kernel))
  refine ok_nbx fun n58 hn58 => ok_nbx fun E58 hE58 => ok_nbx fun M58 hM58 => ?_
  have en58 : nE E57 = 193 := D57.1.trans (by decide +kernel)
  rw [en58] at hn58 hM58
  subst hn58
  have D58 : Desc E58 kc58 := by rw [hE58]; exact D57.new _
  have Z58 : Zs 180 M0 194 M58 := by rw [hM58]; exact Z56.new
  refine ok_bm (d_Na_init D58 (lt_b (by decide +kernel)) (eq_b (by decide +kernel))) fun r59 hr59 => ?_
  obtain ⟨E59, M59⟩ := r59
  obtain ⟨D59, Y59⟩ := hr59
  have D59 : Desc E59 kc59 := D59
  have Z59 : Zs 180 M0 195 M59 := Z58.trans ((show kc58.length = 194 by decide +kernel) ▸ Y59.len (show kc58.length + 1 = 195 by decide +kernel))
  refine ok_ck (D58.gw2 D59 (by decide +kernel)) ?_
  refine ok_nbx fun E60 hE60 => ?_
  have D60 : Desc E60 kc60 := by rw [hE60]; exact D59.ref (lt_b (by decide +kernel)) (lt_b (by decide +kernel))
  refine ok_nbx fun n61 hn61 => ok_nbx fun E61 hE61 => ok_nbx fun M61 hM61 => ?_
  have en61 : nE E60 = 195 := D60.1.trans (by decide +kernel)
  rw [en61] at hn61 hM61
  subst hn61
  have D61 : Desc E61 kc61 := by rw [hE61]; exact D60.new _
  have Z61 : Zs 180 M0 196 M61 := by rw [hM61]; exact Z59.new
  refine ok_bm (d_Na_init D61 (lt_b (by decide +kernel)) (eq_b (by decide +kernel))) fun r62 hr62 => ?_
  obtain ⟨E62, M62⟩ := r62
  obtain ⟨D62, Y62⟩ := hr62
  have D62 : Desc E62 kc62 := D62
  have Z62 : Zs 180 M0 197 M62 := Z61.trans ((show kc61.length = 196 by decide +kernel) ▸ Y62.len (show kc61.length + 1 = 197 by decide +kernel))
  refine ok_ck (D61.gw2 D62 (by decide +kernel)) ?_
  refine ok_nbx fun E63 hE63 => ?_
  have D63 : Desc E63 kc63 := by rw [hE63]; exact D62.ref (lt_b (by decide +kernel)) (lt_b (by decide +kernel))
  refine ok_nbx fun n64 hn64 => ok_nbx fun E64 hE64 => ok_nbx fun M64 hM64 => ?_
  have en64 : nE E63 = 197 := D63.1.trans (by decide +kernel)
  rw [en64] at hn64 hM64
  subst hn64
  have D64 : Desc E64 kc64 := by rw [hE64]; exact D63.new _
  have Z64 : Zs 180 M0 198 M64 := by rw [hM64]; exact Z62.new
  refine ok_bm (d_Na_init D64 (lt_b (by decide +kernel)) (eq_b (by decide +kernel))) fun r65 hr65 => ?_
  obtain ⟨E65, M65⟩ := r65
  obtain ⟨D65, Y65⟩ := hr65
  have D65 : Desc E65 kc65 := D65
  have Z65 : Zs 180 M0 199 M65 := Z64.trans ((show kc64.length = 198 by decide +kernel) ▸ Y65.len (show kc64.length + 1 = 199 by decide +kernel))
  refine ok_ck (D64.gw2 D65 (by decide +kernel)) ?_
  refine ok_nbx fun E66 hE66 => ?_
  have D66 : Desc E66 kc66 := by rw [hE66]; exact D65.ref (lt_b (by decide +kernel)) (lt_b (by decide +kernel))
  refine ok_nbx fun n67 hn67 => ok_nbx fun E67 hE67 => ok_nbx fun M67 hM67 => ?_
  have en67 : nE E66 = 199 := D66.1.trans (by decide +kernel)
  rw [en67] at hn67 hM67
  subst hn67
  have D67 : Desc E67 kc67 := by rw [hE67]; exact D66.new _
  have Z67 : Zs 180 M0 200 M67 := by rw [hM67]; exact Z65.new
  refine ok_bm (d_Na_init D67 (lt_b (by decide +kernel)) (eq_b (by decide +kernel))) fun r68 hr68 => ?_
  obtain ⟨E68, M68⟩ := r68
  obtain ⟨D68, Y68⟩ := hr68
  have D68 : Desc E68 kc68 := D68
  have Z68 : Zs 180 M0 201 M68 := Z67.trans ((show kc67.length = 200 by decide +kernel) ▸ Y68.len (show kc67.length + 1 = 201 by decide +kernel))
  refine ok_ck (D67.gw2 D68 (by decide +kernel)) ?_
  refine ok_nbx fun E69 hE69 => ?_
  have D69 : Desc E69 kc69 := by rw [hE69]; exact D68.ref (lt_b (by decide +kernel)) (lt_b (by decide +kernel))
  refine ok_nbx fun E70 hE70 => ?_
  have D70 : Desc E70 kc70 := by rw [hE70]; exact D69.ref (lt_b (by decide +kernel)) (lt_b (by decide +kernel))
  refine ok_bm (L_Co_init_138 179 (I := fun E M i => ∃ j : Nat, i = (j : Int) ∧ j ≤ 9 ∧ Desc E (gl_Co_init j) ∧ Zs 180 M0 (201 + 2 * j) M) (μ := fun _ _ i => 10 - i.toNat) (Q := fun r => r.1 = 1 ∧ Desc r.2.2.1 (gl_Co_init 9) ∧ Zs 180 M0 (201 + 2 * 9) r.2.2.2) ?_ 32 E70 M68 0 ⟨0, rfl, Nat.zero_le _, D70, Z68⟩ (by show 10 - _ < 32; decide)) ?_
  · rintro E M i ⟨j, rfl, hj, hD, hZ⟩
    obtain ⟨a1, a2, a3, a4, a5, a6, a7, a8⟩ := cl_Co_init_at (show j < 10 by omega)
    have h0 : 179 < (gl_Co_init j).length := by rw [a1]; omega
    have hA : 182 < (gl_Co_init j).length := by rw [a1]; omega
    unfold Co_init_138b
    refine ok_ck (hD.obj h0 a2) (ok_ck (rgI_nat (by omega)) (ok_if (fun c => ?_) (fun c => ?_)))
    · have e : j = 9 := by omega
      subst e
      exact ok_some (ok_out (by show (1 : Nat) ≠ 0; decide) ⟨rfl, hD, hZ⟩)
    · rw [(hD.2 179 h0).2 5, a3]
      refine ok_sb (ok_ck ⟨by rw [hD.1]; exact hA, by rw [(hD.2 182 hA).1, a4]⟩ (ok_nbx fun n1 hn1 => ok_nbx fun E1 hE1 => ok_nbx fun M1 hM1 => ?_))
      have en1 : nE E = (gl_Co_init j).length := hD.1
      rw [en1] at hn1 hM1
      have D1 : Desc E1 (gNew (gl_Co_init j) (108, 0)) := by rw [hE1]; exact hD.new _
      have Z1 : Zs 180 M0 (201 + 2 * j + 1) M1 := by rw [hM1, a1]; exact hZ.new
      have l1 : (gNew (gl_Co_init j) (108, 0)).length = 201 + 2 * j + 1 := by rw [gNew_len, a1]
      rw [hn1]
      refine ok_bm (d_Na_init D1 (by rw [l1, a1]; exact Nat.lt_succ_self _) a5) fun r hr => ?_
      obtain ⟨E2, M2⟩ := r
      obtain ⟨D2, Z2⟩ := hr
      have D2 : Desc E2 (g_Na_init (gNew (gl_Co_init j) (108, 0)) (gl_Co_init j).length) := D2
      have l2 : (g_Na_init (gNew (gl_Co_init j) (108, 0)) (gl_Co_init j).length).length = 201 + 2 * j + 1 + 1 := by rw [g_Na_init_len, l1]
      refine ok_ck (D1.gw2 D2 a6) (ok_ck ⟨by omega, ?_, by omega⟩ (ok_nbx fun E3 hE3 => ok_some (ok_go rfl ⟨⟨j + 1, by show (j : Int) + 1 = _; omega, by omega, ?_, ?_⟩, by show 10 - ((j : Int) + 1).toNat < 10 - (j : Int).toNat; omega⟩)))
      · rw [(D2.2 182 (by rw [l2]; omega)).1, a7]
        show (j : Int) < (9 : Int)
        omega
      · show Desc E3 (gRef (g_Na_init (gNew (gl_Co_init j) (108, 0)) (gl_Co_init j).length) 182 j (gl_Co_init j).length)
        rw [hE3, Int.toNat_natCast]
        exact D2.ref (by rw [l2]; omega) (by rw [l2, a1]; omega)
      · show Zs 180 M0 (201 + 2 * (j + 1)) M2
        have Z2 : Zs (gNew (gl_Co_init j) (108, 0)).length M1 ((gNew (gl_Co_init j) (108, 0)).length + 1) M2 := Z2
        rw [l1] at Z2
        exact (Z1.trans Z2).len (by omega)
  · rintro ⟨t, i, E9, M9⟩ ⟨h0, D9, Z9⟩
    have D9 : Desc E9 (gl_Co_init 9) := D9
    refine ok_ck (D70.gw2 D9 (cl_Co_init_at (show 9 < 10 by decide)).2.2.2.2.2.2.2) (ok_ck h0 (ok_some ⟨D9, Z9.len (by decide)⟩))
set_option maxHeartbeats 4000000 in
set_option maxRecDepth 100000 in
theorem ctor_ok {E : Ev} {M : Mm} (D0 : Desc E kc0) (hMz : M 1 = fun _ => 0) : Ok (f_B_init E M 1) (fun r => Desc r.1 kc85 ∧ r.2 0 = M 0 ∧ (∀ i, 0 < i → i < 250 → i ≠ 243 → r.2 i = fun _ => 0) ∧ r.2 243 = va_up (fun _ => 0) 1 1) := by
  unfold f_B_init
  have Z0 : Zs 2 M 2 M := Zs.refl _ _
  refine ok_ck (D0.ob (ci := 11) (p := 1) (by decide +kernel)) ?_
  refine ok_nbx fun n1 hn1 => ok_nbx fun E1 hE1 => ok_nbx fun M1 hM1 => ?_
  have en1 : nE E = 2 := D0.1.trans (by decide +kernel)
  rw [en1] at hn1 hM1
  subst hn1
  have D1 : Desc E1 kc1 := by rw [hE1]; exact D0.new _
  have Z1 : Zs 2 M 3 M1 := by rw [hM1]; exact Z0.new
  refine ok_bm (d_Bx_init D1 (lt_b (by decide +kernel)) (eq_b (by decide +kernel))) fun r2 hr2 => ?_
  obtain ⟨E2, M2⟩ := r2
  obtain ⟨D2, Y2⟩ := hr2
  have D2 : Desc E2 kc2 := D2
  have Z2 : Zs 2 M 41 M2 := Z1.trans ((show kc1.length = 3 by decide +kernel) ▸ Y2.len (show kc1.length + 38 = 41 by decide +kernel))
  refine ok_ck (D1.gw2 D2 (by decide +kernel)) ?_
  refine ok_nbx fun E3 hE3 => ?_
  have D3 : Desc E3 kc3 := by rw [hE3]; exact D2.ref (lt_b (by decide +kernel)) (lt_b (by decide +kernel))
  refine ok_nbx fun n4 hn4 => ok_nbx fun E4 hE4 => ok_nbx fun M4 hM4 => ?_
  have en4 : nE E3 = 41 := D3.1.trans (by decide +kernel)
  rw [en4] at hn4 hM4
  subst hn4
  have D4 : Desc E4 kc4 := by rw [hE4]; exact D3.new _
  have Z4 : Zs 2 M 42 M4 := by rw [hM4]; exact Z2.new
  have R5 : rE E4 1 0 = some 2 := D4.rd (by decide +kernel)
  rw [R5]
  refine ok_sb ?_
  refine ok_ck (D4.ob (ci := 0) (p := 2) (by decide +kernel)) ?_
  refine ok_bm (d_Po_init D4 (lt_b (by decide +kernel)) (eq_b (by decide +kernel)) (lt_b (by decide +kernel)) (eq_b (by decide +kernel))) fun r6 hr6 => ?_
  obtain ⟨E6, M6⟩ := r6
  obtain ⟨D6, Y6⟩ := hr6
  have D6 : Desc E6 kc6 := D6
  have Z6 : Zs 2 M 51 M6 := Z4.trans ((show kc4.length = 42 by decide +kernel) ▸ Y6.len (show kc4.length + 9 = 51 by decide +kernel))
  refine ok_ck (D4.gw2 D6 (by decide +kernel)) ?_
  refine ok_nbx fun E7 hE7 => ?_
  have D7 : Desc E7 kc7 := by rw [hE7]; exact D6.ref (lt_b (by decide +kernel)) (lt_b (by decide +kernel))
  refine ok_nbx fun n8 hn8 => ok_nbx fun E8 hE8 => ok_nbx fun M8 hM8 => ?_
  have en8 : nE E7 = 51 := D7.1.trans (by decide +kernel)
  rw [en8] at hn8 hM8
  subst hn8
  have D8 : Desc E8 kc8 := by rw [hE8]; exact D7.new _
  have Z8 : Zs 2 M 52 M8 := by rw [hM8]; exact Z6.new
  have R9 : rE E8 1 0 = some 2 := D8.rd (by decide +kernel)
  rw [R9]
  refine ok_sb ?_
  refine ok_ck (D8.ob (ci := 0) (p := 2) (by decide +kernel)) ?_
  have R10 : rE E8 1 1 = some 41 := D8.rd (by decide +kernel)
  rw [R10]
  refine ok_sb ?_
  refine ok_ck (D8.ob (ci := 9) (p := 41) (by decide +kernel)) ?_
  refine ok_bm (d_Fb_init D8 (lt_b (by decide +kernel)) (eq_b (by decide +kernel)) (lt_b (by decide +kernel)) (eq_b (by decide +kernel)) (lt_b (by decide +kernel)) (eq_b (by decide +kernel))) fun r11 hr11 => ?_
  obtain ⟨E11, M11⟩ := r11
  obtain ⟨D11, Y11⟩ := hr11
  have D11 : Desc E11 kc11 := D11
  have Z11 : Zs 2 M 53 M11 := Z8.trans ((show kc8.length = 52 by decide +kernel) ▸ Y11.len (show kc8.length + 1 = 53 by decide +kernel))
  refine ok_ck (D8.gw2 D11 (by decide +kernel)) ?_
  refine ok_nbx fun E12 hE12 => ?_
  have D12 : Desc E12 kc12 := by rw [hE12]; exact D11.ref (lt_b (by decide +kernel)) (lt_b (by decide +kernel))
  refine ok_nbx fun n13 hn13 => ok_nbx fun E13 hE13 => ok_nbx fun M13 hM13 => ?_
  have en13 : nE E12 = 53 := D12.1.trans (by decide +kernel)
  rw [en13] at hn13 hM13
  subst hn13
  have D13 : Desc E13 kc13 := by rw [hE13]; exact D12.new _
  have Z13 : Zs 2 M 54 M13 := by rw [hM13]; exact Z11.new
  refine ok_bm (d_Li_init D13) fun r14 hr14 => ?_
  obtain ⟨E14, M14⟩ := r14
  obtain ⟨D14, Y14⟩ := hr14
  have D14 : Desc E14 (gl_Li_init 21) := D14
  have Z14 : Zs 2 M 179 M14 := Z13.trans Y14
  refine ok_ck (D13.gw2 D14 (by decide +kernel)) ?_
  refine ok_nbx fun E33 hE33 => ?_
  have D33 : Desc E33 kc33 := by rw [hE33]; exact D14.ref (lt_b (by decide +kernel)) (lt_b (by decide +kernel))
  refine ok_nbx fun n34 hn34 => ok_nbx fun E34 hE34 => ok_nbx fun M34 hM34 => ?_
  have en34 : nE E33 = 179 := D33.1.trans (by decide +kernel)
  rw [en34] at hn34 hM34
  subst hn34
  have D34 : Desc E34 kc34 := by rw [hE34]; exact D33.new _
  have Z34 : Zs 2 M 180 M34 := by rw [hM34]; exact Z14.new
  have R35 : rE E34 1 0 = some 2 := D34.rd (by decide +kernel)
  rw [R35]
  refine ok_sb ?_
  refine ok_ck (D34.ob (ci := 0) (p := 2) (by decide +kernel)) ?_
  refine ok_bm (d_Co_init D34) fun r36 hr36 => ?_
  obtain ⟨E36, M36⟩ := r36
  obtain ⟨D36, Y36⟩ := hr36
  have D36 : Desc E36 (gl_Co_init 9) := D36
  have Z36 : Zs 2 M 219 M36 := Z34.trans Y36
  refine ok_ck (D34.gw2 D36 (by decide +kernel)) ?_
  refine ok_nbx fun E71 hE71 => ?_
  have D71 : Desc E71 kc71 := by rw [hE71]; exact D36.ref (lt_b (by decide +kernel)) (lt_b (by decide +kernel))
  refine ok_nbx fun n72 hn72 => ok_nbx fun E72 hE72 => ok_nbx fun M72 hM72 => ?_
  have en72 : nE E71 = 219 := D71.1.trans (by decide +kernel)
  rw [en72] at hn72 hM72
  subst hn72
  have D72 : Desc E72 kc72 := by rw [hE72]; exact D71.new _
  have Z72 : Zs 2 M 220 M72 := by rw [hM72]; exact Z36.new
  refine ok_bm (d_Wa_init D72 (lt_b (by decide +kernel)) (eq_b (by decide +kernel))) fun r73 hr73 => ?_
  obtain ⟨E73, M73⟩ := r73
  obtain ⟨D73, Y73⟩ := hr73
  have D73 : Desc E73 kc73 := D73
  have Z73 : Zs 2 M 243 M73 := Z72.trans ((show kc72.length = 220 by decide +kernel) ▸ Y73.len (show kc72.length + 23 = 243 by decide +kernel))
  refine ok_ck (D72.gw2 D73 (by decide +kernel)) ?_
  refine ok_nbx fun E74 hE74 => ?_
  have D74 : Desc E74 kc74 := by rw [hE74]; exact D73.ref (lt_b (by decide +kernel)) (lt_b (by decide +kernel))
  refine ok_nbx fun n75 hn75 => ok_nbx fun E75 hE75 => ok_nbx fun M75 hM75 => ?_
  have en75 : nE E74 = 243 := D74.1.trans (by decide +kernel)
  rw [en75] at hn75 hM75
  subst hn75
  have D75 : Desc E75 kc75 := by rw [hE75]; exact D74.new _
  have Z75 : Zs 2 M 244 M75 := by rw [hM75]; exact Z73.new
  refine ok_bm (d_Cl_init D75 (lt_b (by decide +kernel)) (eq_b (by decide +kernel))) fun r76 hr76 => ?_
  obtain ⟨E76, M76⟩ := r76
  obtain ⟨D76, Y76⟩ := hr76
  have D76 : Desc E76 kc76 := D76
  have X76 : Zs 244 (u2 M75 243 1 1) 246 M76 := (show kc75.length = 244 by decide +kernel) ▸ Y76.len (show kc75.length + 2 = 246 by decide +kernel)
  refine ok_ck (D75.gw2 D76 (by decide +kernel)) ?_
  refine ok_nbx fun E77 hE77 => ?_
  have D77 : Desc E77 kc77 := by rw [hE77]; exact D76.ref (lt_b (by decide +kernel)) (lt_b (by decide +kernel))
  refine ok_nbx fun n78 hn78 => ok_nbx fun E78 hE78 => ok_nbx fun M78 hM78 => ?_
  have en78 : nE E77 = 246 := D77.1.trans (by decide +kernel)
  rw [en78] at hn78 hM78
  subst hn78
  have D78 : Desc E78 kc78 := by rw [hE78]; exact D77.new _
  have Z78 : Zs 244 (u2 M75 243 1 1) 247 M78 := by rw [hM78]; exact X76.new
  refine ok_nbx fun E79 hE79 => ?_
  have D79 : Desc E79 kc79 := by rw [hE79]; exact D78.ref (lt_b (by decide +kernel)) (lt_b (by decide +kernel))
  refine ok_nbx fun n80 hn80 => ok_nbx fun E80 hE80 => ok_nbx fun M80 hM80 => ?_
  have en80 : nE E79 = 247 := D79.1.trans (by decide +kernel)
  rw [en80] at hn80 hM80
  subst hn80
  have D80 : Desc E80 kc80 := by rw [hE80]; exact D79.new _
  have Z80 : Zs 244 (u2 M75 243 1 1) 248 M80 := by rw [hM80]; exact Z78.new
  refine ok_nbx fun E81 hE81 => ?_
  have D81 : Desc E81 kc81 := by rw [hE81]; exact D80.ref (lt_b (by decide +kernel)) (lt_b (by decide +kernel))
  refine ok_nbx fun n82 hn82 => ok_nbx fun E82 hE82 => ok_nbx fun M82 hM82 => ?_
  have en82 : nE E81 = 248 := D81.1.trans (by decide +kernel)
  rw [en82] at hn82 hM82
  subst hn82
  have D82 : Desc E82 kc82 := by rw [hE82]; exact D81.new _
  have Z82 : Zs 244 (u2 M75 243 1 1) 249 M82 := by rw [hM82]; exact Z80.new
  refine ok_nbx fun E83 hE83 => ?_
  have D83 : Desc E83 kc83 := by rw [hE83]; exact D82.ref (lt_b (by decide +kernel)) (lt_b (by decide +kernel))
  refine ok_nbx fun n84 hn84 => ok_nbx fun E84 hE84 => ok_nbx fun M84 hM84 => ?_
  have en84 : nE E83 = 249 := D83.1.trans (by decide +kernel)
  rw [en84] at hn84 hM84
  subst hn84
  have D84 : Desc E84 kc84 := by rw [hE84]; exact D83.new _
  have Z84 : Zs 244 (u2 M75 243 1 1) 250 M84 := by rw [hM84]; exact Z82.new
  refine ok_nbx fun E85 hE85 => ?_
  have D85 : Desc E85 kc85 := by rw [hE85]; exact D84.ref (lt_b (by decide +kernel)) (lt_b (by decide +kernel))
  have g0 : ∀ i, i < 244 → M84 i = u2 M75 243 1 1 i := Z84.2.1
  have m0 : M84 0 = M 0 := (g0 0 (by decide)).trans ((u2_row (by decide)).trans (Z75.2.1 0 (by decide)))
  have m1 : ∀ i, 0 < i → i < 250 → i ≠ 243 → M84 i = fun _ => 0 := fun i h1 h2 h3 => by
    rcases Nat.lt_or_ge i 244 with g | g
    · rw [g0 i g, u2_row h3]
      rcases Nat.lt_or_ge i 2 with g2 | g2
      · have e : i = 1 := Nat.le_antisymm (Nat.le_of_lt_succ g2) h1
        rw [Z75.2.1 i g2, e]; exact hMz
      · exact Z75.2.2 i g2 g
    · exact Z84.2.2 i g h2
  have m2 : M84 243 = va_up (fun _ => 0) 1 1 := (g0 243 (by decide)).trans (by rw [u2_rowself, Z75.2.2 243 (by decide) (by decide)])
  exact ok_some ⟨D85, m0, m1, m2⟩

def cF : Bool := (List.range 250).all (fun i => (gT' kc85 i == T0 i) && ((i == 180) || (i == 181) || (List.range 32).all (fun k => gR' kc85 i k == R0 i k))) && (kc85.length == 250) && (kc85.getD 180 ((0, 0), [])).2.isEmpty && (kc85.getD 181 ((0, 0), [])).2.isEmpty
set_option maxRecDepth 100000 in
theorem cF_ok : cF = true := by decide +kernel
theorem lay_of {E : Ev} (h : Desc E kc85) : Lay E ∧ nE E = 250 ∧ (∀ k, rE E 180 k = none) ∧ ∀ k, rE E 181 k = none := by
  have h9 := cF_ok
  unfold cF at h9
  simp only [Bool.and_eq_true, beq_iff_eq, List.isEmpty_iff] at h9
  obtain ⟨⟨⟨h1, h2⟩, h3⟩, h4⟩ := h9
  have hl : ∀ i, i < 250 → i < kc85.length := fun i hi => by rw [h2]; exact hi
  refine ⟨⟨by rw [h.1, h2]; exact Nat.le_refl _, fun i hi => ?_, fun i hi h5 h6 k hk => ?_⟩, h.1.trans h2, fun k => ?_, fun k => ?_⟩
  · rw [(h.2 i (hl i hi)).1]
    have := all_lt h1 hi
    rw [Bool.and_eq_true] at this
    exact by simpa using this.1
  · rw [(h.2 i (hl i hi)).2 k]
    have := all_lt h1 hi
    rw [Bool.and_eq_true, Bool.or_eq_true, Bool.or_eq_true] at this
    rcases this.2 with (g | g) | g
    · exact absurd (by simpa using g) h5
    · exact absurd (by simpa using g) h6
    · have := all_lt g hk
      exact by simpa using this
  · rw [(h.2 180 (hl 180 (by decide))).2 k]
    unfold gR'
    rw [h3]
    rfl
  · rw [(h.2 181 (hl 181 (by decide))).2 k]
    unfold gR'
    rw [h4]
    rfl
theorem desc_one : Desc (eNew eOne (111, 0)) kc0 := by
  have h : Desc eOne [((0, 1), [])] := ⟨rfl, fun i hi => by
    have e : i = 0 := by have : i < 1 := hi; exact Nat.lt_one_iff.mp this
    subst e
    exact ⟨rfl, fun k => rfl⟩⟩
  exact h.new _
theorem desc_nil : Desc (eNew (eNew eNil (0, 1)) (111, 0)) kc0 := by
  have h : Desc eNil [] := ⟨rfl, fun i hi => absurd hi (Nat.not_lt_zero i)⟩
  exact (h.new (0, 1)).new _
