/-! THE START: what the statement gives -/
theorem kg_array {s : State} {args : Array Value} (ty : FieldType) (h : (Cond.arrayClass ty).before args s = true) (hr : ∀ q, s.vm.findClass ("[" ++ ty.toString) = some q → va_RA s q ty) : ∃ q : ClassId, ArrOfT s q ty ∧ va_RA s q ty := by
  obtain ⟨q, k, comp, h1, h2, h3⟩ := Cond.arrayClass_spec h
  exact ⟨q, fun n z => ⟨(fun k h => by cases h), k, h2, comp, h3⟩, hr q h1⟩
theorem kg_objs {s : State} {args : Array Value} (C : String) (h : (Cond.arrayOver (.object C)).before args s = true) : ∃ q : ClassId, ArrOfT s q (.object C) ∧ va_RA s q (.object C) := by
  obtain ⟨comp, q, k, h1, h2, h3, h4, h5⟩ := Cond.arrayOver_spec h
  exact ⟨q, fun n z => ⟨(fun k h => by cases h), k, h3, comp, h4⟩, k, comp, h3, h4, h1, h5⟩
theorem kg_rows {s : State} {args : Array Value} (ty : FieldType) (h : (Cond.arrayOver (.array ty)).before args s = true) : ∃ q : ClassId, ArrOfT s q (.array ty) ∧ va_RA s q (.array ty) := by
  obtain ⟨comp, q, k, h1, h2, h3, h4, h5⟩ := va_AOA.spec h
  exact ⟨q, fun n z => ⟨(fun k h => by cases h), k, h3, comp, h4⟩, h5⟩
def stm (i : Nat) : Term := Term.string "BallothallLaw" (match i with | 0 => 157 | _ => 159)
set_option maxRecDepth 100000 in
set_option maxHeartbeats 4000000 in
theorem kg_start {s : State} {args : Array Value} (hts : ∀ w ∈ lw_tbl, w.before args s = true) (hgv : (Cond.and given_1 narrow_1).before args s = true) : ∃ z : Zz, KG z s ∧ FZ z (fun q : Nat => s.heap.size ≤ q) s := by
  have hw : ∀ w ∈ WG, w.before args s = true := fun w h => hts w (List.mem_filter.mp h).1
  have hA : ∀ a : Nat, a < s.heap.size → ¬ (fun q : Nat => s.heap.size ≤ q) a := fun a h1 h2 => absurd h1 (Nat.not_lt.mpr h2)
  have hc : ∀ k : Nat, ∃ x : ClassId × (Nat → Nat), ∀ q, classes[k]? = some q → u_Kn s q.1 q.2.1 q.2.2 x.1 x.2 := by
    intro k
    match k with
    | 0 => obtain ⟨c, i, h⟩ := u_known (C := "Ballothall$BallotBox") (T := TX0) (N := 10) (n := 10) hw iX0 (hw _ w_41); exact ⟨(c, i), fun q hq => by cases hq; exact h⟩
    | 1 => obtain ⟨c, i, h⟩ := u_known (C := "Ballothall$Council") (T := TX1) (N := 4) (n := 4) hw iX1 (hw _ w_377); exact ⟨(c, i), fun q hq => by cases hq; exact h⟩
    | 2 => obtain ⟨c, i, h⟩ := u_known (C := "Ballothall$Count") (T := TX2) (N := 10) (n := 10) hw iX2 (hw _ w_613); exact ⟨(c, i), fun q hq => by cases hq; exact h⟩
    | 3 => obtain ⟨c, i, h⟩ := u_known (C := "Ballothall$Counting") (T := TX3) (N := 15) (n := 15) hw iX3 (hw _ w_280); exact ⟨(c, i), fun q hq => by cases hq; exact h⟩
    | 4 => obtain ⟨c, i, h⟩ := u_known (C := "Ballothall$Division") (T := TX4) (N := 8) (n := 8) hw iX4 (hw _ w_170); exact ⟨(c, i), fun q hq => by cases hq; exact h⟩
    | 5 => obtain ⟨c, i, h⟩ := u_known (C := "Ballothall$FalseBallot") (T := TX5) (N := 3) (n := 3) hw iX5 (hw _ w_147); exact ⟨(c, i), fun q hq => by cases hq; exact h⟩
    | 6 => obtain ⟨c, i, h⟩ := u_known (C := "Ballothall$KeptSeats") (T := TX6) (N := 7) (n := 7) hw iX6 (hw _ w_207); exact ⟨(c, i), fun q hq => by cases hq; exact h⟩
    | 7 => obtain ⟨c, i, h⟩ := u_known (C := "Ballothall$Lists") (T := TX7) (N := 11) (n := 11) hw iX7 (hw _ w_164); exact ⟨(c, i), fun q hq => by cases hq; exact h⟩
    | 8 => obtain ⟨c, i, h⟩ := u_known (C := "Ballothall$Natural") (T := TX8) (N := 2) (n := 2) hw iX8 (hw _ w_289); exact ⟨(c, i), fun q hq => by cases hq; exact h⟩
    | 9 => obtain ⟨c, i, h⟩ := u_known (C := "Ballothall$Poll") (T := TX9) (N := 12) (n := 12) hw iX9 (hw _ w_102); exact ⟨(c, i), fun q hq => by cases hq; exact h⟩
    | 10 => obtain ⟨c, i, h⟩ := u_known (C := "Ballothall$Wards") (T := TX10) (N := 5) (n := 5) hw iX10 (hw _ w_352); exact ⟨(c, i), fun q hq => by cases hq; exact h⟩
    | 11 => obtain ⟨c, i, h⟩ := u_known (C := "Ballothall") (T := TX11) (N := 14) (n := 14) hw iX11 (hw _ w_33); exact ⟨(c, i), fun q hq => by cases hq; exact h⟩
    | 12 => obtain ⟨c, i, h⟩ := u_known (C := "BallothallLaw$Box") (T := TX12) (N := 4) (n := 4) hw iX12 (hw _ w_768); exact ⟨(c, i), fun q hq => by cases hq; exact h⟩
    | 13 => obtain ⟨c, i, h⟩ := u_known (C := "java/lang/String") (T := TX13) (N := 4) (n := 4) hw iX13 (hw _ w_927); exact ⟨(c, i), fun q hq => by cases hq; exact h⟩
    | 14 => obtain ⟨c, i, h⟩ := u_known (C := "java/lang/StringBuilder") (T := TX14) (N := 4) (n := 4) hw iX14 (hw _ w_803); exact ⟨(c, i), fun q hq => by cases hq; exact h⟩
    | k + 15 => obtain ⟨c, i, -⟩ := u_known (C := "Ballothall$BallotBox") (T := TX0) (N := 10) (n := 10) hw iX0 (hw _ w_41); exact ⟨(c, i), fun q hq => by simp [classes] at hq⟩
  obtain ⟨f, hf⟩ := Classical.axiomOfChoice hc
  obtain ⟨d0, g0⟩ := kg_array .int (hw _ w_100) (fun q h => h)
  obtain ⟨d1, g1⟩ := kg_array .long (hw _ w_145) (fun q h => h)
  obtain ⟨d2, g2⟩ := kg_array .byte (hw _ w_515) (fun q h => h)
  obtain ⟨d3, g3⟩ := kg_objs "Ballothall$KeptSeats" (hts (Cond.arrayOver (.object "Ballothall$KeptSeats")) (by decide +kernel))
  obtain ⟨d4, g4⟩ := kg_objs "Ballothall$Count" (hts (Cond.arrayOver (.object "Ballothall$Count")) (by decide +kernel))
  obtain ⟨d5, g5⟩ := kg_objs "Ballothall$Natural" (hts (Cond.arrayOver (.object "Ballothall$Natural")) (by decide +kernel))
  obtain ⟨d6, g6⟩ := kg_rows .int (hts (Cond.arrayOver (.array .int)) (by decide +kernel))
  have hcls : s.vm.findClass "BallothallLaw" = some (f 0).1 ∨ True := Or.inr trivial
  have e2 : ∀ i : Nat, i < 2 → i = 0 ∨ i = 1 := fun i hi => by omega
  obtain ⟨adK, adV, hS1, hS2⟩ := vk_Sof (args := args) (s := s) (N := 2) (tm := stm) (len := cslen) (byt := csby) (A := fun q : Nat => s.heap.size ≤ q)
    (fun i hi => by rcases e2 i hi with rfl | rfl <;> decide)
    (fun i hi => by rcases e2 i hi with rfl | rfl <;> exact flat_of_before _ hgv _ (by decide +kernel))
    (fun i hi => by rcases e2 i hi with rfl | rfl <;> exact flat_of_before _ hgv _ (by decide +kernel))
    (fun i hi => by rcases e2 i hi with rfl | rfl <;> exact flat_of_before _ hgv _ (by decide +kernel))
    (fun i hi => by rcases e2 i hi with rfl | rfl <;> exact flat_of_before _ hgv _ (by decide +kernel))
    (fun i hi j hj => by
      rcases e2 i hi with rfl | rfl
      · exact absurd hj (Nat.not_lt_zero j)
      · have : j = 0 := by have : j < 1 := hj; omega
        subst this
        exact flat_of_before _ hgv _ (by decide +kernel))
    (fun i j hi hj hne => by
      rcases e2 i hi with rfl | rfl <;> rcases e2 j hj with rfl | rfl
      · exact absurd rfl hne
      · exact Or.inl (flat_of_before _ hgv _ (by decide +kernel))
      · exact Or.inr (flat_of_before _ hgv _ (by decide +kernel))
      · exact absurd rfl hne)
    hA
  refine ⟨(((fun k => (f k).1), (fun k => (f k).2)), (fun k => match k with | 0 => d0 | 1 => d1 | 2 => d2 | 3 => d3 | 4 => d4 | 5 => d5 | 6 => d6 | 100 => adK 0 | 101 => adK 1 | 110 => adV 0 | 111 => adV 1 | _ => 0)), ⟨⟨hf, ?_⟩, ?_, ?_, ?_, ?_, ?_, ?_⟩, ?_, ?_, ?_, ?_⟩
  · intro k q hq
    match k, hq with
    | 0, hq => cases hq; exact g0
    | 1, hq => cases hq; exact g1
    | 2, hq => cases hq; exact g2
    | 3, hq => cases hq; exact g3
    | 4, hq => cases hq; exact g4
    | 5, hq => cases hq; exact g5
    | 6, hq => cases hq; exact g6
    | k + 7, hq => simp [TY] at hq
  · intro w hw9 hb
    have h1 := hts w hw9
    cases w <;> first | (simp [nwB] at hb; done) | exact va_Nw.of rfl h1
  · intro C hC
    have h9 : Cond.arrayOver (.object C) ∈ lw_tbl := (show ∀ C ∈ aols, Cond.arrayOver (.object C) ∈ lw_tbl by decide +kernel) C hC
    exact va_AO.of (hts _ h9)
  · exact va_AOA.of (hts (Cond.arrayOver (.array .int)) (by decide +kernel))
  · exact vk_R.of (A := args) (hts (Cond.stringRef "BallothallLaw" 157 "") (by decide +kernel)) (hS2 0 (by decide))
  · exact vk_R.of (A := args) (hts (Cond.stringRef "BallothallLaw" 159 ">") (by decide +kernel)) (hS2 1 (by decide))
  · intro y hy a
    have hsel : (Cond.selects "java/lang/StringBuilder" ⟨"java/lang/AbstractStringBuilder", "isLatin1", "()Z"⟩ ⟨"java/lang/AbstractStringBuilder", "isLatin1", "()Z"⟩).before args s = true := hts _ (by decide +kernel)
    have h9 : Cond.privateMethod y ∈ lw_tbl ∧ Cond.instanceMethod y ∈ lw_tbl ∧ "java/lang/AbstractStringBuilder" = y.cls ∧ y.cls ≠ "java/lang/invoke/MethodHandle" ∧ y.cls ≠ "java/lang/invoke/VarHandle" := (show ∀ y ∈ spr, Cond.privateMethod y ∈ lw_tbl ∧ Cond.instanceMethod y ∈ lw_tbl ∧ "java/lang/AbstractStringBuilder" = y.cls ∧ y.cls ≠ "java/lang/invoke/MethodHandle" ∧ y.cls ≠ "java/lang/invoke/VarHandle" by decide +kernel) y hy
    exact va_tabs (by rfl) rfl (selSub hsel h9.2.2.1 h9.2.2.2 (hts _ h9.1) (hts _ h9.2.1))
  · obtain ⟨t, ht, hT⟩ := va_Tof (args := args) (s := s) (tm := Term.static "Ballothall" "FACTORIAL" "[J") (ty := .long) (N := 13) (f := fun j => .long (oJ (facF j))) (A := fun q : Nat => s.heap.size ≤ q) (by decide) (flat_of_before _ hgv _ (by decide +kernel)) (va_eqt (flat_of_before _ hgv _ (by decide +kernel)))
      (fun j hj => by
        rcases (show j = 0 ∨ j = 1 ∨ j = 2 ∨ j = 3 ∨ j = 4 ∨ j = 5 ∨ j = 6 ∨ j = 7 ∨ j = 8 ∨ j = 9 ∨ j = 10 ∨ j = 11 ∨ j = 12 by omega) with rfl | rfl | rfl | rfl | rfl | rfl | rfl | rfl | rfl | rfl | rfl | rfl | rfl <;> exact va_eqtl (flat_of_before _ hgv _ (by decide +kernel))) hA
    exact ⟨t, va_Zof (args := args) (hts _ (by decide +kernel)) (hts _ (by decide +kernel)) ht hA, hT⟩
  · exact va_Zof (args := args) (hts _ (by decide +kernel)) (hts _ (by decide +kernel)) (va_eqt (flat_of_before _ hgv _ (by decide +kernel))) hA
  · refine ⟨fun i hi => ?_, fun i j hi hj h => ?_⟩
    · rcases e2 i hi with rfl | rfl
      · exact hS1.1 0 (by decide)
      · exact hS1.1 1 (by decide)
    · rcases e2 i hi with rfl | rfl <;> rcases e2 j hj with rfl | rfl
      · rfl
      · exact hS1.2 0 1 (by decide) (by decide) h
      · exact hS1.2 1 0 (by decide) (by decide) h
      · rfl
  · rcases va_Zqof (args := args) (C := "jdk/internal/util/Preconditions") (n := "SIOOBE_FORMATTER") (d := "Ljava/util/function/BiFunction;") (A := fun q : Nat => s.heap.size ≤ q) (hts _ (by decide +kernel)) (hts _ (by decide +kernel)) (flat_of_before _ hgv _ (by decide +kernel)) hA with h | ⟨t, h⟩
    · exact ⟨none, h⟩
    · exact ⟨some t, h⟩
