/-! SMALL ROWS -/
section MORE
variable {p : Program} {l : Launch} {e : Env} {R : Room} {s : State} {m : MethodId} {args : Array Value} {below : List Frame} {meth : Method} {c : Code} {H : Heap} {locs : List Loc} {cells slots : Nat} {Q : State → Prop}
variable {cc : ByteArray} {pc : Nat} {ls : Array Slot} {rest : List Value}
theorem nrm {x x1 : Int32} (h : x = x1) (k : W p l e R s m args below meth c H locs cells slots Q (F0 m pc ls (.int x1 :: rest))) : W p l e R s m args below meth c H locs cells slots Q (F0 m pc ls (.int x :: rest)) := by subst h; exact k
theorem nrmL {x x1 : Int64} (h : x = x1) (k : W p l e R s m args below meth c H locs cells slots Q (F0 m pc ls (.long x1 :: rest))) : W p l e R s m args below meth c H locs cells slots Q (F0 m pc ls (.long x :: rest)) := by subst h; exact k
theorem vin {i : Int32} {n : Nat} (h : decide (¬ (i < 0 ∨ n ≤ i.toNatClampNeg)) = true) : vp_in i n := by unfold vp_in; exact of_decide_eq_true h
theorem hin4 {i : Int32} (h : decide (¬ (i < 0 ∨ 4 ≤ i.toNatClampNeg)) = true) : vp_in i 4 := by unfold vp_in; exact of_decide_eq_true h
theorem upd_z {k : Nat} : upd (fun _ => 0) k 0 = fun _ => 0 := by funext j; simp [upd]
theorem updL_z {k : Nat} : vp_updL (fun _ => 0) k 0 = fun _ => 0 := by funext j; simp [vp_updL]
theorem cpy_z {a b n : Nat} : va_cpy (fun _ => (0 : Int32)) (fun _ => 0) a b n = fun _ => 0 := by funext j; simp [va_cpy]
theorem lcmp_same (x : Int64) : lg_cmp x x = 0 := by simp [lg_cmp]
theorem w_obj : Cond.code objectInit ⟨#[0xb1]⟩ 1 none ∈ WG := wg_t (by decide +kernel) rfl
theorem ty_find {D : va_G} {U : State} {tys : List (ClassId × FieldType)} {k j : Nat} {c c9 : ClassId} {ty : FieldType} (hK : va_K D classes tys U) (h1 : tys[k]? = some (c, ty)) (h2 : tys[j]? = some (c9, ty)) (hr : ∀ q, va_RA U q ty → U.vm.findClass ("[" ++ ty.toString) = some q) : c = c9 :=
  Option.some.inj ((hr _ (hK.2 k _ h1).2).symm.trans (hr _ (hK.2 j _ h2).2))
theorem ty_eq0 {D : va_G} {d : Nat → ClassId} {cA : ClassId} {U : State} (hK : va_K D classes (TY d ++ [(cA, .int)]) U) : d 0 = cA := ty_find hK (k := 0) (j := 9) rfl rfl (fun q h => h)
theorem ty_eq1 {D : va_G} {d : Nat → ClassId} {cA : ClassId} {U : State} (hK : va_K D classes (TY d ++ [(cA, .long)]) U) : d 1 = cA := ty_find hK (k := 1) (j := 9) rfl rfl (fun q h => h)
theorem ty_eq2 {D : va_G} {d : Nat → ClassId} {cA : ClassId} {U : State} (hK : va_K D classes (TY d ++ [(cA, .double)]) U) : d 2 = cA := ty_find hK (k := 2) (j := 9) rfl rfl (fun q h => h)
theorem ty_eq3 {D : va_G} {d : Nat → ClassId} {cA : ClassId} {U : State} (hK : va_K D classes (TY d ++ [(cA, .object "Ballothall$KeptSeats")]) U) : d 3 = cA := ty_find hK (k := 3) (j := 9) rfl rfl (fun q h => by obtain ⟨kA, comp, h1, h2, h3, h4⟩ := h; exact h4)
theorem ty_eq4 {D : va_G} {d : Nat → ClassId} {cA : ClassId} {U : State} (hK : va_K D classes (TY d ++ [(cA, .object "Ballothall$Count")]) U) : d 4 = cA := ty_find hK (k := 4) (j := 9) rfl rfl (fun q h => by obtain ⟨kA, comp, h1, h2, h3, h4⟩ := h; exact h4)
theorem ty_eq5 {D : va_G} {d : Nat → ClassId} {cA : ClassId} {U : State} (hK : va_K D classes (TY d ++ [(cA, .object "Ballothall$Natural")]) U) : d 5 = cA := ty_find hK (k := 5) (j := 9) rfl rfl (fun q h => by obtain ⟨kA, comp, h1, h2, h3, h4⟩ := h; exact h4)
theorem ty_eq6 {D : va_G} {d : Nat → ClassId} {cA : ClassId} {U : State} (hK : va_K D classes (TY d ++ [(cA, .object "BallothallModel$State")]) U) : d 6 = cA := ty_find hK (k := 6) (j := 9) rfl rfl (fun q h => by obtain ⟨kA, comp, h1, h2, h3, h4⟩ := h; exact h4)
theorem ty_eq7 {D : va_G} {d : Nat → ClassId} {cA : ClassId} {U : State} (hK : va_K D classes (TY d ++ [(cA, .object "BallothallModel$Kind")]) U) : d 7 = cA := ty_find hK (k := 7) (j := 9) rfl rfl (fun q h => by obtain ⟨kA, comp, h1, h2, h3, h4⟩ := h; exact h4)
theorem ty_eq8 {D : va_G} {d : Nat → ClassId} {cA : ClassId} {U : State} (hK : va_K D classes (TY d ++ [(cA, .array .int)]) U) : d 8 = cA := ty_find hK (k := 8) (j := 9) rfl rfl (fun q h => h)
theorem iX0 : ∀ w ∈ u_ws "Ballothall$BallotBox" TX0 10, w ∈ WG := by decide +kernel
theorem fsX0 : ∀ j, j < 10 → defaultValue (tyX0 j) = vp_V [.null, .int 0, .int 0, .int 0, .null, .null, .null, .null, .null, .null] j := fun j hj => by rcases (show j = 0 ∨ j = 1 ∨ j = 2 ∨ j = 3 ∨ j = 4 ∨ j = 5 ∨ j = 6 ∨ j = 7 ∨ j = 8 ∨ j = 9 by omega) with rfl | rfl | rfl | rfl | rfl | rfl | rfl | rfl | rfl | rfl <;> rfl
theorem iX1 : ∀ w ∈ u_ws "Ballothall$Council" TX1 4, w ∈ WG := by decide +kernel
theorem fsX1 : ∀ j, j < 4 → defaultValue (tyX1 j) = vp_V [.int 0, .int 0, .null, .null] j := fun j hj => by rcases (show j = 0 ∨ j = 1 ∨ j = 2 ∨ j = 3 by omega) with rfl | rfl | rfl | rfl <;> rfl
theorem iX2 : ∀ w ∈ u_ws "Ballothall$Count" TX2 10, w ∈ WG := by decide +kernel
theorem fsX2 : ∀ j, j < 10 → defaultValue (tyX2 j) = vp_V [.int 0, .int 0, .int 0, .int 0, .int 0, .int 0, .null, .null, .null, .null] j := fun j hj => by rcases (show j = 0 ∨ j = 1 ∨ j = 2 ∨ j = 3 ∨ j = 4 ∨ j = 5 ∨ j = 6 ∨ j = 7 ∨ j = 8 ∨ j = 9 by omega) with rfl | rfl | rfl | rfl | rfl | rfl | rfl | rfl | rfl | rfl <;> rfl
theorem iX3 : ∀ w ∈ u_ws "Ballothall$Counting" TX3 15, w ∈ WG := by decide +kernel
theorem fsX3 : ∀ j, j < 15 → defaultValue (tyX3 j) = vp_V [.null, .null, .int 0, .int 0, .null, .null, .null, .null, .null, .null, .null, .null, .null, .null, .null] j := fun j hj => by rcases (show j = 0 ∨ j = 1 ∨ j = 2 ∨ j = 3 ∨ j = 4 ∨ j = 5 ∨ j = 6 ∨ j = 7 ∨ j = 8 ∨ j = 9 ∨ j = 10 ∨ j = 11 ∨ j = 12 ∨ j = 13 ∨ j = 14 by omega) with rfl | rfl | rfl | rfl | rfl | rfl | rfl | rfl | rfl | rfl | rfl | rfl | rfl | rfl | rfl <;> rfl
theorem iX4 : ∀ w ∈ u_ws "Ballothall$Division" TX4 8, w ∈ WG := by decide +kernel
theorem fsX4 : ∀ j, j < 8 → defaultValue (tyX4 j) = vp_V [.int 0, .int 0, .null, .null, .null, .null, .null, .null] j := fun j hj => by rcases (show j = 0 ∨ j = 1 ∨ j = 2 ∨ j = 3 ∨ j = 4 ∨ j = 5 ∨ j = 6 ∨ j = 7 by omega) with rfl | rfl | rfl | rfl | rfl | rfl | rfl | rfl <;> rfl
theorem iX5 : ∀ w ∈ u_ws "Ballothall$FalseBallot" TX5 3, w ∈ WG := by decide +kernel
theorem fsX5 : ∀ j, j < 3 → defaultValue (tyX5 j) = vp_V [.null, .null, .null] j := fun j hj => by rcases (show j = 0 ∨ j = 1 ∨ j = 2 by omega) with rfl | rfl | rfl <;> rfl
theorem iX6 : ∀ w ∈ u_ws "Ballothall$KeptSeats" TX6 7, w ∈ WG := by decide +kernel
theorem fsX6 : ∀ j, j < 7 → defaultValue (tyX6 j) = vp_V [.int 0, .int 0, .int 0, .null, .null, .null, .null] j := fun j hj => by rcases (show j = 0 ∨ j = 1 ∨ j = 2 ∨ j = 3 ∨ j = 4 ∨ j = 5 ∨ j = 6 by omega) with rfl | rfl | rfl | rfl | rfl | rfl | rfl <;> rfl
theorem iX7 : ∀ w ∈ u_ws "Ballothall$Lists" TX7 11, w ∈ WG := by decide +kernel
theorem fsX7 : ∀ j, j < 11 → defaultValue (tyX7 j) = vp_V [.int 0, .null, .null, .null, .null, .null, .int 0, .null, .null, .null, .int 0] j := fun j hj => by rcases (show j = 0 ∨ j = 1 ∨ j = 2 ∨ j = 3 ∨ j = 4 ∨ j = 5 ∨ j = 6 ∨ j = 7 ∨ j = 8 ∨ j = 9 ∨ j = 10 by omega) with rfl | rfl | rfl | rfl | rfl | rfl | rfl | rfl | rfl | rfl | rfl <;> rfl
theorem iX8 : ∀ w ∈ u_ws "Ballothall$Natural" TX8 2, w ∈ WG := by decide +kernel
theorem fsX8 : ∀ j, j < 2 → defaultValue (tyX8 j) = vp_V [.null, .int 0] j := fun j hj => by rcases (show j = 0 ∨ j = 1 by omega) with rfl | rfl <;> rfl
theorem iX9 : ∀ w ∈ u_ws "Ballothall$Poll" TX9 12, w ∈ WG := by decide +kernel
theorem fsX9 : ∀ j, j < 12 → defaultValue (tyX9 j) = vp_V [.null, .int 0, .int 0, .null, .null, .null, .null, .null, .null, .null, .null, .null] j := fun j hj => by rcases (show j = 0 ∨ j = 1 ∨ j = 2 ∨ j = 3 ∨ j = 4 ∨ j = 5 ∨ j = 6 ∨ j = 7 ∨ j = 8 ∨ j = 9 ∨ j = 10 ∨ j = 11 by omega) with rfl | rfl | rfl | rfl | rfl | rfl | rfl | rfl | rfl | rfl | rfl | rfl <;> rfl
theorem iX10 : ∀ w ∈ u_ws "Ballothall$Wards" TX10 5, w ∈ WG := by decide +kernel
theorem fsX10 : ∀ j, j < 5 → defaultValue (tyX10 j) = vp_V [.int 0, .null, .null, .null, .null] j := fun j hj => by rcases (show j = 0 ∨ j = 1 ∨ j = 2 ∨ j = 3 ∨ j = 4 by omega) with rfl | rfl | rfl | rfl | rfl <;> rfl
theorem iX11 : ∀ w ∈ u_ws "Ballothall" TX11 14, w ∈ WG := by decide +kernel
theorem fsX11 : ∀ j, j < 14 → defaultValue (tyX11 j) = vp_V [.null, .null, .null, .null, .null, .null, .null, .null, .null, .null, .int 0, .int 0, .null, .int 0] j := fun j hj => by rcases (show j = 0 ∨ j = 1 ∨ j = 2 ∨ j = 3 ∨ j = 4 ∨ j = 5 ∨ j = 6 ∨ j = 7 ∨ j = 8 ∨ j = 9 ∨ j = 10 ∨ j = 11 ∨ j = 12 ∨ j = 13 by omega) with rfl | rfl | rfl | rfl | rfl | rfl | rfl | rfl | rfl | rfl | rfl | rfl | rfl | rfl <;> rfl
theorem iX12 : ∀ w ∈ u_ws "BallothallModel$Count" TX12 15, w ∈ WG := by decide +kernel
theorem fsX12 : ∀ j, j < 15 → defaultValue (tyX12 j) = vp_V [.null, .int 0, .int 0, .null, .null, .int 0, .null, .int 0, .int 0, .int 0, .int 0, .null, .null, .null, .null] j := fun j hj => by rcases (show j = 0 ∨ j = 1 ∨ j = 2 ∨ j = 3 ∨ j = 4 ∨ j = 5 ∨ j = 6 ∨ j = 7 ∨ j = 8 ∨ j = 9 ∨ j = 10 ∨ j = 11 ∨ j = 12 ∨ j = 13 ∨ j = 14 by omega) with rfl | rfl | rfl | rfl | rfl | rfl | rfl | rfl | rfl | rfl | rfl | rfl | rfl | rfl | rfl <;> rfl
theorem iX13 : ∀ w ∈ u_ws "BallothallModel$Kind" TX13 3, w ∈ WG := by decide +kernel
theorem fsX13 : ∀ j, j < 3 → defaultValue (tyX13 j) = vp_V [.null, .int 0, .int 0] j := fun j hj => by rcases (show j = 0 ∨ j = 1 ∨ j = 2 by omega) with rfl | rfl | rfl <;> rfl
theorem iX14 : ∀ w ∈ u_ws "BallothallModel$Poll" TX14 7, w ∈ WG := by decide +kernel
theorem fsX14 : ∀ j, j < 7 → defaultValue (tyX14 j) = vp_V [.null, .int 0, .null, .null, .int 0, .null, .null] j := fun j hj => by rcases (show j = 0 ∨ j = 1 ∨ j = 2 ∨ j = 3 ∨ j = 4 ∨ j = 5 ∨ j = 6 by omega) with rfl | rfl | rfl | rfl | rfl | rfl | rfl <;> rfl
theorem iX15 : ∀ w ∈ u_ws "BallothallModel$Seats" TX15 7, w ∈ WG := by decide +kernel
theorem fsX15 : ∀ j, j < 7 → defaultValue (tyX15 j) = vp_V [.null, .null, .null, .null, .int 0, .int 0, .int 0] j := fun j hj => by rcases (show j = 0 ∨ j = 1 ∨ j = 2 ∨ j = 3 ∨ j = 4 ∨ j = 5 ∨ j = 6 by omega) with rfl | rfl | rfl | rfl | rfl | rfl | rfl <;> rfl
theorem iX16 : ∀ w ∈ u_ws "BallothallModel$Sharing" TX16 7, w ∈ WG := by decide +kernel
theorem fsX16 : ∀ j, j < 7 → defaultValue (tyX16 j) = vp_V [.int 0, .null, .null, .null, .null, .null, .int 0] j := fun j hj => by rcases (show j = 0 ∨ j = 1 ∨ j = 2 ∨ j = 3 ∨ j = 4 ∨ j = 5 ∨ j = 6 by omega) with rfl | rfl | rfl | rfl | rfl | rfl | rfl <;> rfl
theorem iX17 : ∀ w ∈ u_ws "BallothallModel$State" TX17 16, w ∈ WG := by decide +kernel
theorem fsX17 : ∀ j, j < 16 → defaultValue (tyX17 j) = vp_V [.int 0, .null, .null, .int 0, .null, .null, .null, .null, .null, .int 0, .null, .null, .null, .int 0, .null, .int 0] j := fun j hj => by rcases (show j = 0 ∨ j = 1 ∨ j = 2 ∨ j = 3 ∨ j = 4 ∨ j = 5 ∨ j = 6 ∨ j = 7 ∨ j = 8 ∨ j = 9 ∨ j = 10 ∨ j = 11 ∨ j = 12 ∨ j = 13 ∨ j = 14 ∨ j = 15 by omega) with rfl | rfl | rfl | rfl | rfl | rfl | rfl | rfl | rfl | rfl | rfl | rfl | rfl | rfl | rfl | rfl <;> rfl
theorem iX18 : ∀ w ∈ u_ws "BallothallModel" TX18 13, w ∈ WG := by decide +kernel
theorem fsX18 : ∀ j, j < 13 → defaultValue (tyX18 j) = vp_V [.null, .null, .int 0, .null, .int 0, .null, .int 0, .null, .int 0, .null, .long 0, .int 0, .null] j := fun j hj => by rcases (show j = 0 ∨ j = 1 ∨ j = 2 ∨ j = 3 ∨ j = 4 ∨ j = 5 ∨ j = 6 ∨ j = 7 ∨ j = 8 ∨ j = 9 ∨ j = 10 ∨ j = 11 ∨ j = 12 by omega) with rfl | rfl | rfl | rfl | rfl | rfl | rfl | rfl | rfl | rfl | rfl | rfl | rfl <;> rfl
end MORE
