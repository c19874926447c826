/-! BY HAND: an array filled with zeros over zeros; new int[n][k] of which some rows are kept -/
theorem va_up_id {α : Type} {f : Nat → α} {k : Nat} {v : α} (h : f k = v) : va_up f k v = f := by
  funext j
  by_cases e : j = k
  · subst e; rw [va_up_self, h]
  · rw [va_up_ne _ _ e]
set_option maxRecDepth 100000 in
set_option maxHeartbeats 4000000 in
theorem c_fill0 (l : Launch) (z : Zz) (a0 n : Nat) (hn : n < 2 ^ 31) : CT l z ⟨"java/util/Arrays", "fill", "([II)V"⟩ prog_37_method_103_code 4 none [.ref a0, .int 0] [(a0, .inl (z.2 0, n, .inl (fun _ => 0)))] 1 20 0 0 (fun u => none) (fun u => [(a0, .inl (z.2 0, n, .inl (fun _ => 0)))]) := by
  refine CT.of (own := "java/util/Arrays") (by decide +kernel) (Nat.le_of_ble_eq_true rfl) rfl (fun p e s m below meth c A ls hx hb hml hr hts hown hlocks hin hA hG hZ hP hD hS hl => ?_)
  have hl : lv_has ls 4 [(0, .ref a0), (1, .int 0)] := hl
  refine lv_iconst (v := 0) hx hb d_37_103_0 (by decide +kernel) ?_
  refine lv_istore_n (lv' := [(2, .int 0), (0, .ref a0), (1, .int 0)]) hx hb d_37_103_1 rfl hl (by decide) rfl (fun ls hl => ?_)
  refine lv_aload_n hx hb d_37_103_2 rfl (lv_at hl 1 rfl) ?_
  refine va_alen (v := nI n) hx hb hG.1 hP 0 0 rfl rfl rfl d_37_103_3 ?_
  refine lv_istore_n (lv' := [(3, .int (nI n)), (2, .int 0), (0, .ref a0), (1, .int 0)]) hx hb d_37_103_4 rfl hl (by decide) rfl (fun ls hl => ?_)
  have hloop : ∀ (k i : Nat) (H : Heap) (locs : List Loc) (ls : Array Slot), i ≤ n → n < i + k → va_P z.1 classes [(a0, .inl (z.2 0, n, .inl (fun _ => 0)))] H → va_D A [(a0, .inl (z.2 0, n, .inl (fun _ => 0)))] → va_S A s.heap H locs → lv_has ls 4 [(3, .int (nI n)), (2, .int (nI i)), (0, .ref a0), (1, .int 0)] → W p l e (rmK 1 20 0 0) s m [Value.ref a0, .int 0].toArray below meth c H locs 0 0 (MQ below (QK z A (fun u => none) (fun u => [(a0, .inl (z.2 0, n, .inl (fun _ => 0)))])) [Value.ref a0, .int 0].toArray s 0 0 A) (F0 m 5 ls []) := by
    intro k
    induction k with
    | zero => intro i H locs ls h1 h2; exact absurd h2 (by omega)
    | succ k ih =>
      intro i H locs ls hi hk hP hD hS hl
      refine lv_iload_n hx hb d_37_103_5 rfl (lv_at hl 1 rfl) ?_
      refine lv_iload_n hx hb d_37_103_6 rfl (lv_at hl 0 rfl) ?_
      refine lv_icmp_ge (tgt := 20) hx hb d_37_103_7 (by decide) (fun c9 => ?_) (fun c9 => ?_)
      · exact W.vret hx hb hr (fun t ht hW => qk hP hD hS [0] rfl (fun k => k, fun _ _ => none) rfl rfl rfl ht) hS.2.2 d_37_103_20
      · have hlt : i < n := by
          rcases Nat.lt_or_ge i n with h | h
          · exact h
          · exact absurd (nI_le h (by omega)) c9
        refine lv_aload_n hx hb d_37_103_10 rfl (lv_at hl 2 rfl) ?_
        refine lv_iload_n hx hb d_37_103_11 rfl (lv_at hl 1 rfl) ?_
        refine lv_iload_n hx hb d_37_103_12 rfl (lv_at hl 3 rfl) ?_
        refine va_iast hx hb hG.1 hP hD hS 0 0 rfl rfl (vp_in_nI hlt hn) d_37_103_13 (fun H locs hP hD hS => ?_)
        rw [upd_z] at hP hD
        refine lv_iinc (v := nI (i + 1)) (lv' := [(2, .int (nI (i + 1))), (3, .int (nI n)), (0, .ref a0), (1, .int 0)]) hx hb d_37_103_14 hl (k := 1) rfl (by rw [nI_succ]; rfl) (by decide) rfl (fun ls hl => ?_)
        refine lv_goto (tgt := 5) hx hb d_37_103_17 (by decide) ?_
        exact ih (i + 1) H locs ls hlt (by omega) hP hD hS (lv_sub hl [1, 0, 2, 3] rfl)
  exact hloop (n + 1) 0 _ _ ls (Nat.zero_le n) (by omega) hP hD hS hl
section MNA
variable {p : Program} {l : Launch} {e : Env} {R : Room} {s : State} {m : MethodId} {args : Array Value} {below : List Frame} {meth : Method} {c : Code} {H : Heap} {locs : List Loc} {cells slots : Nat} {Q : State → Prop}
variable {cc : ByteArray} {pc : Nat} {ls : Array Slot} {rest : List Value} {A0 : Nat → Prop} {z : Zz} {ws : va_W}
theorem k_mna {own : String} {index N K : Nat} {n k : Int32} (hx : p.tables.exec = Jvm.exec) (hb : c.code = cc) (hown : s.vm.findClass own = some m.cls) (hclink : (Cond.classLink own index ("[" ++ (FieldType.array .int).toString)).before args s = true) (hover : va_AOA .int s) (harr : (Cond.arrayClass .int).before args s = true) (hK : va_K z.1 classes (TY z.2) s) (hP : va_P z.1 classes ws H) (hD : va_D A0 ws) (hS : va_S A0 s.heap H locs) (hA : ∀ q, s.heap.size ≤ q → A0 q)
    (hn : ¬ n < 0) (hk : ¬ k < 0) (hN : n.toNatClampNeg = N) (hM : k.toNatClampNeg = K) (hb1 : N * 4 ≤ 536870912) (hb2 : K * componentBytes .int ≤ 536870912) (hb3 : K ≤ 536870912) (hcells : cells + (1 + N) ≤ R.cells) (hslots : slots + (N + N * K) ≤ R.slots) (hdg : decode cc pc = .ok (.multianewarray index 2, 4))
    (kk : ∀ (q : Nat) (r : Nat → Nat) (g : Nat → Option Nat) (H1 : Heap), (∀ i, i < N → g i = some (r i)) →
      va_P z.1 classes ((ws ++ [(q, .inl (z.2 8, N, .inr (.inr (.inr (.inr g)))))]) ++ (List.range N).map (fun i => (r i, .inl (z.2 0, K, .inl (fun _ => 0))))) H1 → va_D A0 ((ws ++ [(q, .inl (z.2 8, N, .inr (.inr (.inr (.inr g)))))]) ++ (List.range N).map (fun i => (r i, .inl (z.2 0, K, .inl (fun _ => 0))))) → va_S A0 s.heap H1 locs →
      W p l e R s m args below meth c H1 locs (cells + 1 + N) (slots + N + N * K) Q (F0 m (pc + 4) ls (.ref q :: rest))) : W p l e R s m args below meth c H locs cells slots Q (F0 m pc ls (.int k :: .int n :: rest)) := by
  have hcy : s.vm.findClass (FieldType.array .int).toString = some (z.2 0) := va_nm_int (hK.2 0 _ rfl).2
  have hP0 : va_P z.1 classes (ws ++ va_pl [] (fun _ => .inr (0, []))) H := by
    show va_P z.1 classes (ws ++ []) H
    rw [List.append_nil]; exact hP
  have hD0 : va_D A0 (ws ++ va_pl [] (fun _ => .inr (0, []))) := by
    show va_D A0 (ws ++ [])
    rw [List.append_nil]; exact hD
  refine va_mna (L := []) (f := fun _ => .inr (0, [])) (z := (K, .inl (fun _ => 0))) hx hb hown hclink hover harr hcy hK hP0 hD0 hS hA hn hk hN hM hb1 hb2 hb3 rfl rfl hcells hslots (fun cA => ?_) hdg (fun q r cA H1 hinj hnot hK1 hP1 hD1 hS1 => ?_)
  · rw [vp_cell_i]
    exact (arrV_new cA K (.int 0)).symm ▸ rfl
  · have hc := ty_eq8 hK1
    subst hc
    have e1 : va_pl ([] ++ (List.range N).map r) (vr_up (fun _ => .inr (0, [])) ((List.range N).map r) (.inl (z.2 0, K, .inl (fun _ => 0)))) = (List.range N).map (fun i => (r i, .inl (z.2 0, K, .inl (fun _ => 0)))) := by
      unfold va_pl
      rw [List.nil_append, List.map_map]
      apply List.map_congr_left
      intro i hi
      show (r i, vr_up _ _ _ (r i)) = _
      rw [vr_up_in (List.mem_map.mpr ⟨i, hi, rfl⟩)]
    rw [e1] at hP1 hD1
    exact kk q r _ H1 (fun i hi => if_pos hi) hP1 hD1 hS1
end MNA
