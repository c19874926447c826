set_option maxRecDepth 100000 in
set_option maxHeartbeats 4000000 in
theorem s365_paths (l : Launch) (z : Zz) (a0 : Nat) (a1 : Nat) (a2 : Nat) (a3 : Nat) (a4 : Nat) (g91 : Nat → Option Nat) (q0 : Nat) (r1 : Nat → Nat) {p : Program} {e : Env} {s : State} {m : MethodId} {below : List Frame} {meth : Method} {c : Code} {A : Nat → Prop} {Q : State → Prop} (hx : p.tables.exec = Jvm.exec) (hb : c.code = prog_17_method_9_code) (hml : c.maxLocals = 5) (hts : ∀ w ∈ WG, w.before ([.ref a0] : List Value).toArray s = true) (hown : s.vm.findClass "BallothallModel$Poll" = some m.cls) (hA : ∀ q, s.heap.size ≤ q → A q) (hG : KG z s) (hZ : XZ A s) (hk : ∀ (H : Heap) (locs : List Loc) (ls : Array Slot), va_P z.1 classes [(q0, .inl (z.2 8, 8, .inr (.inr (.inr (.inr (va_up (va_up (va_up (va_up (va_up (va_up (va_up (va_up g91 0 (some (r1 0))) 1 (some (r1 1))) 2 (some (r1 2))) 3 (some (r1 3))) 4 (some (r1 4))) 5 (some (r1 5))) 6 (some (r1 6))) 7 (some (r1 7)))))))), ((r1 0), .inl (z.2 0, 8, .inl (fun _ => 0))), ((r1 1), .inl (z.2 0, 8, .inl (fun _ => 0))), ((r1 2), .inl (z.2 0, 8, .inl (fun _ => 0))), ((r1 3), .inl (z.2 0, 8, .inl (fun _ => 0))), ((r1 4), .inl (z.2 0, 8, .inl (fun _ => 0))), ((r1 5), .inl (z.2 0, 8, .inl (fun _ => 0))), ((r1 6), .inl (z.2 0, 8, .inl (fun _ => 0))), ((r1 7), .inl (z.2 0, 8, .inl (fun _ => 0))), (a0, .inr (14, [.ref a1, .int 0, .ref a2, .ref a3, .int 0, .ref a4, .ref q0]))] H → va_D A [(q0, .inl (z.2 8, 8, .inr (.inr (.inr (.inr (va_up (va_up (va_up (va_up (va_up (va_up (va_up (va_up g91 0 (some (r1 0))) 1 (some (r1 1))) 2 (some (r1 2))) 3 (some (r1 3))) 4 (some (r1 4))) 5 (some (r1 5))) 6 (some (r1 6))) 7 (some (r1 7)))))))), ((r1 0), .inl (z.2 0, 8, .inl (fun _ => 0))), ((r1 1), .inl (z.2 0, 8, .inl (fun _ => 0))), ((r1 2), .inl (z.2 0, 8, .inl (fun _ => 0))), ((r1 3), .inl (z.2 0, 8, .inl (fun _ => 0))), ((r1 4), .inl (z.2 0, 8, .inl (fun _ => 0))), ((r1 5), .inl (z.2 0, 8, .inl (fun _ => 0))), ((r1 6), .inl (z.2 0, 8, .inl (fun _ => 0))), ((r1 7), .inl (z.2 0, 8, .inl (fun _ => 0))), (a0, .inr (14, [.ref a1, .int 0, .ref a2, .ref a3, .int 0, .ref a4, .ref q0]))] → va_S A s.heap H locs → lv_has ls 5 [(3, .int 2), (4, .int 8), (2, .int 5), (1, .ref q0), (0, .ref a0)] → W p l e (rmK 1 29 9 72) s m ([.ref a0] : List Value).toArray below meth c H locs 9 72 Q (F0 m 122 ls [])) (H : Heap) (locs : List Loc) (ls : Array Slot) (hP : va_P z.1 classes [(q0, .inl (z.2 8, 8, .inr (.inr (.inr (.inr (va_up (va_up (va_up (va_up (va_up (va_up (va_up (va_up g91 0 (some (r1 0))) 1 (some (r1 1))) 2 (some (r1 2))) 3 (some (r1 3))) 4 (some (r1 4))) 5 (some (r1 5))) 6 (some (r1 6))) 7 (some (r1 7)))))))), ((r1 0), .inl (z.2 0, 8, .inl (fun _ => 0))), ((r1 1), .inl (z.2 0, 8, .inl (fun _ => 0))), ((r1 2), .inl (z.2 0, 8, .inl (fun _ => 0))), ((r1 3), .inl (z.2 0, 8, .inl (fun _ => 0))), ((r1 4), .inl (z.2 0, 8, .inl (fun _ => 0))), ((r1 5), .inl (z.2 0, 8, .inl (fun _ => 0))), ((r1 6), .inl (z.2 0, 8, .inl (fun _ => 0))), ((r1 7), .inl (z.2 0, 8, .inl (fun _ => 0))), (a0, .inr (14, [.ref a1, .int 0, .ref a2, .ref a3, .int 0, .ref a4, .ref q0]))] H) (hD : va_D A [(q0, .inl (z.2 8, 8, .inr (.inr (.inr (.inr (va_up (va_up (va_up (va_up (va_up (va_up (va_up (va_up g91 0 (some (r1 0))) 1 (some (r1 1))) 2 (some (r1 2))) 3 (some (r1 3))) 4 (some (r1 4))) 5 (some (r1 5))) 6 (some (r1 6))) 7 (some (r1 7)))))))), ((r1 0), .inl (z.2 0, 8, .inl (fun _ => 0))), ((r1 1), .inl (z.2 0, 8, .inl (fun _ => 0))), ((r1 2), .inl (z.2 0, 8, .inl (fun _ => 0))), ((r1 3), .inl (z.2 0, 8, .inl (fun _ => 0))), ((r1 4), .inl (z.2 0, 8, .inl (fun _ => 0))), ((r1 5), .inl (z.2 0, 8, .inl (fun _ => 0))), ((r1 6), .inl (z.2 0, 8, .inl (fun _ => 0))), ((r1 7), .inl (z.2 0, 8, .inl (fun _ => 0))), (a0, .inr (14, [.ref a1, .int 0, .ref a2, .ref a3, .int 0, .ref a4, .ref q0]))]) (hS : va_S A s.heap H locs) (hl : lv_has ls 5 [(3, .int 1), (4, .int 8), (2, .int 5), (1, .ref q0), (0, .ref a0)]) : W p l e (rmK 1 29 9 72) s m ([.ref a0] : List Value).toArray below meth c H locs 9 72 Q (F0 m 122 ls []) := by
  refine lv_iload_n hx hb d_17_9_122 rfl (lv_at hl 0 rfl) ?_
  refine lv_bipush (v := 8) hx hb d_17_9_123 (by decide +kernel) ?_
  refine lv_icmp_ge (tgt := 196) hx hb d_17_9_125 (by decide) (fun c9 => absurd c9 (by decide +kernel)) (fun _ => ?_)
  refine lv_iconst (v := 0) hx hb d_17_9_128 (by decide +kernel) ?_
  refine lv_istore (lv' := [(4, .int 0), (3, .int 1), (2, .int 5), (1, .ref q0), (0, .ref a0)]) hx hb d_17_9_129 hl (by decide) rfl (fun ls hl => ?_)
  refine lv_iload hx hb d_17_9_131 (lv_at hl 0 rfl) ?_
  refine lv_bipush (v := 8) hx hb d_17_9_133 (by decide +kernel) ?_
  refine lv_icmp_ge (tgt := 190) hx hb d_17_9_135 (by decide) (fun c9 => absurd c9 (by decide +kernel)) (fun _ => ?_)
  refine lv_iload_n hx hb d_17_9_138 rfl (lv_at hl 1 rfl) ?_
  refine lv_iload hx hb d_17_9_139 (lv_at hl 0 rfl) ?_
  refine lv_icmp_eq (tgt := 184) hx hb d_17_9_141 (by decide) (fun c9 => absurd c9 (by decide +kernel)) (fun _ => ?_)
  refine lv_iload_n hx hb d_17_9_144 rfl (lv_at hl 1 rfl) ?_
  refine lv_iload_n hx hb d_17_9_145 rfl (lv_at hl 2 rfl) ?_
  refine lv_icmp_eq (tgt := 184) hx hb d_17_9_146 (by decide) (fun c9 => absurd c9 (by decide +kernel)) (fun _ => ?_)
  refine lv_iload hx hb d_17_9_149 (lv_at hl 0 rfl) ?_
  refine lv_iload_n hx hb d_17_9_151 rfl (lv_at hl 2 rfl) ?_
  refine lv_icmp_eq (tgt := 184) hx hb d_17_9_152 (by decide) (fun c9 => absurd c9 (by decide +kernel)) (fun _ => ?_)
  refine lv_aload_n hx hb d_17_9_155 rfl (lv_at hl 3 rfl) ?_
  refine lv_iload_n hx hb d_17_9_156 rfl (lv_at hl 1 rfl) ?_
  refine va_alda hx hb hG.1 hP 0 8 rfl rfl (vin rfl) d_17_9_157 ?_
  refine W.eq (g2 := F0 m 158 ls [.ref (r1 1)]) rfl ?_
  refine lv_iload hx hb d_17_9_158 (lv_at hl 0 rfl) ?_
  refine lv_aload_n hx hb d_17_9_160 rfl (lv_at hl 3 rfl) ?_
  refine lv_iload_n hx hb d_17_9_161 rfl (lv_at hl 1 rfl) ?_
  refine va_alda hx hb hG.1 hP 0 8 rfl rfl (vin rfl) d_17_9_162 ?_
  refine W.eq (g2 := F0 m 163 ls [.ref (r1 1), .int 0, .ref (r1 1)]) rfl ?_
  refine lv_iload hx hb d_17_9_163 (lv_at hl 0 rfl) ?_
  refine va_iald hx hb hG.1 hP 2 0 rfl rfl (vin rfl) d_17_9_165 ?_
  refine nrm (x1 := 0) rfl ?_
  refine lv_aload_n hx hb d_17_9_166 rfl (lv_at hl 3 rfl) ?_
  refine lv_iload_n hx hb d_17_9_167 rfl (lv_at hl 1 rfl) ?_
  refine va_alda hx hb hG.1 hP 0 8 rfl rfl (vin rfl) d_17_9_168 ?_
  refine W.eq (g2 := F0 m 169 ls [.ref (r1 1), .int 0, .int 0, .ref (r1 1)]) rfl ?_
  refine lv_iload_n hx hb d_17_9_169 rfl (lv_at hl 2 rfl) ?_
  refine va_iald hx hb hG.1 hP 2 0 rfl rfl (vin rfl) d_17_9_170 ?_
  refine nrm (x1 := 0) rfl ?_
  refine lv_aload_n hx hb d_17_9_171 rfl (lv_at hl 3 rfl) ?_
  refine lv_iload_n hx hb d_17_9_172 rfl (lv_at hl 2 rfl) ?_
  refine va_alda hx hb hG.1 hP 0 8 rfl rfl (vin rfl) d_17_9_173 ?_
  refine W.eq (g2 := F0 m 174 ls [.ref (r1 5), .int 0, .int 0, .int 0, .ref (r1 1)]) rfl ?_
  refine lv_iload hx hb d_17_9_174 (lv_at hl 0 rfl) ?_
  refine va_iald hx hb hG.1 hP 6 0 rfl rfl (vin rfl) d_17_9_176 ?_
  refine nrm (x1 := 0) rfl ?_
  refine va_mmin hx hb (by rw [hml]; exact hl.1.symm) hown (hts _ w_2304) (hts _ w_550) (hts _ w_18) (hts _ w_min) (Nat.le_of_ble_eq_true rfl) (Nat.le_of_ble_eq_true rfl) (Nat.le_of_ble_eq_true rfl) (Nat.le_of_ble_eq_true rfl) d_17_9_177 ?_
  refine nrm (x1 := 0) (by decide +kernel) ?_
  refine va_mmax hx hb (by rw [hml]; exact hl.1.symm) hown (hts _ w_2305) (hts _ w_630) (hts _ w_18) (hts _ w_max) (Nat.le_of_ble_eq_true rfl) (Nat.le_of_ble_eq_true rfl) (Nat.le_of_ble_eq_true rfl) (Nat.le_of_ble_eq_true rfl) d_17_9_180 ?_
  refine nrm (x1 := 0) (by decide +kernel) ?_
  refine va_iast hx hb hG.1 hP hD hS 2 0 rfl rfl (vin rfl) d_17_9_183 (fun H locs hP hD hS => ?_)
  rw [upd_z] at hP hD
  have hP : va_P z.1 classes [(q0, .inl (z.2 8, 8, .inr (.inr (.inr (.inr (va_up (va_up (va_up (va_up (va_up (va_up (va_up (va_up g91 0 (some (r1 0))) 1 (some (r1 1))) 2 (some (r1 2))) 3 (some (r1 3))) 4 (some (r1 4))) 5 (some (r1 5))) 6 (some (r1 6))) 7 (some (r1 7)))))))), ((r1 0), .inl (z.2 0, 8, .inl (fun _ => 0))), ((r1 1), .inl (z.2 0, 8, .inl (fun _ => 0))), ((r1 2), .inl (z.2 0, 8, .inl (fun _ => 0))), ((r1 3), .inl (z.2 0, 8, .inl (fun _ => 0))), ((r1 4), .inl (z.2 0, 8, .inl (fun _ => 0))), ((r1 5), .inl (z.2 0, 8, .inl (fun _ => 0))), ((r1 6), .inl (z.2 0, 8, .inl (fun _ => 0))), ((r1 7), .inl (z.2 0, 8, .inl (fun _ => 0))), (a0, .inr (14, [.ref a1, .int 0, .ref a2, .ref a3, .int 0, .ref a4, .ref q0]))] H := hP
  have hD : va_D A [(q0, .inl (z.2 8, 8, .inr (.inr (.inr (.inr (va_up (va_up (va_up (va_up (va_up (va_up (va_up (va_up g91 0 (some (r1 0))) 1 (some (r1 1))) 2 (some (r1 2))) 3 (some (r1 3))) 4 (some (r1 4))) 5 (some (r1 5))) 6 (some (r1 6))) 7 (some (r1 7)))))))), ((r1 0), .inl (z.2 0, 8, .inl (fun _ => 0))), ((r1 1), .inl (z.2 0, 8, .inl (fun _ => 0))), ((r1 2), .inl (z.2 0, 8, .inl (fun _ => 0))), ((r1 3), .inl (z.2 0, 8, .inl (fun _ => 0))), ((r1 4), .inl (z.2 0, 8, .inl (fun _ => 0))), ((r1 5), .inl (z.2 0, 8, .inl (fun _ => 0))), ((r1 6), .inl (z.2 0, 8, .inl (fun _ => 0))), ((r1 7), .inl (z.2 0, 8, .inl (fun _ => 0))), (a0, .inr (14, [.ref a1, .int 0, .ref a2, .ref a3, .int 0, .ref a4, .ref q0]))] := hD
  refine lv_iinc (v := 1) (lv' := [(4, .int 1), (3, .int 1), (2, .int 5), (1, .ref q0), (0, .ref a0)]) hx hb d_17_9_184 hl (k := 0) rfl (by decide +kernel) (by decide) rfl (fun ls hl => ?_)
  refine lv_goto (tgt := 131) hx hb d_17_9_187 (by decide) ?_
  refine lv_iload hx hb d_17_9_131 (lv_at hl 0 rfl) ?_
  refine lv_bipush (v := 8) hx hb d_17_9_133 (by decide +kernel) ?_
  refine lv_icmp_ge (tgt := 190) hx hb d_17_9_135 (by decide) (fun c9 => absurd c9 (by decide +kernel)) (fun _ => ?_)
  refine lv_iload_n hx hb d_17_9_138 rfl (lv_at hl 1 rfl) ?_
  refine lv_iload hx hb d_17_9_139 (lv_at hl 0 rfl) ?_
  refine lv_icmp_eq (tgt := 184) hx hb d_17_9_141 (by decide) (fun _ => ?_) (fun c9 => absurd (by decide +kernel) c9)
  refine lv_iinc (v := 2) (lv' := [(4, .int 2), (3, .int 1), (2, .int 5), (1, .ref q0), (0, .ref a0)]) hx hb d_17_9_184 hl (k := 0) rfl (by decide +kernel) (by decide) rfl (fun ls hl => ?_)
  refine lv_goto (tgt := 131) hx hb d_17_9_187 (by decide) ?_
  refine lv_iload hx hb d_17_9_131 (lv_at hl 0 rfl) ?_
  refine lv_bipush (v := 8) hx hb d_17_9_133 (by decide +kernel) ?_
  refine lv_icmp_ge (tgt := 190) hx hb d_17_9_135 (by decide) (fun c9 => absurd c9 (by decide +kernel)) (fun _ => ?_)
  refine lv_iload_n hx hb d_17_9_138 rfl (lv_at hl 1 rfl) ?_
  refine lv_iload hx hb d_17_9_139 (lv_at hl 0 rfl) ?_
  refine lv_icmp_eq (tgt := 184) hx hb d_17_9_141 (by decide) (fun c9 => absurd c9 (by decide +kernel)) (fun _ => ?_)
  refine lv_iload_n hx hb d_17_9_144 rfl (lv_at hl 1 rfl) ?_
  refine lv_iload_n hx hb d_17_9_145 rfl (lv_at hl 2 rfl) ?_
  refine lv_icmp_eq (tgt := 184) hx hb d_17_9_146 (by decide) (fun c9 => absurd c9 (by decide +kernel)) (fun _ => ?_)
  refine lv_iload hx hb d_17_9_149 (lv_at hl 0 rfl) ?_
  refine lv_iload_n hx hb d_17_9_151 rfl (lv_at hl 2 rfl) ?_
  refine lv_icmp_eq (tgt := 184) hx hb d_17_9_152 (by decide) (fun c9 => absurd c9 (by decide +kernel)) (fun _ => ?_)
  refine lv_aload_n hx hb d_17_9_155 rfl (lv_at hl 3 rfl) ?_
  refine lv_iload_n hx hb d_17_9_156 rfl (lv_at hl 1 rfl) ?_
  refine va_alda hx hb hG.1 hP 0 8 rfl rfl (vin rfl) d_17_9_157 ?_
  refine W.eq (g2 := F0 m 158 ls [.ref (r1 1)]) rfl ?_
  refine lv_iload hx hb d_17_9_158 (lv_at hl 0 rfl) ?_
  refine lv_aload_n hx hb d_17_9_160 rfl (lv_at hl 3 rfl) ?_
  refine lv_iload_n hx hb d_17_9_161 rfl (lv_at hl 1 rfl) ?_
  refine va_alda hx hb hG.1 hP 0 8 rfl rfl (vin rfl) d_17_9_162 ?_
  refine W.eq (g2 := F0 m 163 ls [.ref (r1 1), .int 2, .ref (r1 1)]) rfl ?_
  refine lv_iload hx hb d_17_9_163 (lv_at hl 0 rfl) ?_
  refine va_iald hx hb hG.1 hP 2 0 rfl rfl (vin rfl) d_17_9_165 ?_
  refine nrm (x1 := 0) rfl ?_
  refine lv_aload_n hx hb d_17_9_166 rfl (lv_at hl 3 rfl) ?_
  refine lv_iload_n hx hb d_17_9_167 rfl (lv_at hl 1 rfl) ?_
  refine va_alda hx hb hG.1 hP 0 8 rfl rfl (vin rfl) d_17_9_168 ?_
  refine W.eq (g2 := F0 m 169 ls [.ref (r1 1), .int 0, .int 2, .ref (r1 1)]) rfl ?_
  refine lv_iload_n hx hb d_17_9_169 rfl (lv_at hl 2 rfl) ?_
  refine va_iald hx hb hG.1 hP 2 0 rfl rfl (vin rfl) d_17_9_170 ?_
  refine nrm (x1 := 0) rfl ?_
  refine lv_aload_n hx hb d_17_9_171 rfl (lv_at hl 3 rfl) ?_
  refine lv_iload_n hx hb d_17_9_172 rfl (lv_at hl 2 rfl) ?_
  refine va_alda hx hb hG.1 hP 0 8 rfl rfl (vin rfl) d_17_9_173 ?_
  refine W.eq (g2 := F0 m 174 ls [.ref (r1 5), .int 0, .int 0, .int 2, .ref (r1 1)]) rfl ?_
  refine lv_iload hx hb d_17_9_174 (lv_at hl 0 rfl) ?_
  refine va_iald hx hb hG.1 hP 6 0 rfl rfl (vin rfl) d_17_9_176 ?_
  refine nrm (x1 := 0) rfl ?_
  refine va_mmin hx hb (by rw [hml]; exact hl.1.symm) hown (hts _ w_2304) (hts _ w_550) (hts _ w_18) (hts _ w_min) (Nat.le_of_ble_eq_true rfl) (Nat.le_of_ble_eq_true rfl) (Nat.le_of_ble_eq_true rfl) (Nat.le_of_ble_eq_true rfl) d_17_9_177 ?_
  refine nrm (x1 := 0) (by decide +kernel) ?_
  refine va_mmax hx hb (by rw [hml]; exact hl.1.symm) hown (hts _ w_2305) (hts _ w_630) (hts _ w_18) (hts _ w_max) (Nat.le_of_ble_eq_true rfl) (Nat.le_of_ble_eq_true rfl) (Nat.le_of_ble_eq_true rfl) (Nat.le_of_ble_eq_true rfl) d_17_9_180 ?_
  refine nrm (x1 := 0) (by decide +kernel) ?_
  refine va_iast hx hb hG.1 hP hD hS 2 0 rfl rfl (vin rfl) d_17_9_183 (fun H locs hP hD hS => ?_)
  rw [upd_z] at hP hD
  have hP : va_P z.1 classes [(q0, .inl (z.2 8, 8, .inr (.inr (.inr (.inr (va_up (va_up (va_up (va_up (va_up (va_up (va_up (va_up g91 0 (some (r1 0))) 1 (some (r1 1))) 2 (some (r1 2))) 3 (some (r1 3))) 4 (some (r1 4))) 5 (some (r1 5))) 6 (some (r1 6))) 7 (some (r1 7)))))))), ((r1 0), .inl (z.2 0, 8, .inl (fun _ => 0))), ((r1 1), .inl (z.2 0, 8, .inl (fun _ => 0))), ((r1 2), .inl (z.2 0, 8, .inl (fun _ => 0))), ((r1 3), .inl (z.2 0, 8, .inl (fun _ => 0))), ((r1 4), .inl (z.2 0, 8, .inl (fun _ => 0))), ((r1 5), .inl (z.2 0, 8, .inl (fun _ => 0))), ((r1 6), .inl (z.2 0, 8, .inl (fun _ => 0))), ((r1 7), .inl (z.2 0, 8, .inl (fun _ => 0))), (a0, .inr (14, [.ref a1, .int 0, .ref a2, .ref a3, .int 0, .ref a4, .ref q0]))] H := hP
  have hD : va_D A [(q0, .inl (z.2 8, 8, .inr (.inr (.inr (.inr (va_up (va_up (va_up (va_up (va_up (va_up (va_up (va_up g91 0 (some (r1 0))) 1 (some (r1 1))) 2 (some (r1 2))) 3 (some (r1 3))) 4 (some (r1 4))) 5 (some (r1 5))) 6 (some (r1 6))) 7 (some (r1 7)))))))), ((r1 0), .inl (z.2 0, 8, .inl (fun _ => 0))), ((r1 1), .inl (z.2 0, 8, .inl (fun _ => 0))), ((r1 2), .inl (z.2 0, 8, .inl (fun _ => 0))), ((r1 3), .inl (z.2 0, 8, .inl (fun _ => 0))), ((r1 4), .inl (z.2 0, 8, .inl (fun _ => 0))), ((r1 5), .inl (z.2 0, 8, .inl (fun _ => 0))), ((r1 6), .inl (z.2 0, 8, .inl (fun _ => 0))), ((r1 7), .inl (z.2 0, 8, .inl (fun _ => 0))), (a0, .inr (14, [.ref a1, .int 0, .ref a2, .ref a3, .int 0, .ref a4, .ref q0]))] := hD
  refine lv_iinc (v := 3) (lv' := [(4, .int 3), (3, .int 1), (2, .int 5), (1, .ref q0), (0, .ref a0)]) hx hb d_17_9_184 hl (k := 0) rfl (by decide +kernel) (by decide) rfl (fun ls hl => ?_)
  refine lv_goto (tgt := 131) hx hb d_17_9_187 (by decide) ?_
  refine lv_iload hx hb d_17_9_131 (lv_at hl 0 rfl) ?_
  refine lv_bipush (v := 8) hx hb d_17_9_133 (by decide +kernel) ?_
  refine lv_icmp_ge (tgt := 190) hx hb d_17_9_135 (by decide) (fun c9 => absurd c9 (by decide +kernel)) (fun _ => ?_)
  refine lv_iload_n hx hb d_17_9_138 rfl (lv_at hl 1 rfl) ?_
  refine lv_iload hx hb d_17_9_139 (lv_at hl 0 rfl) ?_
  refine lv_icmp_eq (tgt := 184) hx hb d_17_9_141 (by decide) (fun c9 => absurd c9 (by decide +kernel)) (fun _ => ?_)
  refine lv_iload_n hx hb d_17_9_144 rfl (lv_at hl 1 rfl) ?_
  refine lv_iload_n hx hb d_17_9_145 rfl (lv_at hl 2 rfl) ?_
  refine lv_icmp_eq (tgt := 184) hx hb d_17_9_146 (by decide) (fun c9 => absurd c9 (by decide +kernel)) (fun _ => ?_)
  refine lv_iload hx hb d_17_9_149 (lv_at hl 0 rfl) ?_
  refine lv_iload_n hx hb d_17_9_151 rfl (lv_at hl 2 rfl) ?_
  refine lv_icmp_eq (tgt := 184) hx hb d_17_9_152 (by decide) (fun c9 => absurd c9 (by decide +kernel)) (fun _ => ?_)
  refine lv_aload_n hx hb d_17_9_155 rfl (lv_at hl 3 rfl) ?_
  refine lv_iload_n hx hb d_17_9_156 rfl (lv_at hl 1 rfl) ?_
  refine va_alda hx hb hG.1 hP 0 8 rfl rfl (vin rfl) d_17_9_157 ?_
  refine W.eq (g2 := F0 m 158 ls [.ref (r1 1)]) rfl ?_
  refine lv_iload hx hb d_17_9_158 (lv_at hl 0 rfl) ?_
  refine lv_aload_n hx hb d_17_9_160 rfl (lv_at hl 3 rfl) ?_
  refine lv_iload_n hx hb d_17_9_161 rfl (lv_at hl 1 rfl) ?_
  refine va_alda hx hb hG.1 hP 0 8 rfl rfl (vin rfl) d_17_9_162 ?_
  refine W.eq (g2 := F0 m 163 ls [.ref (r1 1), .int 3, .ref (r1 1)]) rfl ?_
  refine lv_iload hx hb d_17_9_163 (lv_at hl 0 rfl) ?_
  refine va_iald hx hb hG.1 hP 2 0 rfl rfl (vin rfl) d_17_9_165 ?_
  refine nrm (x1 := 0) rfl ?_
  refine lv_aload_n hx hb d_17_9_166 rfl (lv_at hl 3 rfl) ?_
  refine lv_iload_n hx hb d_17_9_167 rfl (lv_at hl 1 rfl) ?_
  refine va_alda hx hb hG.1 hP 0 8 rfl rfl (vin rfl) d_17_9_168 ?_
  refine W.eq (g2 := F0 m 169 ls [.ref (r1 1), .int 0, .int 3, .ref (r1 1)]) rfl ?_
  refine lv_iload_n hx hb d_17_9_169 rfl (lv_at hl 2 rfl) ?_
  refine va_iald hx hb hG.1 hP 2 0 rfl rfl (vin rfl) d_17_9_170 ?_
  refine nrm (x1 := 0) rfl ?_
  refine lv_aload_n hx hb d_17_9_171 rfl (lv_at hl 3 rfl) ?_
  refine lv_iload_n hx hb d_17_9_172 rfl (lv_at hl 2 rfl) ?_
  refine va_alda hx hb hG.1 hP 0 8 rfl rfl (vin rfl) d_17_9_173 ?_
  refine W.eq (g2 := F0 m 174 ls [.ref (r1 5), .int 0, .int 0, .int 3, .ref (r1 1)]) rfl ?_
  refine lv_iload hx hb d_17_9_174 (lv_at hl 0 rfl) ?_
  refine va_iald hx hb hG.1 hP 6 0 rfl rfl (vin rfl) d_17_9_176 ?_
  refine nrm (x1 := 0) rfl ?_
  refine va_mmin hx hb (by rw [hml]; exact hl.1.symm) hown (hts _ w_2304) (hts _ w_550) (hts _ w_18) (hts _ w_min) (Nat.le_of_ble_eq_true rfl) (Nat.le_of_ble_eq_true rfl) (Nat.le_of_ble_eq_true rfl) (Nat.le_of_ble_eq_true rfl) d_17_9_177 ?_
  refine nrm (x1 := 0) (by decide +kernel) ?_
  refine va_mmax hx hb (by rw [hml]; exact hl.1.symm) hown (hts _ w_2305) (hts _ w_630) (hts _ w_18) (hts _ w_max) (Nat.le_of_ble_eq_true rfl) (Nat.le_of_ble_eq_true rfl) (Nat.le_of_ble_eq_true rfl) (Nat.le_of_ble_eq_true rfl) d_17_9_180 ?_
  refine nrm (x1 := 0) (by decide +kernel) ?_
  refine va_iast hx hb hG.1 hP hD hS 2 0 rfl rfl (vin rfl) d_17_9_183 (fun H locs hP hD hS => ?_)
  rw [upd_z] at hP hD
  have hP : va_P z.1 classes [(q0, .inl (z.2 8, 8, .inr (.inr (.inr (.inr (va_up (va_up (va_up (va_up (va_up (va_up (va_up (va_up g91 0 (some (r1 0))) 1 (some (r1 1))) 2 (some (r1 2))) 3 (some (r1 3))) 4 (some (r1 4))) 5 (some (r1 5))) 6 (some (r1 6))) 7 (some (r1 7)))))))), ((r1 0), .inl (z.2 0, 8, .inl (fun _ => 0))), ((r1 1), .inl (z.2 0, 8, .inl (fun _ => 0))), ((r1 2), .inl (z.2 0, 8, .inl (fun _ => 0))), ((r1 3), .inl (z.2 0, 8, .inl (fun _ => 0))), ((r1 4), .inl (z.2 0, 8, .inl (fun _ => 0))), ((r1 5), .inl (z.2 0, 8, .inl (fun _ => 0))), ((r1 6), .inl (z.2 0, 8, .inl (fun _ => 0))), ((r1 7), .inl (z.2 0, 8, .inl (fun _ => 0))), (a0, .inr (14, [.ref a1, .int 0, .ref a2, .ref a3, .int 0, .ref a4, .ref q0]))] H := hP
  have hD : va_D A [(q0, .inl (z.2 8, 8, .inr (.inr (.inr (.inr (va_up (va_up (va_up (va_up (va_up (va_up (va_up (va_up g91 0 (some (r1 0))) 1 (some (r1 1))) 2 (some (r1 2))) 3 (some (r1 3))) 4 (some (r1 4))) 5 (some (r1 5))) 6 (some (r1 6))) 7 (some (r1 7)))))))), ((r1 0), .inl (z.2 0, 8, .inl (fun _ => 0))), ((r1 1), .inl (z.2 0, 8, .inl (fun _ => 0))), ((r1 2), .inl (z.2 0, 8, .inl (fun _ => 0))), ((r1 3), .inl (z.2 0, 8, .inl (fun _ => 0))), ((r1 4), .inl (z.2 0, 8, .inl (fun _ => 0))), ((r1 5), .inl (z.2 0, 8, .inl (fun _ => 0))), ((r1 6), .inl (z.2 0, 8, .inl (fun _ => 0))), ((r1 7), .inl (z.2 0, 8, .inl (fun _ => 0))), (a0, .inr (14, [.ref a1, .int 0, .ref a2, .ref a3, .int 0, .ref a4, .ref q0]))] := hD
  refine lv_iinc (v := 4) (lv' := [(4, .int 4), (3, .int 1), (2, .int 5), (1, .ref q0), (0, .ref a0)]) hx hb d_17_9_184 hl (k := 0) rfl (by decide +kernel) (by decide) rfl (fun ls hl => ?_)
  refine lv_goto (tgt := 131) hx hb d_17_9_187 (by decide) ?_
  refine lv_iload hx hb d_17_9_131 (lv_at hl 0 rfl) ?_
  refine lv_bipush (v := 8) hx hb d_17_9_133 (by decide +kernel) ?_
  refine lv_icmp_ge (tgt := 190) hx hb d_17_9_135 (by decide) (fun c9 => absurd c9 (by decide +kernel)) (fun _ => ?_)
  refine lv_iload_n hx hb d_17_9_138 rfl (lv_at hl 1 rfl) ?_
  refine lv_iload hx hb d_17_9_139 (lv_at hl 0 rfl) ?_
  refine lv_icmp_eq (tgt := 184) hx hb d_17_9_141 (by decide) (fun c9 => absurd c9 (by decide +kernel)) (fun _ => ?_)
  refine lv_iload_n hx hb d_17_9_144 rfl (lv_at hl 1 rfl) ?_
  refine lv_iload_n hx hb d_17_9_145 rfl (lv_at hl 2 rfl) ?_
  refine lv_icmp_eq (tgt := 184) hx hb d_17_9_146 (by decide) (fun c9 => absurd c9 (by decide +kernel)) (fun _ => ?_)
  refine lv_iload hx hb d_17_9_149 (lv_at hl 0 rfl) ?_
  refine lv_iload_n hx hb d_17_9_151 rfl (lv_at hl 2 rfl) ?_
  refine lv_icmp_eq (tgt := 184) hx hb d_17_9_152 (by decide) (fun c9 => absurd c9 (by decide +kernel)) (fun _ => ?_)
  refine lv_aload_n hx hb d_17_9_155 rfl (lv_at hl 3 rfl) ?_
  refine lv_iload_n hx hb d_17_9_156 rfl (lv_at hl 1 rfl) ?_
  refine va_alda hx hb hG.1 hP 0 8 rfl rfl (vin rfl) d_17_9_157 ?_
  refine W.eq (g2 := F0 m 158 ls [.ref (r1 1)]) rfl ?_
  refine lv_iload hx hb d_17_9_158 (lv_at hl 0 rfl) ?_
  refine lv_aload_n hx hb d_17_9_160 rfl (lv_at hl 3 rfl) ?_
  refine lv_iload_n hx hb d_17_9_161 rfl (lv_at hl 1 rfl) ?_
  refine va_alda hx hb hG.1 hP 0 8 rfl rfl (vin rfl) d_17_9_162 ?_
  refine W.eq (g2 := F0 m 163 ls [.ref (r1 1), .int 4, .ref (r1 1)]) rfl ?_
  refine lv_iload hx hb d_17_9_163 (lv_at hl 0 rfl) ?_
  refine va_iald hx hb hG.1 hP 2 0 rfl rfl (vin rfl) d_17_9_165 ?_
  refine nrm (x1 := 0) rfl ?_
  refine lv_aload_n hx hb d_17_9_166 rfl (lv_at hl 3 rfl) ?_
  refine lv_iload_n hx hb d_17_9_167 rfl (lv_at hl 1 rfl) ?_
  refine va_alda hx hb hG.1 hP 0 8 rfl rfl (vin rfl) d_17_9_168 ?_
  refine W.eq (g2 := F0 m 169 ls [.ref (r1 1), .int 0, .int 4, .ref (r1 1)]) rfl ?_
  refine lv_iload_n hx hb d_17_9_169 rfl (lv_at hl 2 rfl) ?_
  refine va_iald hx hb hG.1 hP 2 0 rfl rfl (vin rfl) d_17_9_170 ?_
  refine nrm (x1 := 0) rfl ?_
  refine lv_aload_n hx hb d_17_9_171 rfl (lv_at hl 3 rfl) ?_
  refine lv_iload_n hx hb d_17_9_172 rfl (lv_at hl 2 rfl) ?_
  refine va_alda hx hb hG.1 hP 0 8 rfl rfl (vin rfl) d_17_9_173 ?_
  refine W.eq (g2 := F0 m 174 ls [.ref (r1 5), .int 0, .int 0, .int 4, .ref (r1 1)]) rfl ?_
  refine lv_iload hx hb d_17_9_174 (lv_at hl 0 rfl) ?_
  refine va_iald hx hb hG.1 hP 6 0 rfl rfl (vin rfl) d_17_9_176 ?_
  refine nrm (x1 := 0) rfl ?_
  refine va_mmin hx hb (by rw [hml]; exact hl.1.symm) hown (hts _ w_2304) (hts _ w_550) (hts _ w_18) (hts _ w_min) (Nat.le_of_ble_eq_true rfl) (Nat.le_of_ble_eq_true rfl) (Nat.le_of_ble_eq_true rfl) (Nat.le_of_ble_eq_true rfl) d_17_9_177 ?_
  refine nrm (x1 := 0) (by decide +kernel) ?_
  refine va_mmax hx hb (by rw [hml]; exact hl.1.symm) hown (hts _ w_2305) (hts _ w_630) (hts _ w_18) (hts _ w_max) (Nat.le_of_ble_eq_true rfl) (Nat.le_of_ble_eq_true rfl) (Nat.le_of_ble_eq_true rfl) (Nat.le_of_ble_eq_true rfl) d_17_9_180 ?_
  refine nrm (x1 := 0) (by decide +kernel) ?_
  refine va_iast hx hb hG.1 hP hD hS 2 0 rfl rfl (vin rfl) d_17_9_183 (fun H locs hP hD hS => ?_)
  rw [upd_z] at hP hD
  have hP : va_P z.1 classes [(q0, .inl (z.2 8, 8, .inr (.inr (.inr (.inr (va_up (va_up (va_up (va_up (va_up (va_up (va_up (va_up g91 0 (some (r1 0))) 1 (some (r1 1))) 2 (some (r1 2))) 3 (some (r1 3))) 4 (some (r1 4))) 5 (some (r1 5))) 6 (some (r1 6))) 7 (some (r1 7)))))))), ((r1 0), .inl (z.2 0, 8, .inl (fun _ => 0))), ((r1 1), .inl (z.2 0, 8, .inl (fun _ => 0))), ((r1 2), .inl (z.2 0, 8, .inl (fun _ => 0))), ((r1 3), .inl (z.2 0, 8, .inl (fun _ => 0))), ((r1 4), .inl (z.2 0, 8, .inl (fun _ => 0))), ((r1 5), .inl (z.2 0, 8, .inl (fun _ => 0))), ((r1 6), .inl (z.2 0, 8, .inl (fun _ => 0))), ((r1 7), .inl (z.2 0, 8, .inl (fun _ => 0))), (a0, .inr (14, [.ref a1, .int 0, .ref a2, .ref a3, .int 0, .ref a4, .ref q0]))] H := hP
  have hD : va_D A [(q0, .inl (z.2 8, 8, .inr (.inr (.inr (.inr (va_up (va_up (va_up (va_up (va_up (va_up (va_up (va_up g91 0 (some (r1 0))) 1 (some (r1 1))) 2 (some (r1 2))) 3 (some (r1 3))) 4 (some (r1 4))) 5 (some (r1 5))) 6 (some (r1 6))) 7 (some (r1 7)))))))), ((r1 0), .inl (z.2 0, 8, .inl (fun _ => 0))), ((r1 1), .inl (z.2 0, 8, .inl (fun _ => 0))), ((r1 2), .inl (z.2 0, 8, .inl (fun _ => 0))), ((r1 3), .inl (z.2 0, 8, .inl (fun _ => 0))), ((r1 4), .inl (z.2 0, 8, .inl (fun _ => 0))), ((r1 5), .inl (z.2 0, 8, .inl (fun _ => 0))), ((r1 6), .inl (z.2 0, 8, .inl (fun _ => 0))), ((r1 7), .inl (z.2 0, 8, .inl (fun _ => 0))), (a0, .inr (14, [.ref a1, .int 0, .ref a2, .ref a3, .int 0, .ref a4, .ref q0]))] := hD
  refine lv_iinc (v := 5) (lv' := [(4, .int 5), (3, .int 1), (2, .int 5), (1, .ref q0), (0, .ref a0)]) hx hb d_17_9_184 hl (k := 0) rfl (by decide +kernel) (by decide) rfl (fun ls hl => ?_)
  refine lv_goto (tgt := 131) hx hb d_17_9_187 (by decide) ?_
  refine lv_iload hx hb d_17_9_131 (lv_at hl 0 rfl) ?_
  refine lv_bipush (v := 8) hx hb d_17_9_133 (by decide +kernel) ?_
  refine lv_icmp_ge (tgt := 190) hx hb d_17_9_135 (by decide) (fun c9 => absurd c9 (by decide +kernel)) (fun _ => ?_)
  refine lv_iload_n hx hb d_17_9_138 rfl (lv_at hl 1 rfl) ?_
  refine lv_iload hx hb d_17_9_139 (lv_at hl 0 rfl) ?_
  refine lv_icmp_eq (tgt := 184) hx hb d_17_9_141 (by decide) (fun c9 => absurd c9 (by decide +kernel)) (fun _ => ?_)
  refine lv_iload_n hx hb d_17_9_144 rfl (lv_at hl 1 rfl) ?_
  refine lv_iload_n hx hb d_17_9_145 rfl (lv_at hl 2 rfl) ?_
  refine lv_icmp_eq (tgt := 184) hx hb d_17_9_146 (by decide) (fun c9 => absurd c9 (by decide +kernel)) (fun _ => ?_)
  refine lv_iload hx hb d_17_9_149 (lv_at hl 0 rfl) ?_
  refine lv_iload_n hx hb d_17_9_151 rfl (lv_at hl 2 rfl) ?_
  refine lv_icmp_eq (tgt := 184) hx hb d_17_9_152 (by decide) (fun _ => ?_) (fun c9 => absurd (by decide +kernel) c9)
  refine lv_iinc (v := 6) (lv' := [(4, .int 6), (3, .int 1), (2, .int 5), (1, .ref q0), (0, .ref a0)]) hx hb d_17_9_184 hl (k := 0) rfl (by decide +kernel) (by decide) rfl (fun ls hl => ?_)
  refine lv_goto (tgt := 131) hx hb d_17_9_187 (by decide) ?_
  refine lv_iload hx hb d_17_9_131 (lv_at hl 0 rfl) ?_
  refine lv_bipush (v := 8) hx hb d_17_9_133 (by decide +kernel) ?_
  refine lv_icmp_ge (tgt := 190) hx hb d_17_9_135 (by decide) (fun c9 => absurd c9 (by decide +kernel)) (fun _ => ?_)
  refine lv_iload_n hx hb d_17_9_138 rfl (lv_at hl 1 rfl) ?_
  refine lv_iload hx hb d_17_9_139 (lv_at hl 0 rfl) ?_
  refine lv_icmp_eq (tgt := 184) hx hb d_17_9_141 (by decide) (fun c9 => absurd c9 (by decide +kernel)) (fun _ => ?_)
  refine lv_iload_n hx hb d_17_9_144 rfl (lv_at hl 1 rfl) ?_
  refine lv_iload_n hx hb d_17_9_145 rfl (lv_at hl 2 rfl) ?_
  refine lv_icmp_eq (tgt := 184) hx hb d_17_9_146 (by decide) (fun c9 => absurd c9 (by decide +kernel)) (fun _ => ?_)
  refine lv_iload hx hb d_17_9_149 (lv_at hl 0 rfl) ?_
  refine lv_iload_n hx hb d_17_9_151 rfl (lv_at hl 2 rfl) ?_
  refine lv_icmp_eq (tgt := 184) hx hb d_17_9_152 (by decide) (fun c9 => absurd c9 (by decide +kernel)) (fun _ => ?_)
  refine lv_aload_n hx hb d_17_9_155 rfl (lv_at hl 3 rfl) ?_
  refine lv_iload_n hx hb d_17_9_156 rfl (lv_at hl 1 rfl) ?_
  refine va_alda hx hb hG.1 hP 0 8 rfl rfl (vin rfl) d_17_9_157 ?_
  refine W.eq (g2 := F0 m 158 ls [.ref (r1 1)]) rfl ?_
  refine lv_iload hx hb d_17_9_158 (lv_at hl 0 rfl) ?_
  refine lv_aload_n hx hb d_17_9_160 rfl (lv_at hl 3 rfl) ?_
  refine lv_iload_n hx hb d_17_9_161 rfl (lv_at hl 1 rfl) ?_
  refine va_alda hx hb hG.1 hP 0 8 rfl rfl (vin rfl) d_17_9_162 ?_
  refine W.eq (g2 := F0 m 163 ls [.ref (r1 1), .int 6, .ref (r1 1)]) rfl ?_
  refine lv_iload hx hb d_17_9_163 (lv_at hl 0 rfl) ?_
  refine va_iald hx hb hG.1 hP 2 0 rfl rfl (vin rfl) d_17_9_165 ?_
  refine nrm (x1 := 0) rfl ?_
  refine lv_aload_n hx hb d_17_9_166 rfl (lv_at hl 3 rfl) ?_
  refine lv_iload_n hx hb d_17_9_167 rfl (lv_at hl 1 rfl) ?_
  refine va_alda hx hb hG.1 hP 0 8 rfl rfl (vin rfl) d_17_9_168 ?_
  refine W.eq (g2 := F0 m 169 ls [.ref (r1 1), .int 0, .int 6, .ref (r1 1)]) rfl ?_
  refine lv_iload_n hx hb d_17_9_169 rfl (lv_at hl 2 rfl) ?_
  refine va_iald hx hb hG.1 hP 2 0 rfl rfl (vin rfl) d_17_9_170 ?_
  refine nrm (x1 := 0) rfl ?_
  refine lv_aload_n hx hb d_17_9_171 rfl (lv_at hl 3 rfl) ?_
  refine lv_iload_n hx hb d_17_9_172 rfl (lv_at hl 2 rfl) ?_
  refine va_alda hx hb hG.1 hP 0 8 rfl rfl (vin rfl) d_17_9_173 ?_
  refine W.eq (g2 := F0 m 174 ls [.ref (r1 5), .int 0, .int 0, .int 6, .ref (r1 1)]) rfl ?_
  refine lv_iload hx hb d_17_9_174 (lv_at hl 0 rfl) ?_
  refine va_iald hx hb hG.1 hP 6 0 rfl rfl (vin rfl) d_17_9_176 ?_
  refine nrm (x1 := 0) rfl ?_
  refine va_mmin hx hb (by rw [hml]; exact hl.1.symm) hown (hts _ w_2304) (hts _ w_550) (hts _ w_18) (hts _ w_min) (Nat.le_of_ble_eq_true rfl) (Nat.le_of_ble_eq_true rfl) (Nat.le_of_ble_eq_true rfl) (Nat.le_of_ble_eq_true rfl) d_17_9_177 ?_
  refine nrm (x1 := 0) (by decide +kernel) ?_
  refine va_mmax hx hb (by rw [hml]; exact hl.1.symm) hown (hts _ w_2305) (hts _ w_630) (hts _ w_18) (hts _ w_max) (Nat.le_of_ble_eq_true rfl) (Nat.le_of_ble_eq_true rfl) (Nat.le_of_ble_eq_true rfl) (Nat.le_of_ble_eq_true rfl) d_17_9_180 ?_
  refine nrm (x1 := 0) (by decide +kernel) ?_
  refine va_iast hx hb hG.1 hP hD hS 2 0 rfl rfl (vin rfl) d_17_9_183 (fun H locs hP hD hS => ?_)
  rw [upd_z] at hP hD
  have hP : va_P z.1 classes [(q0, .inl (z.2 8, 8, .inr (.inr (.inr (.inr (va_up (va_up (va_up (va_up (va_up (va_up (va_up (va_up g91 0 (some (r1 0))) 1 (some (r1 1))) 2 (some (r1 2))) 3 (some (r1 3))) 4 (some (r1 4))) 5 (some (r1 5))) 6 (some (r1 6))) 7 (some (r1 7)))))))), ((r1 0), .inl (z.2 0, 8, .inl (fun _ => 0))), ((r1 1), .inl (z.2 0, 8, .inl (fun _ => 0))), ((r1 2), .inl (z.2 0, 8, .inl (fun _ => 0))), ((r1 3), .inl (z.2 0, 8, .inl (fun _ => 0))), ((r1 4), .inl (z.2 0, 8, .inl (fun _ => 0))), ((r1 5), .inl (z.2 0, 8, .inl (fun _ => 0))), ((r1 6), .inl (z.2 0, 8, .inl (fun _ => 0))), ((r1 7), .inl (z.2 0, 8, .inl (fun _ => 0))), (a0, .inr (14, [.ref a1, .int 0, .ref a2, .ref a3, .int 0, .ref a4, .ref q0]))] H := hP
  have hD : va_D A [(q0, .inl (z.2 8, 8, .inr (.inr (.inr (.inr (va_up (va_up (va_up (va_up (va_up (va_up (va_up (va_up g91 0 (some (r1 0))) 1 (some (r1 1))) 2 (some (r1 2))) 3 (some (r1 3))) 4 (some (r1 4))) 5 (some (r1 5))) 6 (some (r1 6))) 7 (some (r1 7)))))))), ((r1 0), .inl (z.2 0, 8, .inl (fun _ => 0))), ((r1 1), .inl (z.2 0, 8, .inl (fun _ => 0))), ((r1 2), .inl (z.2 0, 8, .inl (fun _ => 0))), ((r1 3), .inl (z.2 0, 8, .inl (fun _ => 0))), ((r1 4), .inl (z.2 0, 8, .inl (fun _ => 0))), ((r1 5), .inl (z.2 0, 8, .inl (fun _ => 0))), ((r1 6), .inl (z.2 0, 8, .inl (fun _ => 0))), ((r1 7), .inl (z.2 0, 8, .inl (fun _ => 0))), (a0, .inr (14, [.ref a1, .int 0, .ref a2, .ref a3, .int 0, .ref a4, .ref q0]))] := hD
  refine lv_iinc (v := 7) (lv' := [(4, .int 7), (3, .int 1), (2, .int 5), (1, .ref q0), (0, .ref a0)]) hx hb d_17_9_184 hl (k := 0) rfl (by decide +kernel) (by decide) rfl (fun ls hl => ?_)
  refine lv_goto (tgt := 131) hx hb d_17_9_187 (by decide) ?_
  refine lv_iload hx hb d_17_9_131 (lv_at hl 0 rfl) ?_
  refine lv_bipush (v := 8) hx hb d_17_9_133 (by decide +kernel) ?_
  refine lv_icmp_ge (tgt := 190) hx hb d_17_9_135 (by decide) (fun c9 => absurd c9 (by decide +kernel)) (fun _ => ?_)
  refine lv_iload_n hx hb d_17_9_138 rfl (lv_at hl 1 rfl) ?_
  refine lv_iload hx hb d_17_9_139 (lv_at hl 0 rfl) ?_
  refine lv_icmp_eq (tgt := 184) hx hb d_17_9_141 (by decide) (fun c9 => absurd c9 (by decide +kernel)) (fun _ => ?_)
  refine lv_iload_n hx hb d_17_9_144 rfl (lv_at hl 1 rfl) ?_
  refine lv_iload_n hx hb d_17_9_145 rfl (lv_at hl 2 rfl) ?_
  refine lv_icmp_eq (tgt := 184) hx hb d_17_9_146 (by decide) (fun c9 => absurd c9 (by decide +kernel)) (fun _ => ?_)
  refine lv_iload hx hb d_17_9_149 (lv_at hl 0 rfl) ?_
  refine lv_iload_n hx hb d_17_9_151 rfl (lv_at hl 2 rfl) ?_
  refine lv_icmp_eq (tgt := 184) hx hb d_17_9_152 (by decide) (fun c9 => absurd c9 (by decide +kernel)) (fun _ => ?_)
  refine lv_aload_n hx hb d_17_9_155 rfl (lv_at hl 3 rfl) ?_
  refine lv_iload_n hx hb d_17_9_156 rfl (lv_at hl 1 rfl) ?_
  refine va_alda hx hb hG.1 hP 0 8 rfl rfl (vin rfl) d_17_9_157 ?_
  refine W.eq (g2 := F0 m 158 ls [.ref (r1 1)]) rfl ?_
  refine lv_iload hx hb d_17_9_158 (lv_at hl 0 rfl) ?_
  refine lv_aload_n hx hb d_17_9_160 rfl (lv_at hl 3 rfl) ?_
  refine lv_iload_n hx hb d_17_9_161 rfl (lv_at hl 1 rfl) ?_
  refine va_alda hx hb hG.1 hP 0 8 rfl rfl (vin rfl) d_17_9_162 ?_
  refine W.eq (g2 := F0 m 163 ls [.ref (r1 1), .int 7, .ref (r1 1)]) rfl ?_
  refine lv_iload hx hb d_17_9_163 (lv_at hl 0 rfl) ?_
  refine va_iald hx hb hG.1 hP 2 0 rfl rfl (vin rfl) d_17_9_165 ?_
  refine nrm (x1 := 0) rfl ?_
  refine lv_aload_n hx hb d_17_9_166 rfl (lv_at hl 3 rfl) ?_
  refine lv_iload_n hx hb d_17_9_167 rfl (lv_at hl 1 rfl) ?_
  refine va_alda hx hb hG.1 hP 0 8 rfl rfl (vin rfl) d_17_9_168 ?_
  refine W.eq (g2 := F0 m 169 ls [.ref (r1 1), .int 0, .int 7, .ref (r1 1)]) rfl ?_
  refine lv_iload_n hx hb d_17_9_169 rfl (lv_at hl 2 rfl) ?_
  refine va_iald hx hb hG.1 hP 2 0 rfl rfl (vin rfl) d_17_9_170 ?_
  refine nrm (x1 := 0) rfl ?_
  refine lv_aload_n hx hb d_17_9_171 rfl (lv_at hl 3 rfl) ?_
  refine lv_iload_n hx hb d_17_9_172 rfl (lv_at hl 2 rfl) ?_
  refine va_alda hx hb hG.1 hP 0 8 rfl rfl (vin rfl) d_17_9_173 ?_
  refine W.eq (g2 := F0 m 174 ls [.ref (r1 5), .int 0, .int 0, .int 7, .ref (r1 1)]) rfl ?_
  refine lv_iload hx hb d_17_9_174 (lv_at hl 0 rfl) ?_
  refine va_iald hx hb hG.1 hP 6 0 rfl rfl (vin rfl) d_17_9_176 ?_
  refine nrm (x1 := 0) rfl ?_
  refine va_mmin hx hb (by rw [hml]; exact hl.1.symm) hown (hts _ w_2304) (hts _ w_550) (hts _ w_18) (hts _ w_min) (Nat.le_of_ble_eq_true rfl) (Nat.le_of_ble_eq_true rfl) (Nat.le_of_ble_eq_true rfl) (Nat.le_of_ble_eq_true rfl) d_17_9_177 ?_
  refine nrm (x1 := 0) (by decide +kernel) ?_
  refine va_mmax hx hb (by rw [hml]; exact hl.1.symm) hown (hts _ w_2305) (hts _ w_630) (hts _ w_18) (hts _ w_max) (Nat.le_of_ble_eq_true rfl) (Nat.le_of_ble_eq_true rfl) (Nat.le_of_ble_eq_true rfl) (Nat.le_of_ble_eq_true rfl) d_17_9_180 ?_
  refine nrm (x1 := 0) (by decide +kernel) ?_
  refine va_iast hx hb hG.1 hP hD hS 2 0 rfl rfl (vin rfl) d_17_9_183 (fun H locs hP hD hS => ?_)
  rw [upd_z] at hP hD
  have hP : va_P z.1 classes [(q0, .inl (z.2 8, 8, .inr (.inr (.inr (.inr (va_up (va_up (va_up (va_up (va_up (va_up (va_up (va_up g91 0 (some (r1 0))) 1 (some (r1 1))) 2 (some (r1 2))) 3 (some (r1 3))) 4 (some (r1 4))) 5 (some (r1 5))) 6 (some (r1 6))) 7 (some (r1 7)))))))), ((r1 0), .inl (z.2 0, 8, .inl (fun _ => 0))), ((r1 1), .inl (z.2 0, 8, .inl (fun _ => 0))), ((r1 2), .inl (z.2 0, 8, .inl (fun _ => 0))), ((r1 3), .inl (z.2 0, 8, .inl (fun _ => 0))), ((r1 4), .inl (z.2 0, 8, .inl (fun _ => 0))), ((r1 5), .inl (z.2 0, 8, .inl (fun _ => 0))), ((r1 6), .inl (z.2 0, 8, .inl (fun _ => 0))), ((r1 7), .inl (z.2 0, 8, .inl (fun _ => 0))), (a0, .inr (14, [.ref a1, .int 0, .ref a2, .ref a3, .int 0, .ref a4, .ref q0]))] H := hP
  have hD : va_D A [(q0, .inl (z.2 8, 8, .inr (.inr (.inr (.inr (va_up (va_up (va_up (va_up (va_up (va_up (va_up (va_up g91 0 (some (r1 0))) 1 (some (r1 1))) 2 (some (r1 2))) 3 (some (r1 3))) 4 (some (r1 4))) 5 (some (r1 5))) 6 (some (r1 6))) 7 (some (r1 7)))))))), ((r1 0), .inl (z.2 0, 8, .inl (fun _ => 0))), ((r1 1), .inl (z.2 0, 8, .inl (fun _ => 0))), ((r1 2), .inl (z.2 0, 8, .inl (fun _ => 0))), ((r1 3), .inl (z.2 0, 8, .inl (fun _ => 0))), ((r1 4), .inl (z.2 0, 8, .inl (fun _ => 0))), ((r1 5), .inl (z.2 0, 8, .inl (fun _ => 0))), ((r1 6), .inl (z.2 0, 8, .inl (fun _ => 0))), ((r1 7), .inl (z.2 0, 8, .inl (fun _ => 0))), (a0, .inr (14, [.ref a1, .int 0, .ref a2, .ref a3, .int 0, .ref a4, .ref q0]))] := hD
  refine lv_iinc (v := 8) (lv' := [(4, .int 8), (3, .int 1), (2, .int 5), (1, .ref q0), (0, .ref a0)]) hx hb d_17_9_184 hl (k := 0) rfl (by decide +kernel) (by decide) rfl (fun ls hl => ?_)
  refine lv_goto (tgt := 131) hx hb d_17_9_187 (by decide) ?_
  refine lv_iload hx hb d_17_9_131 (lv_at hl 0 rfl) ?_
  refine lv_bipush (v := 8) hx hb d_17_9_133 (by decide +kernel) ?_
  refine lv_icmp_ge (tgt := 190) hx hb d_17_9_135 (by decide) (fun _ => ?_) (fun c9 => absurd (by decide +kernel) c9)
  refine lv_iinc (v := 2) (lv' := [(3, .int 2), (4, .int 8), (2, .int 5), (1, .ref q0), (0, .ref a0)]) hx hb d_17_9_190 hl (k := 1) rfl (by decide +kernel) (by decide) rfl (fun ls hl => ?_)
  refine lv_goto (tgt := 122) hx hb d_17_9_193 (by decide) ?_
  refine W.widen (k := 9) (n := 72) (Nat.le_of_ble_eq_true rfl) (Nat.le_of_ble_eq_true rfl) ?_
  exact hk H locs ls hP hD hS hl
set_option maxRecDepth 100000 in
set_option maxHeartbeats 4000000 in
theorem s366_paths (l : Launch) (z : Zz) (a0 : Nat) (a1 : Nat) (a2 : Nat) (a3 : Nat) (a4 : Nat) (g91 : Nat → Option Nat) (q0 : Nat) (r1 : Nat → Nat) {p : Program} {e : Env} {s : State} {m : MethodId} {below : List Frame} {meth : Method} {c : Code} {A : Nat → Prop} {Q : State → Prop} (hx : p.tables.exec = Jvm.exec) (hb : c.code = prog_17_method_9_code) (hml : c.maxLocals = 5) (hts : ∀ w ∈ WG, w.before ([.ref a0] : List Value).toArray s = true) (hown : s.vm.findClass "BallothallModel$Poll" = some m.cls) (hA : ∀ q, s.heap.size ≤ q → A q) (hG : KG z s) (hZ : XZ A s) (hk : ∀ (H : Heap) (locs : List Loc) (ls : Array Slot), va_P z.1 classes [(q0, .inl (z.2 8, 8, .inr (.inr (.inr (.inr (va_up (va_up (va_up (va_up (va_up (va_up (va_up (va_up g91 0 (some (r1 0))) 1 (some (r1 1))) 2 (some (r1 2))) 3 (some (r1 3))) 4 (some (r1 4))) 5 (some (r1 5))) 6 (some (r1 6))) 7 (some (r1 7)))))))), ((r1 0), .inl (z.2 0, 8, .inl (fun _ => 0))), ((r1 1), .inl (z.2 0, 8, .inl (fun _ => 0))), ((r1 2), .inl (z.2 0, 8, .inl (fun _ => 0))), ((r1 3), .inl (z.2 0, 8, .inl (fun _ => 0))), ((r1 4), .inl (z.2 0, 8, .inl (fun _ => 0))), ((r1 5), .inl (z.2 0, 8, .inl (fun _ => 0))), ((r1 6), .inl (z.2 0, 8, .inl (fun _ => 0))), ((r1 7), .inl (z.2 0, 8, .inl (fun _ => 0))), (a0, .inr (14, [.ref a1, .int 0, .ref a2, .ref a3, .int 0, .ref a4, .ref q0]))] H → va_D A [(q0, .inl (z.2 8, 8, .inr (.inr (.inr (.inr (va_up (va_up (va_up (va_up (va_up (va_up (va_up (va_up g91 0 (some (r1 0))) 1 (some (r1 1))) 2 (some (r1 2))) 3 (some (r1 3))) 4 (some (r1 4))) 5 (some (r1 5))) 6 (some (r1 6))) 7 (some (r1 7)))))))), ((r1 0), .inl (z.2 0, 8, .inl (fun _ => 0))), ((r1 1), .inl (z.2 0, 8, .inl (fun _ => 0))), ((r1 2), .inl (z.2 0, 8, .inl (fun _ => 0))), ((r1 3), .inl (z.2 0, 8, .inl (fun _ => 0))), ((r1 4), .inl (z.2 0, 8, .inl (fun _ => 0))), ((r1 5), .inl (z.2 0, 8, .inl (fun _ => 0))), ((r1 6), .inl (z.2 0, 8, .inl (fun _ => 0))), ((r1 7), .inl (z.2 0, 8, .inl (fun _ => 0))), (a0, .inr (14, [.ref a1, .int 0, .ref a2, .ref a3, .int 0, .ref a4, .ref q0]))] → va_S A s.heap H locs → lv_has ls 5 [(3, .int 3), (4, .int 8), (2, .int 5), (1, .ref q0), (0, .ref a0)] → W p l e (rmK 1 29 9 72) s m ([.ref a0] : List Value).toArray below meth c H locs 9 72 Q (F0 m 122 ls [])) (H : Heap) (locs : List Loc) (ls : Array Slot) (hP : va_P z.1 classes [(q0, .inl (z.2 8, 8, .inr (.inr (.inr (.inr (va_up (va_up (va_up (va_up (va_up (va_up (va_up (va_up g91 0 (some (r1 0))) 1 (some (r1 1))) 2 (some (r1 2))) 3 (some (r1 3))) 4 (some (r1 4))) 5 (some (r1 5))) 6 (some (r1 6))) 7 (some (r1 7)))))))), ((r1 0), .inl (z.2 0, 8, .inl (fun _ => 0))), ((r1 1), .inl (z.2 0, 8, .inl (fun _ => 0))), ((r1 2), .inl (z.2 0, 8, .inl (fun _ => 0))), ((r1 3), .inl (z.2 0, 8, .inl (fun _ => 0))), ((r1 4), .inl (z.2 0, 8, .inl (fun _ => 0))), ((r1 5), .inl (z.2 0, 8, .inl (fun _ => 0))), ((r1 6), .inl (z.2 0, 8, .inl (fun _ => 0))), ((r1 7), .inl (z.2 0, 8, .inl (fun _ => 0))), (a0, .inr (14, [.ref a1, .int 0, .ref a2, .ref a3, .int 0, .ref a4, .ref q0]))] H) (hD : va_D A [(q0, .inl (z.2 8, 8, .inr (.inr (.inr (.inr (va_up (va_up (va_up (va_up (va_up (va_up (va_up (va_up g91 0 (some (r1 0))) 1 (some (r1 1))) 2 (some (r1 2))) 3 (some (r1 3))) 4 (some (r1 4))) 5 (some (r1 5))) 6 (some (r1 6))) 7 (some (r1 7)))))))), ((r1 0), .inl (z.2 0, 8, .inl (fun _ => 0))), ((r1 1), .inl (z.2 0, 8, .inl (fun _ => 0))), ((r1 2), .inl (z.2 0, 8, .inl (fun _ => 0))), ((r1 3), .inl (z.2 0, 8, .inl (fun _ => 0))), ((r1 4), .inl (z.2 0, 8, .inl (fun _ => 0))), ((r1 5), .inl (z.2 0, 8, .inl (fun _ => 0))), ((r1 6), .inl (z.2 0, 8, .inl (fun _ => 0))), ((r1 7), .inl (z.2 0, 8, .inl (fun _ => 0))), (a0, .inr (14, [.ref a1, .int 0, .ref a2, .ref a3, .int 0, .ref a4, .ref q0]))]) (hS : va_S A s.heap H locs) (hl : lv_has ls 5 [(3, .int 2), (4, .int 8), (2, .int 5), (1, .ref q0), (0, .ref a0)]) : W p l e (rmK 1 29 9 72) s m ([.ref a0] : List Value).toArray below meth c H locs 9 72 Q (F0 m 122 ls []) := by
  refine lv_iload_n hx hb d_17_9_122 rfl (lv_at hl 0 rfl) ?_
  refine lv_bipush (v := 8) hx hb d_17_9_123 (by decide +kernel) ?_
  refine lv_icmp_ge (tgt := 196) hx hb d_17_9_125 (by decide) (fun c9 => absurd c9 (by decide +kernel)) (fun _ => ?_)
  refine lv_iconst (v := 0) hx hb d_17_9_128 (by decide +kernel) ?_
  refine lv_istore (lv' := [(4, .int 0), (3, .int 2), (2, .int 5), (1, .ref q0), (0, .ref a0)]) hx hb d_17_9_129 hl (by decide) rfl (fun ls hl => ?_)
  refine lv_iload hx hb d_17_9_131 (lv_at hl 0 rfl) ?_
  refine lv_bipush (v := 8) hx hb d_17_9_133 (by decide +kernel) ?_
  refine lv_icmp_ge (tgt := 190) hx hb d_17_9_135 (by decide) (fun c9 => absurd c9 (by decide +kernel)) (fun _ => ?_)
  refine lv_iload_n hx hb d_17_9_138 rfl (lv_at hl 1 rfl) ?_
  refine lv_iload hx hb d_17_9_139 (lv_at hl 0 rfl) ?_
  refine lv_icmp_eq (tgt := 184) hx hb d_17_9_141 (by decide) (fun c9 => absurd c9 (by decide +kernel)) (fun _ => ?_)
  refine lv_iload_n hx hb d_17_9_144 rfl (lv_at hl 1 rfl) ?_
  refine lv_iload_n hx hb d_17_9_145 rfl (lv_at hl 2 rfl) ?_
  refine lv_icmp_eq (tgt := 184) hx hb d_17_9_146 (by decide) (fun c9 => absurd c9 (by decide +kernel)) (fun _ => ?_)
  refine lv_iload hx hb d_17_9_149 (lv_at hl 0 rfl) ?_
  refine lv_iload_n hx hb d_17_9_151 rfl (lv_at hl 2 rfl) ?_
  refine lv_icmp_eq (tgt := 184) hx hb d_17_9_152 (by decide) (fun c9 => absurd c9 (by decide +kernel)) (fun _ => ?_)
  refine lv_aload_n hx hb d_17_9_155 rfl (lv_at hl 3 rfl) ?_
  refine lv_iload_n hx hb d_17_9_156 rfl (lv_at hl 1 rfl) ?_
  refine va_alda hx hb hG.1 hP 0 8 rfl rfl (vin rfl) d_17_9_157 ?_
  refine W.eq (g2 := F0 m 158 ls [.ref (r1 2)]) rfl ?_
  refine lv_iload hx hb d_17_9_158 (lv_at hl 0 rfl) ?_
  refine lv_aload_n hx hb d_17_9_160 rfl (lv_at hl 3 rfl) ?_
  refine lv_iload_n hx hb d_17_9_161 rfl (lv_at hl 1 rfl) ?_
  refine va_alda hx hb hG.1 hP 0 8 rfl rfl (vin rfl) d_17_9_162 ?_
  refine W.eq (g2 := F0 m 163 ls [.ref (r1 2), .int 0, .ref (r1 2)]) rfl ?_
  refine lv_iload hx hb d_17_9_163 (lv_at hl 0 rfl) ?_
  refine va_iald hx hb hG.1 hP 3 0 rfl rfl (vin rfl) d_17_9_165 ?_
  refine nrm (x1 := 0) rfl ?_
  refine lv_aload_n hx hb d_17_9_166 rfl (lv_at hl 3 rfl) ?_
  refine lv_iload_n hx hb d_17_9_167 rfl (lv_at hl 1 rfl) ?_
  refine va_alda hx hb hG.1 hP 0 8 rfl rfl (vin rfl) d_17_9_168 ?_
  refine W.eq (g2 := F0 m 169 ls [.ref (r1 2), .int 0, .int 0, .ref (r1 2)]) rfl ?_
  refine lv_iload_n hx hb d_17_9_169 rfl (lv_at hl 2 rfl) ?_
  refine va_iald hx hb hG.1 hP 3 0 rfl rfl (vin rfl) d_17_9_170 ?_
  refine nrm (x1 := 0) rfl ?_
  refine lv_aload_n hx hb d_17_9_171 rfl (lv_at hl 3 rfl) ?_
  refine lv_iload_n hx hb d_17_9_172 rfl (lv_at hl 2 rfl) ?_
  refine va_alda hx hb hG.1 hP 0 8 rfl rfl (vin rfl) d_17_9_173 ?_
  refine W.eq (g2 := F0 m 174 ls [.ref (r1 5), .int 0, .int 0, .int 0, .ref (r1 2)]) rfl ?_
  refine lv_iload hx hb d_17_9_174 (lv_at hl 0 rfl) ?_
  refine va_iald hx hb hG.1 hP 6 0 rfl rfl (vin rfl) d_17_9_176 ?_
  refine nrm (x1 := 0) rfl ?_
  refine va_mmin hx hb (by rw [hml]; exact hl.1.symm) hown (hts _ w_2304) (hts _ w_550) (hts _ w_18) (hts _ w_min) (Nat.le_of_ble_eq_true rfl) (Nat.le_of_ble_eq_true rfl) (Nat.le_of_ble_eq_true rfl) (Nat.le_of_ble_eq_true rfl) d_17_9_177 ?_
  refine nrm (x1 := 0) (by decide +kernel) ?_
  refine va_mmax hx hb (by rw [hml]; exact hl.1.symm) hown (hts _ w_2305) (hts _ w_630) (hts _ w_18) (hts _ w_max) (Nat.le_of_ble_eq_true rfl) (Nat.le_of_ble_eq_true rfl) (Nat.le_of_ble_eq_true rfl) (Nat.le_of_ble_eq_true rfl) d_17_9_180 ?_
  refine nrm (x1 := 0) (by decide +kernel) ?_
  refine va_iast hx hb hG.1 hP hD hS 3 0 rfl rfl (vin rfl) d_17_9_183 (fun H locs hP hD hS => ?_)
  rw [upd_z] at hP hD
  have hP : va_P z.1 classes [(q0, .inl (z.2 8, 8, .inr (.inr (.inr (.inr (va_up (va_up (va_up (va_up (va_up (va_up (va_up (va_up g91 0 (some (r1 0))) 1 (some (r1 1))) 2 (some (r1 2))) 3 (some (r1 3))) 4 (some (r1 4))) 5 (some (r1 5))) 6 (some (r1 6))) 7 (some (r1 7)))))))), ((r1 0), .inl (z.2 0, 8, .inl (fun _ => 0))), ((r1 1), .inl (z.2 0, 8, .inl (fun _ => 0))), ((r1 2), .inl (z.2 0, 8, .inl (fun _ => 0))), ((r1 3), .inl (z.2 0, 8, .inl (fun _ => 0))), ((r1 4), .inl (z.2 0, 8, .inl (fun _ => 0))), ((r1 5), .inl (z.2 0, 8, .inl (fun _ => 0))), ((r1 6), .inl (z.2 0, 8, .inl (fun _ => 0))), ((r1 7), .inl (z.2 0, 8, .inl (fun _ => 0))), (a0, .inr (14, [.ref a1, .int 0, .ref a2, .ref a3, .int 0, .ref a4, .ref q0]))] H := hP
  have hD : va_D A [(q0, .inl (z.2 8, 8, .inr (.inr (.inr (.inr (va_up (va_up (va_up (va_up (va_up (va_up (va_up (va_up g91 0 (some (r1 0))) 1 (some (r1 1))) 2 (some (r1 2))) 3 (some (r1 3))) 4 (some (r1 4))) 5 (some (r1 5))) 6 (some (r1 6))) 7 (some (r1 7)))))))), ((r1 0), .inl (z.2 0, 8, .inl (fun _ => 0))), ((r1 1), .inl (z.2 0, 8, .inl (fun _ => 0))), ((r1 2), .inl (z.2 0, 8, .inl (fun _ => 0))), ((r1 3), .inl (z.2 0, 8, .inl (fun _ => 0))), ((r1 4), .inl (z.2 0, 8, .inl (fun _ => 0))), ((r1 5), .inl (z.2 0, 8, .inl (fun _ => 0))), ((r1 6), .inl (z.2 0, 8, .inl (fun _ => 0))), ((r1 7), .inl (z.2 0, 8, .inl (fun _ => 0))), (a0, .inr (14, [.ref a1, .int 0, .ref a2, .ref a3, .int 0, .ref a4, .ref q0]))] := hD
  refine lv_iinc (v := 1) (lv' := [(4, .int 1), (3, .int 2), (2, .int 5), (1, .ref q0), (0, .ref a0)]) hx hb d_17_9_184 hl (k := 0) rfl (by decide +kernel) (by decide) rfl (fun ls hl => ?_)
  refine lv_goto (tgt := 131) hx hb d_17_9_187 (by decide) ?_
  refine lv_iload hx hb d_17_9_131 (lv_at hl 0 rfl) ?_
  refine lv_bipush (v := 8) hx hb d_17_9_133 (by decide +kernel) ?_
  refine lv_icmp_ge (tgt := 190) hx hb d_17_9_135 (by decide) (fun c9 => absurd c9 (by decide +kernel)) (fun _ => ?_)
  refine lv_iload_n hx hb d_17_9_138 rfl (lv_at hl 1 rfl) ?_
  refine lv_iload hx hb d_17_9_139 (lv_at hl 0 rfl) ?_
  refine lv_icmp_eq (tgt := 184) hx hb d_17_9_141 (by decide) (fun c9 => absurd c9 (by decide +kernel)) (fun _ => ?_)
  refine lv_iload_n hx hb d_17_9_144 rfl (lv_at hl 1 rfl) ?_
  refine lv_iload_n hx hb d_17_9_145 rfl (lv_at hl 2 rfl) ?_
  refine lv_icmp_eq (tgt := 184) hx hb d_17_9_146 (by decide) (fun c9 => absurd c9 (by decide +kernel)) (fun _ => ?_)
  refine lv_iload hx hb d_17_9_149 (lv_at hl 0 rfl) ?_
  refine lv_iload_n hx hb d_17_9_151 rfl (lv_at hl 2 rfl) ?_
  refine lv_icmp_eq (tgt := 184) hx hb d_17_9_152 (by decide) (fun c9 => absurd c9 (by decide +kernel)) (fun _ => ?_)
  refine lv_aload_n hx hb d_17_9_155 rfl (lv_at hl 3 rfl) ?_
  refine lv_iload_n hx hb d_17_9_156 rfl (lv_at hl 1 rfl) ?_
  refine va_alda hx hb hG.1 hP 0 8 rfl rfl (vin rfl) d_17_9_157 ?_
  refine W.eq (g2 := F0 m 158 ls [.ref (r1 2)]) rfl ?_
  refine lv_iload hx hb d_17_9_158 (lv_at hl 0 rfl) ?_
  refine lv_aload_n hx hb d_17_9_160 rfl (lv_at hl 3 rfl) ?_
  refine lv_iload_n hx hb d_17_9_161 rfl (lv_at hl 1 rfl) ?_
  refine va_alda hx hb hG.1 hP 0 8 rfl rfl (vin rfl) d_17_9_162 ?_
  refine W.eq (g2 := F0 m 163 ls [.ref (r1 2), .int 1, .ref (r1 2)]) rfl ?_
  refine lv_iload hx hb d_17_9_163 (lv_at hl 0 rfl) ?_
  refine va_iald hx hb hG.1 hP 3 0 rfl rfl (vin rfl) d_17_9_165 ?_
  refine nrm (x1 := 0) rfl ?_
  refine lv_aload_n hx hb d_17_9_166 rfl (lv_at hl 3 rfl) ?_
  refine lv_iload_n hx hb d_17_9_167 rfl (lv_at hl 1 rfl) ?_
  refine va_alda hx hb hG.1 hP 0 8 rfl rfl (vin rfl) d_17_9_168 ?_
  refine W.eq (g2 := F0 m 169 ls [.ref (r1 2), .int 0, .int 1, .ref (r1 2)]) rfl ?_
  refine lv_iload_n hx hb d_17_9_169 rfl (lv_at hl 2 rfl) ?_
  refine va_iald hx hb hG.1 hP 3 0 rfl rfl (vin rfl) d_17_9_170 ?_
  refine nrm (x1 := 0) rfl ?_
  refine lv_aload_n hx hb d_17_9_171 rfl (lv_at hl 3 rfl) ?_
  refine lv_iload_n hx hb d_17_9_172 rfl (lv_at hl 2 rfl) ?_
  refine va_alda hx hb hG.1 hP 0 8 rfl rfl (vin rfl) d_17_9_173 ?_
  refine W.eq (g2 := F0 m 174 ls [.ref (r1 5), .int 0, .int 0, .int 1, .ref (r1 2)]) rfl ?_
  refine lv_iload hx hb d_17_9_174 (lv_at hl 0 rfl) ?_
  refine va_iald hx hb hG.1 hP 6 0 rfl rfl (vin rfl) d_17_9_176 ?_
  refine nrm (x1 := 0) rfl ?_
  refine va_mmin hx hb (by rw [hml]; exact hl.1.symm) hown (hts _ w_2304) (hts _ w_550) (hts _ w_18) (hts _ w_min) (Nat.le_of_ble_eq_true rfl) (Nat.le_of_ble_eq_true rfl) (Nat.le_of_ble_eq_true rfl) (Nat.le_of_ble_eq_true rfl) d_17_9_177 ?_
  refine nrm (x1 := 0) (by decide +kernel) ?_
  refine va_mmax hx hb (by rw [hml]; exact hl.1.symm) hown (hts _ w_2305) (hts _ w_630) (hts _ w_18) (hts _ w_max) (Nat.le_of_ble_eq_true rfl) (Nat.le_of_ble_eq_true rfl) (Nat.le_of_ble_eq_true rfl) (Nat.le_of_ble_eq_true rfl) d_17_9_180 ?_
  refine nrm (x1 := 0) (by decide +kernel) ?_
  refine va_iast hx hb hG.1 hP hD hS 3 0 rfl rfl (vin rfl) d_17_9_183 (fun H locs hP hD hS => ?_)
  rw [upd_z] at hP hD
  have hP : va_P z.1 classes [(q0, .inl (z.2 8, 8, .inr (.inr (.inr (.inr (va_up (va_up (va_up (va_up (va_up (va_up (va_up (va_up g91 0 (some (r1 0))) 1 (some (r1 1))) 2 (some (r1 2))) 3 (some (r1 3))) 4 (some (r1 4))) 5 (some (r1 5))) 6 (some (r1 6))) 7 (some (r1 7)))))))), ((r1 0), .inl (z.2 0, 8, .inl (fun _ => 0))), ((r1 1), .inl (z.2 0, 8, .inl (fun _ => 0))), ((r1 2), .inl (z.2 0, 8, .inl (fun _ => 0))), ((r1 3), .inl (z.2 0, 8, .inl (fun _ => 0))), ((r1 4), .inl (z.2 0, 8, .inl (fun _ => 0))), ((r1 5), .inl (z.2 0, 8, .inl (fun _ => 0))), ((r1 6), .inl (z.2 0, 8, .inl (fun _ => 0))), ((r1 7), .inl (z.2 0, 8, .inl (fun _ => 0))), (a0, .inr (14, [.ref a1, .int 0, .ref a2, .ref a3, .int 0, .ref a4, .ref q0]))] H := hP
  have hD : va_D A [(q0, .inl (z.2 8, 8, .inr (.inr (.inr (.inr (va_up (va_up (va_up (va_up (va_up (va_up (va_up (va_up g91 0 (some (r1 0))) 1 (some (r1 1))) 2 (some (r1 2))) 3 (some (r1 3))) 4 (some (r1 4))) 5 (some (r1 5))) 6 (some (r1 6))) 7 (some (r1 7)))))))), ((r1 0), .inl (z.2 0, 8, .inl (fun _ => 0))), ((r1 1), .inl (z.2 0, 8, .inl (fun _ => 0))), ((r1 2), .inl (z.2 0, 8, .inl (fun _ => 0))), ((r1 3), .inl (z.2 0, 8, .inl (fun _ => 0))), ((r1 4), .inl (z.2 0, 8, .inl (fun _ => 0))), ((r1 5), .inl (z.2 0, 8, .inl (fun _ => 0))), ((r1 6), .inl (z.2 0, 8, .inl (fun _ => 0))), ((r1 7), .inl (z.2 0, 8, .inl (fun _ => 0))), (a0, .inr (14, [.ref a1, .int 0, .ref a2, .ref a3, .int 0, .ref a4, .ref q0]))] := hD
  refine lv_iinc (v := 2) (lv' := [(4, .int 2), (3, .int 2), (2, .int 5), (1, .ref q0), (0, .ref a0)]) hx hb d_17_9_184 hl (k := 0) rfl (by decide +kernel) (by decide) rfl (fun ls hl => ?_)
  refine lv_goto (tgt := 131) hx hb d_17_9_187 (by decide) ?_
  refine lv_iload hx hb d_17_9_131 (lv_at hl 0 rfl) ?_
  refine lv_bipush (v := 8) hx hb d_17_9_133 (by decide +kernel) ?_
  refine lv_icmp_ge (tgt := 190) hx hb d_17_9_135 (by decide) (fun c9 => absurd c9 (by decide +kernel)) (fun _ => ?_)
  refine lv_iload_n hx hb d_17_9_138 rfl (lv_at hl 1 rfl) ?_
  refine lv_iload hx hb d_17_9_139 (lv_at hl 0 rfl) ?_
  refine lv_icmp_eq (tgt := 184) hx hb d_17_9_141 (by decide) (fun _ => ?_) (fun c9 => absurd (by decide +kernel) c9)
  refine lv_iinc (v := 3) (lv' := [(4, .int 3), (3, .int 2), (2, .int 5), (1, .ref q0), (0, .ref a0)]) hx hb d_17_9_184 hl (k := 0) rfl (by decide +kernel) (by decide) rfl (fun ls hl => ?_)
  refine lv_goto (tgt := 131) hx hb d_17_9_187 (by decide) ?_
  refine lv_iload hx hb d_17_9_131 (lv_at hl 0 rfl) ?_
  refine lv_bipush (v := 8) hx hb d_17_9_133 (by decide +kernel) ?_
  refine lv_icmp_ge (tgt := 190) hx hb d_17_9_135 (by decide) (fun c9 => absurd c9 (by decide +kernel)) (fun _ => ?_)
  refine lv_iload_n hx hb d_17_9_138 rfl (lv_at hl 1 rfl) ?_
  refine lv_iload hx hb d_17_9_139 (lv_at hl 0 rfl) ?_
  refine lv_icmp_eq (tgt := 184) hx hb d_17_9_141 (by decide) (fun c9 => absurd c9 (by decide +kernel)) (fun _ => ?_)
  refine lv_iload_n hx hb d_17_9_144 rfl (lv_at hl 1 rfl) ?_
  refine lv_iload_n hx hb d_17_9_145 rfl (lv_at hl 2 rfl) ?_
  refine lv_icmp_eq (tgt := 184) hx hb d_17_9_146 (by decide) (fun c9 => absurd c9 (by decide +kernel)) (fun _ => ?_)
  refine lv_iload hx hb d_17_9_149 (lv_at hl 0 rfl) ?_
  refine lv_iload_n hx hb d_17_9_151 rfl (lv_at hl 2 rfl) ?_
  refine lv_icmp_eq (tgt := 184) hx hb d_17_9_152 (by decide) (fun c9 => absurd c9 (by decide +kernel)) (fun _ => ?_)
  refine lv_aload_n hx hb d_17_9_155 rfl (lv_at hl 3 rfl) ?_
  refine lv_iload_n hx hb d_17_9_156 rfl (lv_at hl 1 rfl) ?_
  refine va_alda hx hb hG.1 hP 0 8 rfl rfl (vin rfl) d_17_9_157 ?_
  refine W.eq (g2 := F0 m 158 ls [.ref (r1 2)]) rfl ?_
  refine lv_iload hx hb d_17_9_158 (lv_at hl 0 rfl) ?_
  refine lv_aload_n hx hb d_17_9_160 rfl (lv_at hl 3 rfl) ?_
  refine lv_iload_n hx hb d_17_9_161 rfl (lv_at hl 1 rfl) ?_
  refine va_alda hx hb hG.1 hP 0 8 rfl rfl (vin rfl) d_17_9_162 ?_
  refine W.eq (g2 := F0 m 163 ls [.ref (r1 2), .int 3, .ref (r1 2)]) rfl ?_
  refine lv_iload hx hb d_17_9_163 (lv_at hl 0 rfl) ?_
  refine va_iald hx hb hG.1 hP 3 0 rfl rfl (vin rfl) d_17_9_165 ?_
  refine nrm (x1 := 0) rfl ?_
  refine lv_aload_n hx hb d_17_9_166 rfl (lv_at hl 3 rfl) ?_
  refine lv_iload_n hx hb d_17_9_167 rfl (lv_at hl 1 rfl) ?_
  refine va_alda hx hb hG.1 hP 0 8 rfl rfl (vin rfl) d_17_9_168 ?_
  refine W.eq (g2 := F0 m 169 ls [.ref (r1 2), .int 0, .int 3, .ref (r1 2)]) rfl ?_
  refine lv_iload_n hx hb d_17_9_169 rfl (lv_at hl 2 rfl) ?_
  refine va_iald hx hb hG.1 hP 3 0 rfl rfl (vin rfl) d_17_9_170 ?_
  refine nrm (x1 := 0) rfl ?_
  refine lv_aload_n hx hb d_17_9_171 rfl (lv_at hl 3 rfl) ?_
  refine lv_iload_n hx hb d_17_9_172 rfl (lv_at hl 2 rfl) ?_
  refine va_alda hx hb hG.1 hP 0 8 rfl rfl (vin rfl) d_17_9_173 ?_
  refine W.eq (g2 := F0 m 174 ls [.ref (r1 5), .int 0, .int 0, .int 3, .ref (r1 2)]) rfl ?_
  refine lv_iload hx hb d_17_9_174 (lv_at hl 0 rfl) ?_
  refine va_iald hx hb hG.1 hP 6 0 rfl rfl (vin rfl) d_17_9_176 ?_
  refine nrm (x1 := 0) rfl ?_
  refine va_mmin hx hb (by rw [hml]; exact hl.1.symm) hown (hts _ w_2304) (hts _ w_550) (hts _ w_18) (hts _ w_min) (Nat.le_of_ble_eq_true rfl) (Nat.le_of_ble_eq_true rfl) (Nat.le_of_ble_eq_true rfl) (Nat.le_of_ble_eq_true rfl) d_17_9_177 ?_
  refine nrm (x1 := 0) (by decide +kernel) ?_
  refine va_mmax hx hb (by rw [hml]; exact hl.1.symm) hown (hts _ w_2305) (hts _ w_630) (hts _ w_18) (hts _ w_max) (Nat.le_of_ble_eq_true rfl) (Nat.le_of_ble_eq_true rfl) (Nat.le_of_ble_eq_true rfl) (Nat.le_of_ble_eq_true rfl) d_17_9_180 ?_
  refine nrm (x1 := 0) (by decide +kernel) ?_
  refine va_iast hx hb hG.1 hP hD hS 3 0 rfl rfl (vin rfl) d_17_9_183 (fun H locs hP hD hS => ?_)
  rw [upd_z] at hP hD
  have hP : va_P z.1 classes [(q0, .inl (z.2 8, 8, .inr (.inr (.inr (.inr (va_up (va_up (va_up (va_up (va_up (va_up (va_up (va_up g91 0 (some (r1 0))) 1 (some (r1 1))) 2 (some (r1 2))) 3 (some (r1 3))) 4 (some (r1 4))) 5 (some (r1 5))) 6 (some (r1 6))) 7 (some (r1 7)))))))), ((r1 0), .inl (z.2 0, 8, .inl (fun _ => 0))), ((r1 1), .inl (z.2 0, 8, .inl (fun _ => 0))), ((r1 2), .inl (z.2 0, 8, .inl (fun _ => 0))), ((r1 3), .inl (z.2 0, 8, .inl (fun _ => 0))), ((r1 4), .inl (z.2 0, 8, .inl (fun _ => 0))), ((r1 5), .inl (z.2 0, 8, .inl (fun _ => 0))), ((r1 6), .inl (z.2 0, 8, .inl (fun _ => 0))), ((r1 7), .inl (z.2 0, 8, .inl (fun _ => 0))), (a0, .inr (14, [.ref a1, .int 0, .ref a2, .ref a3, .int 0, .ref a4, .ref q0]))] H := hP
  have hD : va_D A [(q0, .inl (z.2 8, 8, .inr (.inr (.inr (.inr (va_up (va_up (va_up (va_up (va_up (va_up (va_up (va_up g91 0 (some (r1 0))) 1 (some (r1 1))) 2 (some (r1 2))) 3 (some (r1 3))) 4 (some (r1 4))) 5 (some (r1 5))) 6 (some (r1 6))) 7 (some (r1 7)))))))), ((r1 0), .inl (z.2 0, 8, .inl (fun _ => 0))), ((r1 1), .inl (z.2 0, 8, .inl (fun _ => 0))), ((r1 2), .inl (z.2 0, 8, .inl (fun _ => 0))), ((r1 3), .inl (z.2 0, 8, .inl (fun _ => 0))), ((r1 4), .inl (z.2 0, 8, .inl (fun _ => 0))), ((r1 5), .inl (z.2 0, 8, .inl (fun _ => 0))), ((r1 6), .inl (z.2 0, 8, .inl (fun _ => 0))), ((r1 7), .inl (z.2 0, 8, .inl (fun _ => 0))), (a0, .inr (14, [.ref a1, .int 0, .ref a2, .ref a3, .int 0, .ref a4, .ref q0]))] := hD
  refine lv_iinc (v := 4) (lv' := [(4, .int 4), (3, .int 2), (2, .int 5), (1, .ref q0), (0, .ref a0)]) hx hb d_17_9_184 hl (k := 0) rfl (by decide +kernel) (by decide) rfl (fun ls hl => ?_)
  refine lv_goto (tgt := 131) hx hb d_17_9_187 (by decide) ?_
  refine lv_iload hx hb d_17_9_131 (lv_at hl 0 rfl) ?_
  refine lv_bipush (v := 8) hx hb d_17_9_133 (by decide +kernel) ?_
  refine lv_icmp_ge (tgt := 190) hx hb d_17_9_135 (by decide) (fun c9 => absurd c9 (by decide +kernel)) (fun _ => ?_)
  refine lv_iload_n hx hb d_17_9_138 rfl (lv_at hl 1 rfl) ?_
  refine lv_iload hx hb d_17_9_139 (lv_at hl 0 rfl) ?_
  refine lv_icmp_eq (tgt := 184) hx hb d_17_9_141 (by decide) (fun c9 => absurd c9 (by decide +kernel)) (fun _ => ?_)
  refine lv_iload_n hx hb d_17_9_144 rfl (lv_at hl 1 rfl) ?_
  refine lv_iload_n hx hb d_17_9_145 rfl (lv_at hl 2 rfl) ?_
  refine lv_icmp_eq (tgt := 184) hx hb d_17_9_146 (by decide) (fun c9 => absurd c9 (by decide +kernel)) (fun _ => ?_)
  refine lv_iload hx hb d_17_9_149 (lv_at hl 0 rfl) ?_
  refine lv_iload_n hx hb d_17_9_151 rfl (lv_at hl 2 rfl) ?_
  refine lv_icmp_eq (tgt := 184) hx hb d_17_9_152 (by decide) (fun c9 => absurd c9 (by decide +kernel)) (fun _ => ?_)
  refine lv_aload_n hx hb d_17_9_155 rfl (lv_at hl 3 rfl) ?_
  refine lv_iload_n hx hb d_17_9_156 rfl (lv_at hl 1 rfl) ?_
  refine va_alda hx hb hG.1 hP 0 8 rfl rfl (vin rfl) d_17_9_157 ?_
  refine W.eq (g2 := F0 m 158 ls [.ref (r1 2)]) rfl ?_
  refine lv_iload hx hb d_17_9_158 (lv_at hl 0 rfl) ?_
  refine lv_aload_n hx hb d_17_9_160 rfl (lv_at hl 3 rfl) ?_
  refine lv_iload_n hx hb d_17_9_161 rfl (lv_at hl 1 rfl) ?_
  refine va_alda hx hb hG.1 hP 0 8 rfl rfl (vin rfl) d_17_9_162 ?_
  refine W.eq (g2 := F0 m 163 ls [.ref (r1 2), .int 4, .ref (r1 2)]) rfl ?_
  refine lv_iload hx hb d_17_9_163 (lv_at hl 0 rfl) ?_
  refine va_iald hx hb hG.1 hP 3 0 rfl rfl (vin rfl) d_17_9_165 ?_
  refine nrm (x1 := 0) rfl ?_
  refine lv_aload_n hx hb d_17_9_166 rfl (lv_at hl 3 rfl) ?_
  refine lv_iload_n hx hb d_17_9_167 rfl (lv_at hl 1 rfl) ?_
  refine va_alda hx hb hG.1 hP 0 8 rfl rfl (vin rfl) d_17_9_168 ?_
  refine W.eq (g2 := F0 m 169 ls [.ref (r1 2), .int 0, .int 4, .ref (r1 2)]) rfl ?_
  refine lv_iload_n hx hb d_17_9_169 rfl (lv_at hl 2 rfl) ?_
  refine va_iald hx hb hG.1 hP 3 0 rfl rfl (vin rfl) d_17_9_170 ?_
  refine nrm (x1 := 0) rfl ?_
  refine lv_aload_n hx hb d_17_9_171 rfl (lv_at hl 3 rfl) ?_
  refine lv_iload_n hx hb d_17_9_172 rfl (lv_at hl 2 rfl) ?_
  refine va_alda hx hb hG.1 hP 0 8 rfl rfl (vin rfl) d_17_9_173 ?_
  refine W.eq (g2 := F0 m 174 ls [.ref (r1 5), .int 0, .int 0, .int 4, .ref (r1 2)]) rfl ?_
  refine lv_iload hx hb d_17_9_174 (lv_at hl 0 rfl) ?_
  refine va_iald hx hb hG.1 hP 6 0 rfl rfl (vin rfl) d_17_9_176 ?_
  refine nrm (x1 := 0) rfl ?_
  refine va_mmin hx hb (by rw [hml]; exact hl.1.symm) hown (hts _ w_2304) (hts _ w_550) (hts _ w_18) (hts _ w_min) (Nat.le_of_ble_eq_true rfl) (Nat.le_of_ble_eq_true rfl) (Nat.le_of_ble_eq_true rfl) (Nat.le_of_ble_eq_true rfl) d_17_9_177 ?_
  refine nrm (x1 := 0) (by decide +kernel) ?_
  refine va_mmax hx hb (by rw [hml]; exact hl.1.symm) hown (hts _ w_2305) (hts _ w_630) (hts _ w_18) (hts _ w_max) (Nat.le_of_ble_eq_true rfl) (Nat.le_of_ble_eq_true rfl) (Nat.le_of_ble_eq_true rfl) (Nat.le_of_ble_eq_true rfl) d_17_9_180 ?_
  refine nrm (x1 := 0) (by decide +kernel) ?_
  refine va_iast hx hb hG.1 hP hD hS 3 0 rfl rfl (vin rfl) d_17_9_183 (fun H locs hP hD hS => ?_)
  rw [upd_z] at hP hD
  have hP : va_P z.1 classes [(q0, .inl (z.2 8, 8, .inr (.inr (.inr (.inr (va_up (va_up (va_up (va_up (va_up (va_up (va_up (va_up g91 0 (some (r1 0))) 1 (some (r1 1))) 2 (some (r1 2))) 3 (some (r1 3))) 4 (some (r1 4))) 5 (some (r1 5))) 6 (some (r1 6))) 7 (some (r1 7)))))))), ((r1 0), .inl (z.2 0, 8, .inl (fun _ => 0))), ((r1 1), .inl (z.2 0, 8, .inl (fun _ => 0))), ((r1 2), .inl (z.2 0, 8, .inl (fun _ => 0))), ((r1 3), .inl (z.2 0, 8, .inl (fun _ => 0))), ((r1 4), .inl (z.2 0, 8, .inl (fun _ => 0))), ((r1 5), .inl (z.2 0, 8, .inl (fun _ => 0))), ((r1 6), .inl (z.2 0, 8, .inl (fun _ => 0))), ((r1 7), .inl (z.2 0, 8, .inl (fun _ => 0))), (a0, .inr (14, [.ref a1, .int 0, .ref a2, .ref a3, .int 0, .ref a4, .ref q0]))] H := hP
  have hD : va_D A [(q0, .inl (z.2 8, 8, .inr (.inr (.inr (.inr (va_up (va_up (va_up (va_up (va_up (va_up (va_up (va_up g91 0 (some (r1 0))) 1 (some (r1 1))) 2 (some (r1 2))) 3 (some (r1 3))) 4 (some (r1 4))) 5 (some (r1 5))) 6 (some (r1 6))) 7 (some (r1 7)))))))), ((r1 0), .inl (z.2 0, 8, .inl (fun _ => 0))), ((r1 1), .inl (z.2 0, 8, .inl (fun _ => 0))), ((r1 2), .inl (z.2 0, 8, .inl (fun _ => 0))), ((r1 3), .inl (z.2 0, 8, .inl (fun _ => 0))), ((r1 4), .inl (z.2 0, 8, .inl (fun _ => 0))), ((r1 5), .inl (z.2 0, 8, .inl (fun _ => 0))), ((r1 6), .inl (z.2 0, 8, .inl (fun _ => 0))), ((r1 7), .inl (z.2 0, 8, .inl (fun _ => 0))), (a0, .inr (14, [.ref a1, .int 0, .ref a2, .ref a3, .int 0, .ref a4, .ref q0]))] := hD
  refine lv_iinc (v := 5) (lv' := [(4, .int 5), (3, .int 2), (2, .int 5), (1, .ref q0), (0, .ref a0)]) hx hb d_17_9_184 hl (k := 0) rfl (by decide +kernel) (by decide) rfl (fun ls hl => ?_)
  refine lv_goto (tgt := 131) hx hb d_17_9_187 (by decide) ?_
  refine lv_iload hx hb d_17_9_131 (lv_at hl 0 rfl) ?_
  refine lv_bipush (v := 8) hx hb d_17_9_133 (by decide +kernel) ?_
  refine lv_icmp_ge (tgt := 190) hx hb d_17_9_135 (by decide) (fun c9 => absurd c9 (by decide +kernel)) (fun _ => ?_)
  refine lv_iload_n hx hb d_17_9_138 rfl (lv_at hl 1 rfl) ?_
  refine lv_iload hx hb d_17_9_139 (lv_at hl 0 rfl) ?_
  refine lv_icmp_eq (tgt := 184) hx hb d_17_9_141 (by decide) (fun c9 => absurd c9 (by decide +kernel)) (fun _ => ?_)
  refine lv_iload_n hx hb d_17_9_144 rfl (lv_at hl 1 rfl) ?_
  refine lv_iload_n hx hb d_17_9_145 rfl (lv_at hl 2 rfl) ?_
  refine lv_icmp_eq (tgt := 184) hx hb d_17_9_146 (by decide) (fun c9 => absurd c9 (by decide +kernel)) (fun _ => ?_)
  refine lv_iload hx hb d_17_9_149 (lv_at hl 0 rfl) ?_
  refine lv_iload_n hx hb d_17_9_151 rfl (lv_at hl 2 rfl) ?_
  refine lv_icmp_eq (tgt := 184) hx hb d_17_9_152 (by decide) (fun _ => ?_) (fun c9 => absurd (by decide +kernel) c9)
  refine lv_iinc (v := 6) (lv' := [(4, .int 6), (3, .int 2), (2, .int 5), (1, .ref q0), (0, .ref a0)]) hx hb d_17_9_184 hl (k := 0) rfl (by decide +kernel) (by decide) rfl (fun ls hl => ?_)
  refine lv_goto (tgt := 131) hx hb d_17_9_187 (by decide) ?_
  refine lv_iload hx hb d_17_9_131 (lv_at hl 0 rfl) ?_
  refine lv_bipush (v := 8) hx hb d_17_9_133 (by decide +kernel) ?_
  refine lv_icmp_ge (tgt := 190) hx hb d_17_9_135 (by decide) (fun c9 => absurd c9 (by decide +kernel)) (fun _ => ?_)
  refine lv_iload_n hx hb d_17_9_138 rfl (lv_at hl 1 rfl) ?_
  refine lv_iload hx hb d_17_9_139 (lv_at hl 0 rfl) ?_
  refine lv_icmp_eq (tgt := 184) hx hb d_17_9_141 (by decide) (fun c9 => absurd c9 (by decide +kernel)) (fun _ => ?_)
  refine lv_iload_n hx hb d_17_9_144 rfl (lv_at hl 1 rfl) ?_
  refine lv_iload_n hx hb d_17_9_145 rfl (lv_at hl 2 rfl) ?_
  refine lv_icmp_eq (tgt := 184) hx hb d_17_9_146 (by decide) (fun c9 => absurd c9 (by decide +kernel)) (fun _ => ?_)
  refine lv_iload hx hb d_17_9_149 (lv_at hl 0 rfl) ?_
  refine lv_iload_n hx hb d_17_9_151 rfl (lv_at hl 2 rfl) ?_
  refine lv_icmp_eq (tgt := 184) hx hb d_17_9_152 (by decide) (fun c9 => absurd c9 (by decide +kernel)) (fun _ => ?_)
  refine lv_aload_n hx hb d_17_9_155 rfl (lv_at hl 3 rfl) ?_
  refine lv_iload_n hx hb d_17_9_156 rfl (lv_at hl 1 rfl) ?_
  refine va_alda hx hb hG.1 hP 0 8 rfl rfl (vin rfl) d_17_9_157 ?_
  refine W.eq (g2 := F0 m 158 ls [.ref (r1 2)]) rfl ?_
  refine lv_iload hx hb d_17_9_158 (lv_at hl 0 rfl) ?_
  refine lv_aload_n hx hb d_17_9_160 rfl (lv_at hl 3 rfl) ?_
  refine lv_iload_n hx hb d_17_9_161 rfl (lv_at hl 1 rfl) ?_
  refine va_alda hx hb hG.1 hP 0 8 rfl rfl (vin rfl) d_17_9_162 ?_
  refine W.eq (g2 := F0 m 163 ls [.ref (r1 2), .int 6, .ref (r1 2)]) rfl ?_
  refine lv_iload hx hb d_17_9_163 (lv_at hl 0 rfl) ?_
  refine va_iald hx hb hG.1 hP 3 0 rfl rfl (vin rfl) d_17_9_165 ?_
  refine nrm (x1 := 0) rfl ?_
  refine lv_aload_n hx hb d_17_9_166 rfl (lv_at hl 3 rfl) ?_
  refine lv_iload_n hx hb d_17_9_167 rfl (lv_at hl 1 rfl) ?_
  refine va_alda hx hb hG.1 hP 0 8 rfl rfl (vin rfl) d_17_9_168 ?_
  refine W.eq (g2 := F0 m 169 ls [.ref (r1 2), .int 0, .int 6, .ref (r1 2)]) rfl ?_
  refine lv_iload_n hx hb d_17_9_169 rfl (lv_at hl 2 rfl) ?_
  refine va_iald hx hb hG.1 hP 3 0 rfl rfl (vin rfl) d_17_9_170 ?_
  refine nrm (x1 := 0) rfl ?_
  refine lv_aload_n hx hb d_17_9_171 rfl (lv_at hl 3 rfl) ?_
  refine lv_iload_n hx hb d_17_9_172 rfl (lv_at hl 2 rfl) ?_
  refine va_alda hx hb hG.1 hP 0 8 rfl rfl (vin rfl) d_17_9_173 ?_
  refine W.eq (g2 := F0 m 174 ls [.ref (r1 5), .int 0, .int 0, .int 6, .ref (r1 2)]) rfl ?_
  refine lv_iload hx hb d_17_9_174 (lv_at hl 0 rfl) ?_
  refine va_iald hx hb hG.1 hP 6 0 rfl rfl (vin rfl) d_17_9_176 ?_
  refine nrm (x1 := 0) rfl ?_
  refine va_mmin hx hb (by rw [hml]; exact hl.1.symm) hown (hts _ w_2304) (hts _ w_550) (hts _ w_18) (hts _ w_min) (Nat.le_of_ble_eq_true rfl) (Nat.le_of_ble_eq_true rfl) (Nat.le_of_ble_eq_true rfl) (Nat.le_of_ble_eq_true rfl) d_17_9_177 ?_
  refine nrm (x1 := 0) (by decide +kernel) ?_
  refine va_mmax hx hb (by rw [hml]; exact hl.1.symm) hown (hts _ w_2305) (hts _ w_630) (hts _ w_18) (hts _ w_max) (Nat.le_of_ble_eq_true rfl) (Nat.le_of_ble_eq_true rfl) (Nat.le_of_ble_eq_true rfl) (Nat.le_of_ble_eq_true rfl) d_17_9_180 ?_
  refine nrm (x1 := 0) (by decide +kernel) ?_
  refine va_iast hx hb hG.1 hP hD hS 3 0 rfl rfl (vin rfl) d_17_9_183 (fun H locs hP hD hS => ?_)
  rw [upd_z] at hP hD
  have hP : va_P z.1 classes [(q0, .inl (z.2 8, 8, .inr (.inr (.inr (.inr (va_up (va_up (va_up (va_up (va_up (va_up (va_up (va_up g91 0 (some (r1 0))) 1 (some (r1 1))) 2 (some (r1 2))) 3 (some (r1 3))) 4 (some (r1 4))) 5 (some (r1 5))) 6 (some (r1 6))) 7 (some (r1 7)))))))), ((r1 0), .inl (z.2 0, 8, .inl (fun _ => 0))), ((r1 1), .inl (z.2 0, 8, .inl (fun _ => 0))), ((r1 2), .inl (z.2 0, 8, .inl (fun _ => 0))), ((r1 3), .inl (z.2 0, 8, .inl (fun _ => 0))), ((r1 4), .inl (z.2 0, 8, .inl (fun _ => 0))), ((r1 5), .inl (z.2 0, 8, .inl (fun _ => 0))), ((r1 6), .inl (z.2 0, 8, .inl (fun _ => 0))), ((r1 7), .inl (z.2 0, 8, .inl (fun _ => 0))), (a0, .inr (14, [.ref a1, .int 0, .ref a2, .ref a3, .int 0, .ref a4, .ref q0]))] H := hP
  have hD : va_D A [(q0, .inl (z.2 8, 8, .inr (.inr (.inr (.inr (va_up (va_up (va_up (va_up (va_up (va_up (va_up (va_up g91 0 (some (r1 0))) 1 (some (r1 1))) 2 (some (r1 2))) 3 (some (r1 3))) 4 (some (r1 4))) 5 (some (r1 5))) 6 (some (r1 6))) 7 (some (r1 7)))))))), ((r1 0), .inl (z.2 0, 8, .inl (fun _ => 0))), ((r1 1), .inl (z.2 0, 8, .inl (fun _ => 0))), ((r1 2), .inl (z.2 0, 8, .inl (fun _ => 0))), ((r1 3), .inl (z.2 0, 8, .inl (fun _ => 0))), ((r1 4), .inl (z.2 0, 8, .inl (fun _ => 0))), ((r1 5), .inl (z.2 0, 8, .inl (fun _ => 0))), ((r1 6), .inl (z.2 0, 8, .inl (fun _ => 0))), ((r1 7), .inl (z.2 0, 8, .inl (fun _ => 0))), (a0, .inr (14, [.ref a1, .int 0, .ref a2, .ref a3, .int 0, .ref a4, .ref q0]))] := hD
  refine lv_iinc (v := 7) (lv' := [(4, .int 7), (3, .int 2), (2, .int 5), (1, .ref q0), (0, .ref a0)]) hx hb d_17_9_184 hl (k := 0) rfl (by decide +kernel) (by decide) rfl (fun ls hl => ?_)
  refine lv_goto (tgt := 131) hx hb d_17_9_187 (by decide) ?_
  refine lv_iload hx hb d_17_9_131 (lv_at hl 0 rfl) ?_
  refine lv_bipush (v := 8) hx hb d_17_9_133 (by decide +kernel) ?_
  refine lv_icmp_ge (tgt := 190) hx hb d_17_9_135 (by decide) (fun c9 => absurd c9 (by decide +kernel)) (fun _ => ?_)
  refine lv_iload_n hx hb d_17_9_138 rfl (lv_at hl 1 rfl) ?_
  refine lv_iload hx hb d_17_9_139 (lv_at hl 0 rfl) ?_
  refine lv_icmp_eq (tgt := 184) hx hb d_17_9_141 (by decide) (fun c9 => absurd c9 (by decide +kernel)) (fun _ => ?_)
  refine lv_iload_n hx hb d_17_9_144 rfl (lv_at hl 1 rfl) ?_
  refine lv_iload_n hx hb d_17_9_145 rfl (lv_at hl 2 rfl) ?_
  refine lv_icmp_eq (tgt := 184) hx hb d_17_9_146 (by decide) (fun c9 => absurd c9 (by decide +kernel)) (fun _ => ?_)
  refine lv_iload hx hb d_17_9_149 (lv_at hl 0 rfl) ?_
  refine lv_iload_n hx hb d_17_9_151 rfl (lv_at hl 2 rfl) ?_
  refine lv_icmp_eq (tgt := 184) hx hb d_17_9_152 (by decide) (fun c9 => absurd c9 (by decide +kernel)) (fun _ => ?_)
  refine lv_aload_n hx hb d_17_9_155 rfl (lv_at hl 3 rfl) ?_
  refine lv_iload_n hx hb d_17_9_156 rfl (lv_at hl 1 rfl) ?_
  refine va_alda hx hb hG.1 hP 0 8 rfl rfl (vin rfl) d_17_9_157 ?_
  refine W.eq (g2 := F0 m 158 ls [.ref (r1 2)]) rfl ?_
  refine lv_iload hx hb d_17_9_158 (lv_at hl 0 rfl) ?_
  refine lv_aload_n hx hb d_17_9_160 rfl (lv_at hl 3 rfl) ?_
  refine lv_iload_n hx hb d_17_9_161 rfl (lv_at hl 1 rfl) ?_
  refine va_alda hx hb hG.1 hP 0 8 rfl rfl (vin rfl) d_17_9_162 ?_
  refine W.eq (g2 := F0 m 163 ls [.ref (r1 2), .int 7, .ref (r1 2)]) rfl ?_
  refine lv_iload hx hb d_17_9_163 (lv_at hl 0 rfl) ?_
  refine va_iald hx hb hG.1 hP 3 0 rfl rfl (vin rfl) d_17_9_165 ?_
  refine nrm (x1 := 0) rfl ?_
  refine lv_aload_n hx hb d_17_9_166 rfl (lv_at hl 3 rfl) ?_
  refine lv_iload_n hx hb d_17_9_167 rfl (lv_at hl 1 rfl) ?_
  refine va_alda hx hb hG.1 hP 0 8 rfl rfl (vin rfl) d_17_9_168 ?_
  refine W.eq (g2 := F0 m 169 ls [.ref (r1 2), .int 0, .int 7, .ref (r1 2)]) rfl ?_
  refine lv_iload_n hx hb d_17_9_169 rfl (lv_at hl 2 rfl) ?_
  refine va_iald hx hb hG.1 hP 3 0 rfl rfl (vin rfl) d_17_9_170 ?_
  refine nrm (x1 := 0) rfl ?_
  refine lv_aload_n hx hb d_17_9_171 rfl (lv_at hl 3 rfl) ?_
  refine lv_iload_n hx hb d_17_9_172 rfl (lv_at hl 2 rfl) ?_
  refine va_alda hx hb hG.1 hP 0 8 rfl rfl (vin rfl) d_17_9_173 ?_
  refine W.eq (g2 := F0 m 174 ls [.ref (r1 5), .int 0, .int 0, .int 7, .ref (r1 2)]) rfl ?_
  refine lv_iload hx hb d_17_9_174 (lv_at hl 0 rfl) ?_
  refine va_iald hx hb hG.1 hP 6 0 rfl rfl (vin rfl) d_17_9_176 ?_
  refine nrm (x1 := 0) rfl ?_
  refine va_mmin hx hb (by rw [hml]; exact hl.1.symm) hown (hts _ w_2304) (hts _ w_550) (hts _ w_18) (hts _ w_min) (Nat.le_of_ble_eq_true rfl) (Nat.le_of_ble_eq_true rfl) (Nat.le_of_ble_eq_true rfl) (Nat.le_of_ble_eq_true rfl) d_17_9_177 ?_
  refine nrm (x1 := 0) (by decide +kernel) ?_
  refine va_mmax hx hb (by rw [hml]; exact hl.1.symm) hown (hts _ w_2305) (hts _ w_630) (hts _ w_18) (hts _ w_max) (Nat.le_of_ble_eq_true rfl) (Nat.le_of_ble_eq_true rfl) (Nat.le_of_ble_eq_true rfl) (Nat.le_of_ble_eq_true rfl) d_17_9_180 ?_
  refine nrm (x1 := 0) (by decide +kernel) ?_
  refine va_iast hx hb hG.1 hP hD hS 3 0 rfl rfl (vin rfl) d_17_9_183 (fun H locs hP hD hS => ?_)
  rw [upd_z] at hP hD
  have hP : va_P z.1 classes [(q0, .inl (z.2 8, 8, .inr (.inr (.inr (.inr (va_up (va_up (va_up (va_up (va_up (va_up (va_up (va_up g91 0 (some (r1 0))) 1 (some (r1 1))) 2 (some (r1 2))) 3 (some (r1 3))) 4 (some (r1 4))) 5 (some (r1 5))) 6 (some (r1 6))) 7 (some (r1 7)))))))), ((r1 0), .inl (z.2 0, 8, .inl (fun _ => 0))), ((r1 1), .inl (z.2 0, 8, .inl (fun _ => 0))), ((r1 2), .inl (z.2 0, 8, .inl (fun _ => 0))), ((r1 3), .inl (z.2 0, 8, .inl (fun _ => 0))), ((r1 4), .inl (z.2 0, 8, .inl (fun _ => 0))), ((r1 5), .inl (z.2 0, 8, .inl (fun _ => 0))), ((r1 6), .inl (z.2 0, 8, .inl (fun _ => 0))), ((r1 7), .inl (z.2 0, 8, .inl (fun _ => 0))), (a0, .inr (14, [.ref a1, .int 0, .ref a2, .ref a3, .int 0, .ref a4, .ref q0]))] H := hP
  have hD : va_D A [(q0, .inl (z.2 8, 8, .inr (.inr (.inr (.inr (va_up (va_up (va_up (va_up (va_up (va_up (va_up (va_up g91 0 (some (r1 0))) 1 (some (r1 1))) 2 (some (r1 2))) 3 (some (r1 3))) 4 (some (r1 4))) 5 (some (r1 5))) 6 (some (r1 6))) 7 (some (r1 7)))))))), ((r1 0), .inl (z.2 0, 8, .inl (fun _ => 0))), ((r1 1), .inl (z.2 0, 8, .inl (fun _ => 0))), ((r1 2), .inl (z.2 0, 8, .inl (fun _ => 0))), ((r1 3), .inl (z.2 0, 8, .inl (fun _ => 0))), ((r1 4), .inl (z.2 0, 8, .inl (fun _ => 0))), ((r1 5), .inl (z.2 0, 8, .inl (fun _ => 0))), ((r1 6), .inl (z.2 0, 8, .inl (fun _ => 0))), ((r1 7), .inl (z.2 0, 8, .inl (fun _ => 0))), (a0, .inr (14, [.ref a1, .int 0, .ref a2, .ref a3, .int 0, .ref a4, .ref q0]))] := hD
  refine lv_iinc (v := 8) (lv' := [(4, .int 8), (3, .int 2), (2, .int 5), (1, .ref q0), (0, .ref a0)]) hx hb d_17_9_184 hl (k := 0) rfl (by decide +kernel) (by decide) rfl (fun ls hl => ?_)
  refine lv_goto (tgt := 131) hx hb d_17_9_187 (by decide) ?_
  refine lv_iload hx hb d_17_9_131 (lv_at hl 0 rfl) ?_
  refine lv_bipush (v := 8) hx hb d_17_9_133 (by decide +kernel) ?_
  refine lv_icmp_ge (tgt := 190) hx hb d_17_9_135 (by decide) (fun _ => ?_) (fun c9 => absurd (by decide +kernel) c9)
  refine lv_iinc (v := 3) (lv' := [(3, .int 3), (4, .int 8), (2, .int 5), (1, .ref q0), (0, .ref a0)]) hx hb d_17_9_190 hl (k := 1) rfl (by decide +kernel) (by decide) rfl (fun ls hl => ?_)
  refine lv_goto (tgt := 122) hx hb d_17_9_193 (by decide) ?_
  refine W.widen (k := 9) (n := 72) (Nat.le_of_ble_eq_true rfl) (Nat.le_of_ble_eq_true rfl) ?_
  exact hk H locs ls hP hD hS hl
set_option maxRecDepth 100000 in
set_option maxHeartbeats 4000000 in
theorem s367_paths (l : Launch) (z : Zz) (a0 : Nat) (a1 : Nat) (a2 : Nat) (a3 : Nat) (a4 : Nat) (g91 : Nat → Option Nat) (q0 : Nat) (r1 : Nat → Nat) {p : Program} {e : Env} {s : State} {m : MethodId} {below : List Frame} {meth : Method} {c : Code} {A : Nat → Prop} {Q : State → Prop} (hx : p.tables.exec = Jvm.exec) (hb : c.code = prog_17_method_9_code) (hml : c.maxLocals = 5) (hts : ∀ w ∈ WG, w.before ([.ref a0] : List Value).toArray s = true) (hown : s.vm.findClass "BallothallModel$Poll" = some m.cls) (hA : ∀ q, s.heap.size ≤ q → A q) (hG : KG z s) (hZ : XZ A s) (hk : ∀ (H : Heap) (locs : List Loc) (ls : Array Slot), va_P z.1 classes [(q0, .inl (z.2 8, 8, .inr (.inr (.inr (.inr (va_up (va_up (va_up (va_up (va_up (va_up (va_up (va_up g91 0 (some (r1 0))) 1 (some (r1 1))) 2 (some (r1 2))) 3 (some (r1 3))) 4 (some (r1 4))) 5 (some (r1 5))) 6 (some (r1 6))) 7 (some (r1 7)))))))), ((r1 0), .inl (z.2 0, 8, .inl (fun _ => 0))), ((r1 1), .inl (z.2 0, 8, .inl (fun _ => 0))), ((r1 2), .inl (z.2 0, 8, .inl (fun _ => 0))), ((r1 3), .inl (z.2 0, 8, .inl (fun _ => 0))), ((r1 4), .inl (z.2 0, 8, .inl (fun _ => 0))), ((r1 5), .inl (z.2 0, 8, .inl (fun _ => 0))), ((r1 6), .inl (z.2 0, 8, .inl (fun _ => 0))), ((r1 7), .inl (z.2 0, 8, .inl (fun _ => 0))), (a0, .inr (14, [.ref a1, .int 0, .ref a2, .ref a3, .int 0, .ref a4, .ref q0]))] H → va_D A [(q0, .inl (z.2 8, 8, .inr (.inr (.inr (.inr (va_up (va_up (va_up (va_up (va_up (va_up (va_up (va_up g91 0 (some (r1 0))) 1 (some (r1 1))) 2 (some (r1 2))) 3 (some (r1 3))) 4 (some (r1 4))) 5 (some (r1 5))) 6 (some (r1 6))) 7 (some (r1 7)))))))), ((r1 0), .inl (z.2 0, 8, .inl (fun _ => 0))), ((r1 1), .inl (z.2 0, 8, .inl (fun _ => 0))), ((r1 2), .inl (z.2 0, 8, .inl (fun _ => 0))), ((r1 3), .inl (z.2 0, 8, .inl (fun _ => 0))), ((r1 4), .inl (z.2 0, 8, .inl (fun _ => 0))), ((r1 5), .inl (z.2 0, 8, .inl (fun _ => 0))), ((r1 6), .inl (z.2 0, 8, .inl (fun _ => 0))), ((r1 7), .inl (z.2 0, 8, .inl (fun _ => 0))), (a0, .inr (14, [.ref a1, .int 0, .ref a2, .ref a3, .int 0, .ref a4, .ref q0]))] → va_S A s.heap H locs → lv_has ls 5 [(3, .int 4), (4, .int 8), (2, .int 5), (1, .ref q0), (0, .ref a0)] → W p l e (rmK 1 29 9 72) s m ([.ref a0] : List Value).toArray below meth c H locs 9 72 Q (F0 m 122 ls [])) (H : Heap) (locs : List Loc) (ls : Array Slot) (hP : va_P z.1 classes [(q0, .inl (z.2 8, 8, .inr (.inr (.inr (.inr (va_up (va_up (va_up (va_up (va_up (va_up (va_up (va_up g91 0 (some (r1 0))) 1 (some (r1 1))) 2 (some (r1 2))) 3 (some (r1 3))) 4 (some (r1 4))) 5 (some (r1 5))) 6 (some (r1 6))) 7 (some (r1 7)))))))), ((r1 0), .inl (z.2 0, 8, .inl (fun _ => 0))), ((r1 1), .inl (z.2 0, 8, .inl (fun _ => 0))), ((r1 2), .inl (z.2 0, 8, .inl (fun _ => 0))), ((r1 3), .inl (z.2 0, 8, .inl (fun _ => 0))), ((r1 4), .inl (z.2 0, 8, .inl (fun _ => 0))), ((r1 5), .inl (z.2 0, 8, .inl (fun _ => 0))), ((r1 6), .inl (z.2 0, 8, .inl (fun _ => 0))), ((r1 7), .inl (z.2 0, 8, .inl (fun _ => 0))), (a0, .inr (14, [.ref a1, .int 0, .ref a2, .ref a3, .int 0, .ref a4, .ref q0]))] H) (hD : va_D A [(q0, .inl (z.2 8, 8, .inr (.inr (.inr (.inr (va_up (va_up (va_up (va_up (va_up (va_up (va_up (va_up g91 0 (some (r1 0))) 1 (some (r1 1))) 2 (some (r1 2))) 3 (some (r1 3))) 4 (some (r1 4))) 5 (some (r1 5))) 6 (some (r1 6))) 7 (some (r1 7)))))))), ((r1 0), .inl (z.2 0, 8, .inl (fun _ => 0))), ((r1 1), .inl (z.2 0, 8, .inl (fun _ => 0))), ((r1 2), .inl (z.2 0, 8, .inl (fun _ => 0))), ((r1 3), .inl (z.2 0, 8, .inl (fun _ => 0))), ((r1 4), .inl (z.2 0, 8, .inl (fun _ => 0))), ((r1 5), .inl (z.2 0, 8, .inl (fun _ => 0))), ((r1 6), .inl (z.2 0, 8, .inl (fun _ => 0))), ((r1 7), .inl (z.2 0, 8, .inl (fun _ => 0))), (a0, .inr (14, [.ref a1, .int 0, .ref a2, .ref a3, .int 0, .ref a4, .ref q0]))]) (hS : va_S A s.heap H locs) (hl : lv_has ls 5 [(3, .int 3), (4, .int 8), (2, .int 5), (1, .ref q0), (0, .ref a0)]) : W p l e (rmK 1 29 9 72) s m ([.ref a0] : List Value).toArray below meth c H locs 9 72 Q (F0 m 122 ls []) := by
  refine lv_iload_n hx hb d_17_9_122 rfl (lv_at hl 0 rfl) ?_
  refine lv_bipush (v := 8) hx hb d_17_9_123 (by decide +kernel) ?_
  refine lv_icmp_ge (tgt := 196) hx hb d_17_9_125 (by decide) (fun c9 => absurd c9 (by decide +kernel)) (fun _ => ?_)
  refine lv_iconst (v := 0) hx hb d_17_9_128 (by decide +kernel) ?_
  refine lv_istore (lv' := [(4, .int 0), (3, .int 3), (2, .int 5), (1, .ref q0), (0, .ref a0)]) hx hb d_17_9_129 hl (by decide) rfl (fun ls hl => ?_)
  refine lv_iload hx hb d_17_9_131 (lv_at hl 0 rfl) ?_
  refine lv_bipush (v := 8) hx hb d_17_9_133 (by decide +kernel) ?_
  refine lv_icmp_ge (tgt := 190) hx hb d_17_9_135 (by decide) (fun c9 => absurd c9 (by decide +kernel)) (fun _ => ?_)
  refine lv_iload_n hx hb d_17_9_138 rfl (lv_at hl 1 rfl) ?_
  refine lv_iload hx hb d_17_9_139 (lv_at hl 0 rfl) ?_
  refine lv_icmp_eq (tgt := 184) hx hb d_17_9_141 (by decide) (fun c9 => absurd c9 (by decide +kernel)) (fun _ => ?_)
  refine lv_iload_n hx hb d_17_9_144 rfl (lv_at hl 1 rfl) ?_
  refine lv_iload_n hx hb d_17_9_145 rfl (lv_at hl 2 rfl) ?_
  refine lv_icmp_eq (tgt := 184) hx hb d_17_9_146 (by decide) (fun c9 => absurd c9 (by decide +kernel)) (fun _ => ?_)
  refine lv_iload hx hb d_17_9_149 (lv_at hl 0 rfl) ?_
  refine lv_iload_n hx hb d_17_9_151 rfl (lv_at hl 2 rfl) ?_
  refine lv_icmp_eq (tgt := 184) hx hb d_17_9_152 (by decide) (fun c9 => absurd c9 (by decide +kernel)) (fun _ => ?_)
  refine lv_aload_n hx hb d_17_9_155 rfl (lv_at hl 3 rfl) ?_
  refine lv_iload_n hx hb d_17_9_156 rfl (lv_at hl 1 rfl) ?_
  refine va_alda hx hb hG.1 hP 0 8 rfl rfl (vin rfl) d_17_9_157 ?_
  refine W.eq (g2 := F0 m 158 ls [.ref (r1 3)]) rfl ?_
  refine lv_iload hx hb d_17_9_158 (lv_at hl 0 rfl) ?_
  refine lv_aload_n hx hb d_17_9_160 rfl (lv_at hl 3 rfl) ?_
  refine lv_iload_n hx hb d_17_9_161 rfl (lv_at hl 1 rfl) ?_
  refine va_alda hx hb hG.1 hP 0 8 rfl rfl (vin rfl) d_17_9_162 ?_
  refine W.eq (g2 := F0 m 163 ls [.ref (r1 3), .int 0, .ref (r1 3)]) rfl ?_
  refine lv_iload hx hb d_17_9_163 (lv_at hl 0 rfl) ?_
  refine va_iald hx hb hG.1 hP 4 0 rfl rfl (vin rfl) d_17_9_165 ?_
  refine nrm (x1 := 0) rfl ?_
  refine lv_aload_n hx hb d_17_9_166 rfl (lv_at hl 3 rfl) ?_
  refine lv_iload_n hx hb d_17_9_167 rfl (lv_at hl 1 rfl) ?_
  refine va_alda hx hb hG.1 hP 0 8 rfl rfl (vin rfl) d_17_9_168 ?_
  refine W.eq (g2 := F0 m 169 ls [.ref (r1 3), .int 0, .int 0, .ref (r1 3)]) rfl ?_
  refine lv_iload_n hx hb d_17_9_169 rfl (lv_at hl 2 rfl) ?_
  refine va_iald hx hb hG.1 hP 4 0 rfl rfl (vin rfl) d_17_9_170 ?_
  refine nrm (x1 := 0) rfl ?_
  refine lv_aload_n hx hb d_17_9_171 rfl (lv_at hl 3 rfl) ?_
  refine lv_iload_n hx hb d_17_9_172 rfl (lv_at hl 2 rfl) ?_
  refine va_alda hx hb hG.1 hP 0 8 rfl rfl (vin rfl) d_17_9_173 ?_
  refine W.eq (g2 := F0 m 174 ls [.ref (r1 5), .int 0, .int 0, .int 0, .ref (r1 3)]) rfl ?_
  refine lv_iload hx hb d_17_9_174 (lv_at hl 0 rfl) ?_
  refine va_iald hx hb hG.1 hP 6 0 rfl rfl (vin rfl) d_17_9_176 ?_
  refine nrm (x1 := 0) rfl ?_
  refine va_mmin hx hb (by rw [hml]; exact hl.1.symm) hown (hts _ w_2304) (hts _ w_550) (hts _ w_18) (hts _ w_min) (Nat.le_of_ble_eq_true rfl) (Nat.le_of_ble_eq_true rfl) (Nat.le_of_ble_eq_true rfl) (Nat.le_of_ble_eq_true rfl) d_17_9_177 ?_
  refine nrm (x1 := 0) (by decide +kernel) ?_
  refine va_mmax hx hb (by rw [hml]; exact hl.1.symm) hown (hts _ w_2305) (hts _ w_630) (hts _ w_18) (hts _ w_max) (Nat.le_of_ble_eq_true rfl) (Nat.le_of_ble_eq_true rfl) (Nat.le_of_ble_eq_true rfl) (Nat.le_of_ble_eq_true rfl) d_17_9_180 ?_
  refine nrm (x1 := 0) (by decide +kernel) ?_
  refine va_iast hx hb hG.1 hP hD hS 4 0 rfl rfl (vin rfl) d_17_9_183 (fun H locs hP hD hS => ?_)
  rw [upd_z] at hP hD
  have hP : va_P z.1 classes [(q0, .inl (z.2 8, 8, .inr (.inr (.inr (.inr (va_up (va_up (va_up (va_up (va_up (va_up (va_up (va_up g91 0 (some (r1 0))) 1 (some (r1 1))) 2 (some (r1 2))) 3 (some (r1 3))) 4 (some (r1 4))) 5 (some (r1 5))) 6 (some (r1 6))) 7 (some (r1 7)))))))), ((r1 0), .inl (z.2 0, 8, .inl (fun _ => 0))), ((r1 1), .inl (z.2 0, 8, .inl (fun _ => 0))), ((r1 2), .inl (z.2 0, 8, .inl (fun _ => 0))), ((r1 3), .inl (z.2 0, 8, .inl (fun _ => 0))), ((r1 4), .inl (z.2 0, 8, .inl (fun _ => 0))), ((r1 5), .inl (z.2 0, 8, .inl (fun _ => 0))), ((r1 6), .inl (z.2 0, 8, .inl (fun _ => 0))), ((r1 7), .inl (z.2 0, 8, .inl (fun _ => 0))), (a0, .inr (14, [.ref a1, .int 0, .ref a2, .ref a3, .int 0, .ref a4, .ref q0]))] H := hP
  have hD : va_D A [(q0, .inl (z.2 8, 8, .inr (.inr (.inr (.inr (va_up (va_up (va_up (va_up (va_up (va_up (va_up (va_up g91 0 (some (r1 0))) 1 (some (r1 1))) 2 (some (r1 2))) 3 (some (r1 3))) 4 (some (r1 4))) 5 (some (r1 5))) 6 (some (r1 6))) 7 (some (r1 7)))))))), ((r1 0), .inl (z.2 0, 8, .inl (fun _ => 0))), ((r1 1), .inl (z.2 0, 8, .inl (fun _ => 0))), ((r1 2), .inl (z.2 0, 8, .inl (fun _ => 0))), ((r1 3), .inl (z.2 0, 8, .inl (fun _ => 0))), ((r1 4), .inl (z.2 0, 8, .inl (fun _ => 0))), ((r1 5), .inl (z.2 0, 8, .inl (fun _ => 0))), ((r1 6), .inl (z.2 0, 8, .inl (fun _ => 0))), ((r1 7), .inl (z.2 0, 8, .inl (fun _ => 0))), (a0, .inr (14, [.ref a1, .int 0, .ref a2, .ref a3, .int 0, .ref a4, .ref q0]))] := hD
  refine lv_iinc (v := 1) (lv' := [(4, .int 1), (3, .int 3), (2, .int 5), (1, .ref q0), (0, .ref a0)]) hx hb d_17_9_184 hl (k := 0) rfl (by decide +kernel) (by decide) rfl (fun ls hl => ?_)
  refine lv_goto (tgt := 131) hx hb d_17_9_187 (by decide) ?_
  refine lv_iload hx hb d_17_9_131 (lv_at hl 0 rfl) ?_
  refine lv_bipush (v := 8) hx hb d_17_9_133 (by decide +kernel) ?_
  refine lv_icmp_ge (tgt := 190) hx hb d_17_9_135 (by decide) (fun c9 => absurd c9 (by decide +kernel)) (fun _ => ?_)
  refine lv_iload_n hx hb d_17_9_138 rfl (lv_at hl 1 rfl) ?_
  refine lv_iload hx hb d_17_9_139 (lv_at hl 0 rfl) ?_
  refine lv_icmp_eq (tgt := 184) hx hb d_17_9_141 (by decide) (fun c9 => absurd c9 (by decide +kernel)) (fun _ => ?_)
  refine lv_iload_n hx hb d_17_9_144 rfl (lv_at hl 1 rfl) ?_
  refine lv_iload_n hx hb d_17_9_145 rfl (lv_at hl 2 rfl) ?_
  refine lv_icmp_eq (tgt := 184) hx hb d_17_9_146 (by decide) (fun c9 => absurd c9 (by decide +kernel)) (fun _ => ?_)
  refine lv_iload hx hb d_17_9_149 (lv_at hl 0 rfl) ?_
  refine lv_iload_n hx hb d_17_9_151 rfl (lv_at hl 2 rfl) ?_
  refine lv_icmp_eq (tgt := 184) hx hb d_17_9_152 (by decide) (fun c9 => absurd c9 (by decide +kernel)) (fun _ => ?_)
  refine lv_aload_n hx hb d_17_9_155 rfl (lv_at hl 3 rfl) ?_
  refine lv_iload_n hx hb d_17_9_156 rfl (lv_at hl 1 rfl) ?_
  refine va_alda hx hb hG.1 hP 0 8 rfl rfl (vin rfl) d_17_9_157 ?_
  refine W.eq (g2 := F0 m 158 ls [.ref (r1 3)]) rfl ?_
  refine lv_iload hx hb d_17_9_158 (lv_at hl 0 rfl) ?_
  refine lv_aload_n hx hb d_17_9_160 rfl (lv_at hl 3 rfl) ?_
  refine lv_iload_n hx hb d_17_9_161 rfl (lv_at hl 1 rfl) ?_
  refine va_alda hx hb hG.1 hP 0 8 rfl rfl (vin rfl) d_17_9_162 ?_
  refine W.eq (g2 := F0 m 163 ls [.ref (r1 3), .int 1, .ref (r1 3)]) rfl ?_
  refine lv_iload hx hb d_17_9_163 (lv_at hl 0 rfl) ?_
  refine va_iald hx hb hG.1 hP 4 0 rfl rfl (vin rfl) d_17_9_165 ?_
  refine nrm (x1 := 0) rfl ?_
  refine lv_aload_n hx hb d_17_9_166 rfl (lv_at hl 3 rfl) ?_
  refine lv_iload_n hx hb d_17_9_167 rfl (lv_at hl 1 rfl) ?_
  refine va_alda hx hb hG.1 hP 0 8 rfl rfl (vin rfl) d_17_9_168 ?_
  refine W.eq (g2 := F0 m 169 ls [.ref (r1 3), .int 0, .int 1, .ref (r1 3)]) rfl ?_
  refine lv_iload_n hx hb d_17_9_169 rfl (lv_at hl 2 rfl) ?_
  refine va_iald hx hb hG.1 hP 4 0 rfl rfl (vin rfl) d_17_9_170 ?_
  refine nrm (x1 := 0) rfl ?_
  refine lv_aload_n hx hb d_17_9_171 rfl (lv_at hl 3 rfl) ?_
  refine lv_iload_n hx hb d_17_9_172 rfl (lv_at hl 2 rfl) ?_
  refine va_alda hx hb hG.1 hP 0 8 rfl rfl (vin rfl) d_17_9_173 ?_
  refine W.eq (g2 := F0 m 174 ls [.ref (r1 5), .int 0, .int 0, .int 1, .ref (r1 3)]) rfl ?_
  refine lv_iload hx hb d_17_9_174 (lv_at hl 0 rfl) ?_
  refine va_iald hx hb hG.1 hP 6 0 rfl rfl (vin rfl) d_17_9_176 ?_
  refine nrm (x1 := 0) rfl ?_
  refine va_mmin hx hb (by rw [hml]; exact hl.1.symm) hown (hts _ w_2304) (hts _ w_550) (hts _ w_18) (hts _ w_min) (Nat.le_of_ble_eq_true rfl) (Nat.le_of_ble_eq_true rfl) (Nat.le_of_ble_eq_true rfl) (Nat.le_of_ble_eq_true rfl) d_17_9_177 ?_
  refine nrm (x1 := 0) (by decide +kernel) ?_
  refine va_mmax hx hb (by rw [hml]; exact hl.1.symm) hown (hts _ w_2305) (hts _ w_630) (hts _ w_18) (hts _ w_max) (Nat.le_of_ble_eq_true rfl) (Nat.le_of_ble_eq_true rfl) (Nat.le_of_ble_eq_true rfl) (Nat.le_of_ble_eq_true rfl) d_17_9_180 ?_
  refine nrm (x1 := 0) (by decide +kernel) ?_
  refine va_iast hx hb hG.1 hP hD hS 4 0 rfl rfl (vin rfl) d_17_9_183 (fun H locs hP hD hS => ?_)
  rw [upd_z] at hP hD
  have hP : va_P z.1 classes [(q0, .inl (z.2 8, 8, .inr (.inr (.inr (.inr (va_up (va_up (va_up (va_up (va_up (va_up (va_up (va_up g91 0 (some (r1 0))) 1 (some (r1 1))) 2 (some (r1 2))) 3 (some (r1 3))) 4 (some (r1 4))) 5 (some (r1 5))) 6 (some (r1 6))) 7 (some (r1 7)))))))), ((r1 0), .inl (z.2 0, 8, .inl (fun _ => 0))), ((r1 1), .inl (z.2 0, 8, .inl (fun _ => 0))), ((r1 2), .inl (z.2 0, 8, .inl (fun _ => 0))), ((r1 3), .inl (z.2 0, 8, .inl (fun _ => 0))), ((r1 4), .inl (z.2 0, 8, .inl (fun _ => 0))), ((r1 5), .inl (z.2 0, 8, .inl (fun _ => 0))), ((r1 6), .inl (z.2 0, 8, .inl (fun _ => 0))), ((r1 7), .inl (z.2 0, 8, .inl (fun _ => 0))), (a0, .inr (14, [.ref a1, .int 0, .ref a2, .ref a3, .int 0, .ref a4, .ref q0]))] H := hP
  have hD : va_D A [(q0, .inl (z.2 8, 8, .inr (.inr (.inr (.inr (va_up (va_up (va_up (va_up (va_up (va_up (va_up (va_up g91 0 (some (r1 0))) 1 (some (r1 1))) 2 (some (r1 2))) 3 (some (r1 3))) 4 (some (r1 4))) 5 (some (r1 5))) 6 (some (r1 6))) 7 (some (r1 7)))))))), ((r1 0), .inl (z.2 0, 8, .inl (fun _ => 0))), ((r1 1), .inl (z.2 0, 8, .inl (fun _ => 0))), ((r1 2), .inl (z.2 0, 8, .inl (fun _ => 0))), ((r1 3), .inl (z.2 0, 8, .inl (fun _ => 0))), ((r1 4), .inl (z.2 0, 8, .inl (fun _ => 0))), ((r1 5), .inl (z.2 0, 8, .inl (fun _ => 0))), ((r1 6), .inl (z.2 0, 8, .inl (fun _ => 0))), ((r1 7), .inl (z.2 0, 8, .inl (fun _ => 0))), (a0, .inr (14, [.ref a1, .int 0, .ref a2, .ref a3, .int 0, .ref a4, .ref q0]))] := hD
  refine lv_iinc (v := 2) (lv' := [(4, .int 2), (3, .int 3), (2, .int 5), (1, .ref q0), (0, .ref a0)]) hx hb d_17_9_184 hl (k := 0) rfl (by decide +kernel) (by decide) rfl (fun ls hl => ?_)
  refine lv_goto (tgt := 131) hx hb d_17_9_187 (by decide) ?_
  refine lv_iload hx hb d_17_9_131 (lv_at hl 0 rfl) ?_
  refine lv_bipush (v := 8) hx hb d_17_9_133 (by decide +kernel) ?_
  refine lv_icmp_ge (tgt := 190) hx hb d_17_9_135 (by decide) (fun c9 => absurd c9 (by decide +kernel)) (fun _ => ?_)
  refine lv_iload_n hx hb d_17_9_138 rfl (lv_at hl 1 rfl) ?_
  refine lv_iload hx hb d_17_9_139 (lv_at hl 0 rfl) ?_
  refine lv_icmp_eq (tgt := 184) hx hb d_17_9_141 (by decide) (fun c9 => absurd c9 (by decide +kernel)) (fun _ => ?_)
  refine lv_iload_n hx hb d_17_9_144 rfl (lv_at hl 1 rfl) ?_
  refine lv_iload_n hx hb d_17_9_145 rfl (lv_at hl 2 rfl) ?_
  refine lv_icmp_eq (tgt := 184) hx hb d_17_9_146 (by decide) (fun c9 => absurd c9 (by decide +kernel)) (fun _ => ?_)
  refine lv_iload hx hb d_17_9_149 (lv_at hl 0 rfl) ?_
  refine lv_iload_n hx hb d_17_9_151 rfl (lv_at hl 2 rfl) ?_
  refine lv_icmp_eq (tgt := 184) hx hb d_17_9_152 (by decide) (fun c9 => absurd c9 (by decide +kernel)) (fun _ => ?_)
  refine lv_aload_n hx hb d_17_9_155 rfl (lv_at hl 3 rfl) ?_
  refine lv_iload_n hx hb d_17_9_156 rfl (lv_at hl 1 rfl) ?_
  refine va_alda hx hb hG.1 hP 0 8 rfl rfl (vin rfl) d_17_9_157 ?_
  refine W.eq (g2 := F0 m 158 ls [.ref (r1 3)]) rfl ?_
  refine lv_iload hx hb d_17_9_158 (lv_at hl 0 rfl) ?_
  refine lv_aload_n hx hb d_17_9_160 rfl (lv_at hl 3 rfl) ?_
  refine lv_iload_n hx hb d_17_9_161 rfl (lv_at hl 1 rfl) ?_
  refine va_alda hx hb hG.1 hP 0 8 rfl rfl (vin rfl) d_17_9_162 ?_
  refine W.eq (g2 := F0 m 163 ls [.ref (r1 3), .int 2, .ref (r1 3)]) rfl ?_
  refine lv_iload hx hb d_17_9_163 (lv_at hl 0 rfl) ?_
  refine va_iald hx hb hG.1 hP 4 0 rfl rfl (vin rfl) d_17_9_165 ?_
  refine nrm (x1 := 0) rfl ?_
  refine lv_aload_n hx hb d_17_9_166 rfl (lv_at hl 3 rfl) ?_
  refine lv_iload_n hx hb d_17_9_167 rfl (lv_at hl 1 rfl) ?_
  refine va_alda hx hb hG.1 hP 0 8 rfl rfl (vin rfl) d_17_9_168 ?_
  refine W.eq (g2 := F0 m 169 ls [.ref (r1 3), .int 0, .int 2, .ref (r1 3)]) rfl ?_
  refine lv_iload_n hx hb d_17_9_169 rfl (lv_at hl 2 rfl) ?_
  refine va_iald hx hb hG.1 hP 4 0 rfl rfl (vin rfl) d_17_9_170 ?_
  refine nrm (x1 := 0) rfl ?_
  refine lv_aload_n hx hb d_17_9_171 rfl (lv_at hl 3 rfl) ?_
  refine lv_iload_n hx hb d_17_9_172 rfl (lv_at hl 2 rfl) ?_
  refine va_alda hx hb hG.1 hP 0 8 rfl rfl (vin rfl) d_17_9_173 ?_
  refine W.eq (g2 := F0 m 174 ls [.ref (r1 5), .int 0, .int 0, .int 2, .ref (r1 3)]) rfl ?_
  refine lv_iload hx hb d_17_9_174 (lv_at hl 0 rfl) ?_
  refine va_iald hx hb hG.1 hP 6 0 rfl rfl (vin rfl) d_17_9_176 ?_
  refine nrm (x1 := 0) rfl ?_
  refine va_mmin hx hb (by rw [hml]; exact hl.1.symm) hown (hts _ w_2304) (hts _ w_550) (hts _ w_18) (hts _ w_min) (Nat.le_of_ble_eq_true rfl) (Nat.le_of_ble_eq_true rfl) (Nat.le_of_ble_eq_true rfl) (Nat.le_of_ble_eq_true rfl) d_17_9_177 ?_
  refine nrm (x1 := 0) (by decide +kernel) ?_
  refine va_mmax hx hb (by rw [hml]; exact hl.1.symm) hown (hts _ w_2305) (hts _ w_630) (hts _ w_18) (hts _ w_max) (Nat.le_of_ble_eq_true rfl) (Nat.le_of_ble_eq_true rfl) (Nat.le_of_ble_eq_true rfl) (Nat.le_of_ble_eq_true rfl) d_17_9_180 ?_
  refine nrm (x1 := 0) (by decide +kernel) ?_
  refine va_iast hx hb hG.1 hP hD hS 4 0 rfl rfl (vin rfl) d_17_9_183 (fun H locs hP hD hS => ?_)
  rw [upd_z] at hP hD
  have hP : va_P z.1 classes [(q0, .inl (z.2 8, 8, .inr (.inr (.inr (.inr (va_up (va_up (va_up (va_up (va_up (va_up (va_up (va_up g91 0 (some (r1 0))) 1 (some (r1 1))) 2 (some (r1 2))) 3 (some (r1 3))) 4 (some (r1 4))) 5 (some (r1 5))) 6 (some (r1 6))) 7 (some (r1 7)))))))), ((r1 0), .inl (z.2 0, 8, .inl (fun _ => 0))), ((r1 1), .inl (z.2 0, 8, .inl (fun _ => 0))), ((r1 2), .inl (z.2 0, 8, .inl (fun _ => 0))), ((r1 3), .inl (z.2 0, 8, .inl (fun _ => 0))), ((r1 4), .inl (z.2 0, 8, .inl (fun _ => 0))), ((r1 5), .inl (z.2 0, 8, .inl (fun _ => 0))), ((r1 6), .inl (z.2 0, 8, .inl (fun _ => 0))), ((r1 7), .inl (z.2 0, 8, .inl (fun _ => 0))), (a0, .inr (14, [.ref a1, .int 0, .ref a2, .ref a3, .int 0, .ref a4, .ref q0]))] H := hP
  have hD : va_D A [(q0, .inl (z.2 8, 8, .inr (.inr (.inr (.inr (va_up (va_up (va_up (va_up (va_up (va_up (va_up (va_up g91 0 (some (r1 0))) 1 (some (r1 1))) 2 (some (r1 2))) 3 (some (r1 3))) 4 (some (r1 4))) 5 (some (r1 5))) 6 (some (r1 6))) 7 (some (r1 7)))))))), ((r1 0), .inl (z.2 0, 8, .inl (fun _ => 0))), ((r1 1), .inl (z.2 0, 8, .inl (fun _ => 0))), ((r1 2), .inl (z.2 0, 8, .inl (fun _ => 0))), ((r1 3), .inl (z.2 0, 8, .inl (fun _ => 0))), ((r1 4), .inl (z.2 0, 8, .inl (fun _ => 0))), ((r1 5), .inl (z.2 0, 8, .inl (fun _ => 0))), ((r1 6), .inl (z.2 0, 8, .inl (fun _ => 0))), ((r1 7), .inl (z.2 0, 8, .inl (fun _ => 0))), (a0, .inr (14, [.ref a1, .int 0, .ref a2, .ref a3, .int 0, .ref a4, .ref q0]))] := hD
  refine lv_iinc (v := 3) (lv' := [(4, .int 3), (3, .int 3), (2, .int 5), (1, .ref q0), (0, .ref a0)]) hx hb d_17_9_184 hl (k := 0) rfl (by decide +kernel) (by decide) rfl (fun ls hl => ?_)
  refine lv_goto (tgt := 131) hx hb d_17_9_187 (by decide) ?_
  refine lv_iload hx hb d_17_9_131 (lv_at hl 0 rfl) ?_
  refine lv_bipush (v := 8) hx hb d_17_9_133 (by decide +kernel) ?_
  refine lv_icmp_ge (tgt := 190) hx hb d_17_9_135 (by decide) (fun c9 => absurd c9 (by decide +kernel)) (fun _ => ?_)
  refine lv_iload_n hx hb d_17_9_138 rfl (lv_at hl 1 rfl) ?_
  refine lv_iload hx hb d_17_9_139 (lv_at hl 0 rfl) ?_
  refine lv_icmp_eq (tgt := 184) hx hb d_17_9_141 (by decide) (fun _ => ?_) (fun c9 => absurd (by decide +kernel) c9)
  refine lv_iinc (v := 4) (lv' := [(4, .int 4), (3, .int 3), (2, .int 5), (1, .ref q0), (0, .ref a0)]) hx hb d_17_9_184 hl (k := 0) rfl (by decide +kernel) (by decide) rfl (fun ls hl => ?_)
  refine lv_goto (tgt := 131) hx hb d_17_9_187 (by decide) ?_
  refine lv_iload hx hb d_17_9_131 (lv_at hl 0 rfl) ?_
  refine lv_bipush (v := 8) hx hb d_17_9_133 (by decide +kernel) ?_
  refine lv_icmp_ge (tgt := 190) hx hb d_17_9_135 (by decide) (fun c9 => absurd c9 (by decide +kernel)) (fun _ => ?_)
  refine lv_iload_n hx hb d_17_9_138 rfl (lv_at hl 1 rfl) ?_
  refine lv_iload hx hb d_17_9_139 (lv_at hl 0 rfl) ?_
  refine lv_icmp_eq (tgt := 184) hx hb d_17_9_141 (by decide) (fun c9 => absurd c9 (by decide +kernel)) (fun _ => ?_)
  refine lv_iload_n hx hb d_17_9_144 rfl (lv_at hl 1 rfl) ?_
  refine lv_iload_n hx hb d_17_9_145 rfl (lv_at hl 2 rfl) ?_
  refine lv_icmp_eq (tgt := 184) hx hb d_17_9_146 (by decide) (fun c9 => absurd c9 (by decide +kernel)) (fun _ => ?_)
  refine lv_iload hx hb d_17_9_149 (lv_at hl 0 rfl) ?_
  refine lv_iload_n hx hb d_17_9_151 rfl (lv_at hl 2 rfl) ?_
  refine lv_icmp_eq (tgt := 184) hx hb d_17_9_152 (by decide) (fun c9 => absurd c9 (by decide +kernel)) (fun _ => ?_)
  refine lv_aload_n hx hb d_17_9_155 rfl (lv_at hl 3 rfl) ?_
  refine lv_iload_n hx hb d_17_9_156 rfl (lv_at hl 1 rfl) ?_
  refine va_alda hx hb hG.1 hP 0 8 rfl rfl (vin rfl) d_17_9_157 ?_
  refine W.eq (g2 := F0 m 158 ls [.ref (r1 3)]) rfl ?_
  refine lv_iload hx hb d_17_9_158 (lv_at hl 0 rfl) ?_
  refine lv_aload_n hx hb d_17_9_160 rfl (lv_at hl 3 rfl) ?_
  refine lv_iload_n hx hb d_17_9_161 rfl (lv_at hl 1 rfl) ?_
  refine va_alda hx hb hG.1 hP 0 8 rfl rfl (vin rfl) d_17_9_162 ?_
  refine W.eq (g2 := F0 m 163 ls [.ref (r1 3), .int 4, .ref (r1 3)]) rfl ?_
  refine lv_iload hx hb d_17_9_163 (lv_at hl 0 rfl) ?_
  refine va_iald hx hb hG.1 hP 4 0 rfl rfl (vin rfl) d_17_9_165 ?_
  refine nrm (x1 := 0) rfl ?_
  refine lv_aload_n hx hb d_17_9_166 rfl (lv_at hl 3 rfl) ?_
  refine lv_iload_n hx hb d_17_9_167 rfl (lv_at hl 1 rfl) ?_
  refine va_alda hx hb hG.1 hP 0 8 rfl rfl (vin rfl) d_17_9_168 ?_
  refine W.eq (g2 := F0 m 169 ls [.ref (r1 3), .int 0, .int 4, .ref (r1 3)]) rfl ?_
  refine lv_iload_n hx hb d_17_9_169 rfl (lv_at hl 2 rfl) ?_
  refine va_iald hx hb hG.1 hP 4 0 rfl rfl (vin rfl) d_17_9_170 ?_
  refine nrm (x1 := 0) rfl ?_
  refine lv_aload_n hx hb d_17_9_171 rfl (lv_at hl 3 rfl) ?_
  refine lv_iload_n hx hb d_17_9_172 rfl (lv_at hl 2 rfl) ?_
  refine va_alda hx hb hG.1 hP 0 8 rfl rfl (vin rfl) d_17_9_173 ?_
  refine W.eq (g2 := F0 m 174 ls [.ref (r1 5), .int 0, .int 0, .int 4, .ref (r1 3)]) rfl ?_
  refine lv_iload hx hb d_17_9_174 (lv_at hl 0 rfl) ?_
  refine va_iald hx hb hG.1 hP 6 0 rfl rfl (vin rfl) d_17_9_176 ?_
  refine nrm (x1 := 0) rfl ?_
  refine va_mmin hx hb (by rw [hml]; exact hl.1.symm) hown (hts _ w_2304) (hts _ w_550) (hts _ w_18) (hts _ w_min) (Nat.le_of_ble_eq_true rfl) (Nat.le_of_ble_eq_true rfl) (Nat.le_of_ble_eq_true rfl) (Nat.le_of_ble_eq_true rfl) d_17_9_177 ?_
  refine nrm (x1 := 0) (by decide +kernel) ?_
  refine va_mmax hx hb (by rw [hml]; exact hl.1.symm) hown (hts _ w_2305) (hts _ w_630) (hts _ w_18) (hts _ w_max) (Nat.le_of_ble_eq_true rfl) (Nat.le_of_ble_eq_true rfl) (Nat.le_of_ble_eq_true rfl) (Nat.le_of_ble_eq_true rfl) d_17_9_180 ?_
  refine nrm (x1 := 0) (by decide +kernel) ?_
  refine va_iast hx hb hG.1 hP hD hS 4 0 rfl rfl (vin rfl) d_17_9_183 (fun H locs hP hD hS => ?_)
  rw [upd_z] at hP hD
  have hP : va_P z.1 classes [(q0, .inl (z.2 8, 8, .inr (.inr (.inr (.inr (va_up (va_up (va_up (va_up (va_up (va_up (va_up (va_up g91 0 (some (r1 0))) 1 (some (r1 1))) 2 (some (r1 2))) 3 (some (r1 3))) 4 (some (r1 4))) 5 (some (r1 5))) 6 (some (r1 6))) 7 (some (r1 7)))))))), ((r1 0), .inl (z.2 0, 8, .inl (fun _ => 0))), ((r1 1), .inl (z.2 0, 8, .inl (fun _ => 0))), ((r1 2), .inl (z.2 0, 8, .inl (fun _ => 0))), ((r1 3), .inl (z.2 0, 8, .inl (fun _ => 0))), ((r1 4), .inl (z.2 0, 8, .inl (fun _ => 0))), ((r1 5), .inl (z.2 0, 8, .inl (fun _ => 0))), ((r1 6), .inl (z.2 0, 8, .inl (fun _ => 0))), ((r1 7), .inl (z.2 0, 8, .inl (fun _ => 0))), (a0, .inr (14, [.ref a1, .int 0, .ref a2, .ref a3, .int 0, .ref a4, .ref q0]))] H := hP
  have hD : va_D A [(q0, .inl (z.2 8, 8, .inr (.inr (.inr (.inr (va_up (va_up (va_up (va_up (va_up (va_up (va_up (va_up g91 0 (some (r1 0))) 1 (some (r1 1))) 2 (some (r1 2))) 3 (some (r1 3))) 4 (some (r1 4))) 5 (some (r1 5))) 6 (some (r1 6))) 7 (some (r1 7)))))))), ((r1 0), .inl (z.2 0, 8, .inl (fun _ => 0))), ((r1 1), .inl (z.2 0, 8, .inl (fun _ => 0))), ((r1 2), .inl (z.2 0, 8, .inl (fun _ => 0))), ((r1 3), .inl (z.2 0, 8, .inl (fun _ => 0))), ((r1 4), .inl (z.2 0, 8, .inl (fun _ => 0))), ((r1 5), .inl (z.2 0, 8, .inl (fun _ => 0))), ((r1 6), .inl (z.2 0, 8, .inl (fun _ => 0))), ((r1 7), .inl (z.2 0, 8, .inl (fun _ => 0))), (a0, .inr (14, [.ref a1, .int 0, .ref a2, .ref a3, .int 0, .ref a4, .ref q0]))] := hD
  refine lv_iinc (v := 5) (lv' := [(4, .int 5), (3, .int 3), (2, .int 5), (1, .ref q0), (0, .ref a0)]) hx hb d_17_9_184 hl (k := 0) rfl (by decide +kernel) (by decide) rfl (fun ls hl => ?_)
  refine lv_goto (tgt := 131) hx hb d_17_9_187 (by decide) ?_
  refine lv_iload hx hb d_17_9_131 (lv_at hl 0 rfl) ?_
  refine lv_bipush (v := 8) hx hb d_17_9_133 (by decide +kernel) ?_
  refine lv_icmp_ge (tgt := 190) hx hb d_17_9_135 (by decide) (fun c9 => absurd c9 (by decide +kernel)) (fun _ => ?_)
  refine lv_iload_n hx hb d_17_9_138 rfl (lv_at hl 1 rfl) ?_
  refine lv_iload hx hb d_17_9_139 (lv_at hl 0 rfl) ?_
  refine lv_icmp_eq (tgt := 184) hx hb d_17_9_141 (by decide) (fun c9 => absurd c9 (by decide +kernel)) (fun _ => ?_)
  refine lv_iload_n hx hb d_17_9_144 rfl (lv_at hl 1 rfl) ?_
  refine lv_iload_n hx hb d_17_9_145 rfl (lv_at hl 2 rfl) ?_
  refine lv_icmp_eq (tgt := 184) hx hb d_17_9_146 (by decide) (fun c9 => absurd c9 (by decide +kernel)) (fun _ => ?_)
  refine lv_iload hx hb d_17_9_149 (lv_at hl 0 rfl) ?_
  refine lv_iload_n hx hb d_17_9_151 rfl (lv_at hl 2 rfl) ?_
  refine lv_icmp_eq (tgt := 184) hx hb d_17_9_152 (by decide) (fun _ => ?_) (fun c9 => absurd (by decide +kernel) c9)
  refine lv_iinc (v := 6) (lv' := [(4, .int 6), (3, .int 3), (2, .int 5), (1, .ref q0), (0, .ref a0)]) hx hb d_17_9_184 hl (k := 0) rfl (by decide +kernel) (by decide) rfl (fun ls hl => ?_)
  refine lv_goto (tgt := 131) hx hb d_17_9_187 (by decide) ?_
  refine lv_iload hx hb d_17_9_131 (lv_at hl 0 rfl) ?_
  refine lv_bipush (v := 8) hx hb d_17_9_133 (by decide +kernel) ?_
  refine lv_icmp_ge (tgt := 190) hx hb d_17_9_135 (by decide) (fun c9 => absurd c9 (by decide +kernel)) (fun _ => ?_)
  refine lv_iload_n hx hb d_17_9_138 rfl (lv_at hl 1 rfl) ?_
  refine lv_iload hx hb d_17_9_139 (lv_at hl 0 rfl) ?_
  refine lv_icmp_eq (tgt := 184) hx hb d_17_9_141 (by decide) (fun c9 => absurd c9 (by decide +kernel)) (fun _ => ?_)
  refine lv_iload_n hx hb d_17_9_144 rfl (lv_at hl 1 rfl) ?_
  refine lv_iload_n hx hb d_17_9_145 rfl (lv_at hl 2 rfl) ?_
  refine lv_icmp_eq (tgt := 184) hx hb d_17_9_146 (by decide) (fun c9 => absurd c9 (by decide +kernel)) (fun _ => ?_)
  refine lv_iload hx hb d_17_9_149 (lv_at hl 0 rfl) ?_
  refine lv_iload_n hx hb d_17_9_151 rfl (lv_at hl 2 rfl) ?_
  refine lv_icmp_eq (tgt := 184) hx hb d_17_9_152 (by decide) (fun c9 => absurd c9 (by decide +kernel)) (fun _ => ?_)
  refine lv_aload_n hx hb d_17_9_155 rfl (lv_at hl 3 rfl) ?_
  refine lv_iload_n hx hb d_17_9_156 rfl (lv_at hl 1 rfl) ?_
  refine va_alda hx hb hG.1 hP 0 8 rfl rfl (vin rfl) d_17_9_157 ?_
  refine W.eq (g2 := F0 m 158 ls [.ref (r1 3)]) rfl ?_
  refine lv_iload hx hb d_17_9_158 (lv_at hl 0 rfl) ?_
  refine lv_aload_n hx hb d_17_9_160 rfl (lv_at hl 3 rfl) ?_
  refine lv_iload_n hx hb d_17_9_161 rfl (lv_at hl 1 rfl) ?_
  refine va_alda hx hb hG.1 hP 0 8 rfl rfl (vin rfl) d_17_9_162 ?_
  refine W.eq (g2 := F0 m 163 ls [.ref (r1 3), .int 6, .ref (r1 3)]) rfl ?_
  refine lv_iload hx hb d_17_9_163 (lv_at hl 0 rfl) ?_
  refine va_iald hx hb hG.1 hP 4 0 rfl rfl (vin rfl) d_17_9_165 ?_
  refine nrm (x1 := 0) rfl ?_
  refine lv_aload_n hx hb d_17_9_166 rfl (lv_at hl 3 rfl) ?_
  refine lv_iload_n hx hb d_17_9_167 rfl (lv_at hl 1 rfl) ?_
  refine va_alda hx hb hG.1 hP 0 8 rfl rfl (vin rfl) d_17_9_168 ?_
  refine W.eq (g2 := F0 m 169 ls [.ref (r1 3), .int 0, .int 6, .ref (r1 3)]) rfl ?_
  refine lv_iload_n hx hb d_17_9_169 rfl (lv_at hl 2 rfl) ?_
  refine va_iald hx hb hG.1 hP 4 0 rfl rfl (vin rfl) d_17_9_170 ?_
  refine nrm (x1 := 0) rfl ?_
  refine lv_aload_n hx hb d_17_9_171 rfl (lv_at hl 3 rfl) ?_
  refine lv_iload_n hx hb d_17_9_172 rfl (lv_at hl 2 rfl) ?_
  refine va_alda hx hb hG.1 hP 0 8 rfl rfl (vin rfl) d_17_9_173 ?_
  refine W.eq (g2 := F0 m 174 ls [.ref (r1 5), .int 0, .int 0, .int 6, .ref (r1 3)]) rfl ?_
  refine lv_iload hx hb d_17_9_174 (lv_at hl 0 rfl) ?_
  refine va_iald hx hb hG.1 hP 6 0 rfl rfl (vin rfl) d_17_9_176 ?_
  refine nrm (x1 := 0) rfl ?_
  refine va_mmin hx hb (by rw [hml]; exact hl.1.symm) hown (hts _ w_2304) (hts _ w_550) (hts _ w_18) (hts _ w_min) (Nat.le_of_ble_eq_true rfl) (Nat.le_of_ble_eq_true rfl) (Nat.le_of_ble_eq_true rfl) (Nat.le_of_ble_eq_true rfl) d_17_9_177 ?_
  refine nrm (x1 := 0) (by decide +kernel) ?_
  refine va_mmax hx hb (by rw [hml]; exact hl.1.symm) hown (hts _ w_2305) (hts _ w_630) (hts _ w_18) (hts _ w_max) (Nat.le_of_ble_eq_true rfl) (Nat.le_of_ble_eq_true rfl) (Nat.le_of_ble_eq_true rfl) (Nat.le_of_ble_eq_true rfl) d_17_9_180 ?_
  refine nrm (x1 := 0) (by decide +kernel) ?_
  refine va_iast hx hb hG.1 hP hD hS 4 0 rfl rfl (vin rfl) d_17_9_183 (fun H locs hP hD hS => ?_)
  rw [upd_z] at hP hD
  have hP : va_P z.1 classes [(q0, .inl (z.2 8, 8, .inr (.inr (.inr (.inr (va_up (va_up (va_up (va_up (va_up (va_up (va_up (va_up g91 0 (some (r1 0))) 1 (some (r1 1))) 2 (some (r1 2))) 3 (some (r1 3))) 4 (some (r1 4))) 5 (some (r1 5))) 6 (some (r1 6))) 7 (some (r1 7)))))))), ((r1 0), .inl (z.2 0, 8, .inl (fun _ => 0))), ((r1 1), .inl (z.2 0, 8, .inl (fun _ => 0))), ((r1 2), .inl (z.2 0, 8, .inl (fun _ => 0))), ((r1 3), .inl (z.2 0, 8, .inl (fun _ => 0))), ((r1 4), .inl (z.2 0, 8, .inl (fun _ => 0))), ((r1 5), .inl (z.2 0, 8, .inl (fun _ => 0))), ((r1 6), .inl (z.2 0, 8, .inl (fun _ => 0))), ((r1 7), .inl (z.2 0, 8, .inl (fun _ => 0))), (a0, .inr (14, [.ref a1, .int 0, .ref a2, .ref a3, .int 0, .ref a4, .ref q0]))] H := hP
  have hD : va_D A [(q0, .inl (z.2 8, 8, .inr (.inr (.inr (.inr (va_up (va_up (va_up (va_up (va_up (va_up (va_up (va_up g91 0 (some (r1 0))) 1 (some (r1 1))) 2 (some (r1 2))) 3 (some (r1 3))) 4 (some (r1 4))) 5 (some (r1 5))) 6 (some (r1 6))) 7 (some (r1 7)))))))), ((r1 0), .inl (z.2 0, 8, .inl (fun _ => 0))), ((r1 1), .inl (z.2 0, 8, .inl (fun _ => 0))), ((r1 2), .inl (z.2 0, 8, .inl (fun _ => 0))), ((r1 3), .inl (z.2 0, 8, .inl (fun _ => 0))), ((r1 4), .inl (z.2 0, 8, .inl (fun _ => 0))), ((r1 5), .inl (z.2 0, 8, .inl (fun _ => 0))), ((r1 6), .inl (z.2 0, 8, .inl (fun _ => 0))), ((r1 7), .inl (z.2 0, 8, .inl (fun _ => 0))), (a0, .inr (14, [.ref a1, .int 0, .ref a2, .ref a3, .int 0, .ref a4, .ref q0]))] := hD
  refine lv_iinc (v := 7) (lv' := [(4, .int 7), (3, .int 3), (2, .int 5), (1, .ref q0), (0, .ref a0)]) hx hb d_17_9_184 hl (k := 0) rfl (by decide +kernel) (by decide) rfl (fun ls hl => ?_)
  refine lv_goto (tgt := 131) hx hb d_17_9_187 (by decide) ?_
  refine lv_iload hx hb d_17_9_131 (lv_at hl 0 rfl) ?_
  refine lv_bipush (v := 8) hx hb d_17_9_133 (by decide +kernel) ?_
  refine lv_icmp_ge (tgt := 190) hx hb d_17_9_135 (by decide) (fun c9 => absurd c9 (by decide +kernel)) (fun _ => ?_)
  refine lv_iload_n hx hb d_17_9_138 rfl (lv_at hl 1 rfl) ?_
  refine lv_iload hx hb d_17_9_139 (lv_at hl 0 rfl) ?_
  refine lv_icmp_eq (tgt := 184) hx hb d_17_9_141 (by decide) (fun c9 => absurd c9 (by decide +kernel)) (fun _ => ?_)
  refine lv_iload_n hx hb d_17_9_144 rfl (lv_at hl 1 rfl) ?_
  refine lv_iload_n hx hb d_17_9_145 rfl (lv_at hl 2 rfl) ?_
  refine lv_icmp_eq (tgt := 184) hx hb d_17_9_146 (by decide) (fun c9 => absurd c9 (by decide +kernel)) (fun _ => ?_)
  refine lv_iload hx hb d_17_9_149 (lv_at hl 0 rfl) ?_
  refine lv_iload_n hx hb d_17_9_151 rfl (lv_at hl 2 rfl) ?_
  refine lv_icmp_eq (tgt := 184) hx hb d_17_9_152 (by decide) (fun c9 => absurd c9 (by decide +kernel)) (fun _ => ?_)
  refine lv_aload_n hx hb d_17_9_155 rfl (lv_at hl 3 rfl) ?_
  refine lv_iload_n hx hb d_17_9_156 rfl (lv_at hl 1 rfl) ?_
  refine va_alda hx hb hG.1 hP 0 8 rfl rfl (vin rfl) d_17_9_157 ?_
  refine W.eq (g2 := F0 m 158 ls [.ref (r1 3)]) rfl ?_
  refine lv_iload hx hb d_17_9_158 (lv_at hl 0 rfl) ?_
  refine lv_aload_n hx hb d_17_9_160 rfl (lv_at hl 3 rfl) ?_
  refine lv_iload_n hx hb d_17_9_161 rfl (lv_at hl 1 rfl) ?_
  refine va_alda hx hb hG.1 hP 0 8 rfl rfl (vin rfl) d_17_9_162 ?_
  refine W.eq (g2 := F0 m 163 ls [.ref (r1 3), .int 7, .ref (r1 3)]) rfl ?_
  refine lv_iload hx hb d_17_9_163 (lv_at hl 0 rfl) ?_
  refine va_iald hx hb hG.1 hP 4 0 rfl rfl (vin rfl) d_17_9_165 ?_
  refine nrm (x1 := 0) rfl ?_
  refine lv_aload_n hx hb d_17_9_166 rfl (lv_at hl 3 rfl) ?_
  refine lv_iload_n hx hb d_17_9_167 rfl (lv_at hl 1 rfl) ?_
  refine va_alda hx hb hG.1 hP 0 8 rfl rfl (vin rfl) d_17_9_168 ?_
  refine W.eq (g2 := F0 m 169 ls [.ref (r1 3), .int 0, .int 7, .ref (r1 3)]) rfl ?_
  refine lv_iload_n hx hb d_17_9_169 rfl (lv_at hl 2 rfl) ?_
  refine va_iald hx hb hG.1 hP 4 0 rfl rfl (vin rfl) d_17_9_170 ?_
  refine nrm (x1 := 0) rfl ?_
  refine lv_aload_n hx hb d_17_9_171 rfl (lv_at hl 3 rfl) ?_
  refine lv_iload_n hx hb d_17_9_172 rfl (lv_at hl 2 rfl) ?_
  refine va_alda hx hb hG.1 hP 0 8 rfl rfl (vin rfl) d_17_9_173 ?_
  refine W.eq (g2 := F0 m 174 ls [.ref (r1 5), .int 0, .int 0, .int 7, .ref (r1 3)]) rfl ?_
  refine lv_iload hx hb d_17_9_174 (lv_at hl 0 rfl) ?_
  refine va_iald hx hb hG.1 hP 6 0 rfl rfl (vin rfl) d_17_9_176 ?_
  refine nrm (x1 := 0) rfl ?_
  refine va_mmin hx hb (by rw [hml]; exact hl.1.symm) hown (hts _ w_2304) (hts _ w_550) (hts _ w_18) (hts _ w_min) (Nat.le_of_ble_eq_true rfl) (Nat.le_of_ble_eq_true rfl) (Nat.le_of_ble_eq_true rfl) (Nat.le_of_ble_eq_true rfl) d_17_9_177 ?_
  refine nrm (x1 := 0) (by decide +kernel) ?_
  refine va_mmax hx hb (by rw [hml]; exact hl.1.symm) hown (hts _ w_2305) (hts _ w_630) (hts _ w_18) (hts _ w_max) (Nat.le_of_ble_eq_true rfl) (Nat.le_of_ble_eq_true rfl) (Nat.le_of_ble_eq_true rfl) (Nat.le_of_ble_eq_true rfl) d_17_9_180 ?_
  refine nrm (x1 := 0) (by decide +kernel) ?_
  refine va_iast hx hb hG.1 hP hD hS 4 0 rfl rfl (vin rfl) d_17_9_183 (fun H locs hP hD hS => ?_)
  rw [upd_z] at hP hD
  have hP : va_P z.1 classes [(q0, .inl (z.2 8, 8, .inr (.inr (.inr (.inr (va_up (va_up (va_up (va_up (va_up (va_up (va_up (va_up g91 0 (some (r1 0))) 1 (some (r1 1))) 2 (some (r1 2))) 3 (some (r1 3))) 4 (some (r1 4))) 5 (some (r1 5))) 6 (some (r1 6))) 7 (some (r1 7)))))))), ((r1 0), .inl (z.2 0, 8, .inl (fun _ => 0))), ((r1 1), .inl (z.2 0, 8, .inl (fun _ => 0))), ((r1 2), .inl (z.2 0, 8, .inl (fun _ => 0))), ((r1 3), .inl (z.2 0, 8, .inl (fun _ => 0))), ((r1 4), .inl (z.2 0, 8, .inl (fun _ => 0))), ((r1 5), .inl (z.2 0, 8, .inl (fun _ => 0))), ((r1 6), .inl (z.2 0, 8, .inl (fun _ => 0))), ((r1 7), .inl (z.2 0, 8, .inl (fun _ => 0))), (a0, .inr (14, [.ref a1, .int 0, .ref a2, .ref a3, .int 0, .ref a4, .ref q0]))] H := hP
  have hD : va_D A [(q0, .inl (z.2 8, 8, .inr (.inr (.inr (.inr (va_up (va_up (va_up (va_up (va_up (va_up (va_up (va_up g91 0 (some (r1 0))) 1 (some (r1 1))) 2 (some (r1 2))) 3 (some (r1 3))) 4 (some (r1 4))) 5 (some (r1 5))) 6 (some (r1 6))) 7 (some (r1 7)))))))), ((r1 0), .inl (z.2 0, 8, .inl (fun _ => 0))), ((r1 1), .inl (z.2 0, 8, .inl (fun _ => 0))), ((r1 2), .inl (z.2 0, 8, .inl (fun _ => 0))), ((r1 3), .inl (z.2 0, 8, .inl (fun _ => 0))), ((r1 4), .inl (z.2 0, 8, .inl (fun _ => 0))), ((r1 5), .inl (z.2 0, 8, .inl (fun _ => 0))), ((r1 6), .inl (z.2 0, 8, .inl (fun _ => 0))), ((r1 7), .inl (z.2 0, 8, .inl (fun _ => 0))), (a0, .inr (14, [.ref a1, .int 0, .ref a2, .ref a3, .int 0, .ref a4, .ref q0]))] := hD
  refine lv_iinc (v := 8) (lv' := [(4, .int 8), (3, .int 3), (2, .int 5), (1, .ref q0), (0, .ref a0)]) hx hb d_17_9_184 hl (k := 0) rfl (by decide +kernel) (by decide) rfl (fun ls hl => ?_)
  refine lv_goto (tgt := 131) hx hb d_17_9_187 (by decide) ?_
  refine lv_iload hx hb d_17_9_131 (lv_at hl 0 rfl) ?_
  refine lv_bipush (v := 8) hx hb d_17_9_133 (by decide +kernel) ?_
  refine lv_icmp_ge (tgt := 190) hx hb d_17_9_135 (by decide) (fun _ => ?_) (fun c9 => absurd (by decide +kernel) c9)
  refine lv_iinc (v := 4) (lv' := [(3, .int 4), (4, .int 8), (2, .int 5), (1, .ref q0), (0, .ref a0)]) hx hb d_17_9_190 hl (k := 1) rfl (by decide +kernel) (by decide) rfl (fun ls hl => ?_)
  refine lv_goto (tgt := 122) hx hb d_17_9_193 (by decide) ?_
  refine W.widen (k := 9) (n := 72) (Nat.le_of_ble_eq_true rfl) (Nat.le_of_ble_eq_true rfl) ?_
  exact hk H locs ls hP hD hS hl
set_option maxRecDepth 100000 in
set_option maxHeartbeats 4000000 in
theorem s368_paths (l : Launch) (z : Zz) (a0 : Nat) (a1 : Nat) (a2 : Nat) (a3 : Nat) (a4 : Nat) (g91 : Nat → Option Nat) (q0 : Nat) (r1 : Nat → Nat) {p : Program} {e : Env} {s : State} {m : MethodId} {below : List Frame} {meth : Method} {c : Code} {A : Nat → Prop} {Q : State → Prop} (hx : p.tables.exec = Jvm.exec) (hb : c.code = prog_17_method_9_code) (hml : c.maxLocals = 5) (hts : ∀ w ∈ WG, w.before ([.ref a0] : List Value).toArray s = true) (hown : s.vm.findClass "BallothallModel$Poll" = some m.cls) (hA : ∀ q, s.heap.size ≤ q → A q) (hG : KG z s) (hZ : XZ A s) (hk : ∀ (H : Heap) (locs : List Loc) (ls : Array Slot), va_P z.1 classes [(q0, .inl (z.2 8, 8, .inr (.inr (.inr (.inr (va_up (va_up (va_up (va_up (va_up (va_up (va_up (va_up g91 0 (some (r1 0))) 1 (some (r1 1))) 2 (some (r1 2))) 3 (some (r1 3))) 4 (some (r1 4))) 5 (some (r1 5))) 6 (some (r1 6))) 7 (some (r1 7)))))))), ((r1 0), .inl (z.2 0, 8, .inl (fun _ => 0))), ((r1 1), .inl (z.2 0, 8, .inl (fun _ => 0))), ((r1 2), .inl (z.2 0, 8, .inl (fun _ => 0))), ((r1 3), .inl (z.2 0, 8, .inl (fun _ => 0))), ((r1 4), .inl (z.2 0, 8, .inl (fun _ => 0))), ((r1 5), .inl (z.2 0, 8, .inl (fun _ => 0))), ((r1 6), .inl (z.2 0, 8, .inl (fun _ => 0))), ((r1 7), .inl (z.2 0, 8, .inl (fun _ => 0))), (a0, .inr (14, [.ref a1, .int 0, .ref a2, .ref a3, .int 0, .ref a4, .ref q0]))] H → va_D A [(q0, .inl (z.2 8, 8, .inr (.inr (.inr (.inr (va_up (va_up (va_up (va_up (va_up (va_up (va_up (va_up g91 0 (some (r1 0))) 1 (some (r1 1))) 2 (some (r1 2))) 3 (some (r1 3))) 4 (some (r1 4))) 5 (some (r1 5))) 6 (some (r1 6))) 7 (some (r1 7)))))))), ((r1 0), .inl (z.2 0, 8, .inl (fun _ => 0))), ((r1 1), .inl (z.2 0, 8, .inl (fun _ => 0))), ((r1 2), .inl (z.2 0, 8, .inl (fun _ => 0))), ((r1 3), .inl (z.2 0, 8, .inl (fun _ => 0))), ((r1 4), .inl (z.2 0, 8, .inl (fun _ => 0))), ((r1 5), .inl (z.2 0, 8, .inl (fun _ => 0))), ((r1 6), .inl (z.2 0, 8, .inl (fun _ => 0))), ((r1 7), .inl (z.2 0, 8, .inl (fun _ => 0))), (a0, .inr (14, [.ref a1, .int 0, .ref a2, .ref a3, .int 0, .ref a4, .ref q0]))] → va_S A s.heap H locs → lv_has ls 5 [(3, .int 5), (4, .int 8), (2, .int 5), (1, .ref q0), (0, .ref a0)] → W p l e (rmK 1 29 9 72) s m ([.ref a0] : List Value).toArray below meth c H locs 9 72 Q (F0 m 122 ls [])) (H : Heap) (locs : List Loc) (ls : Array Slot) (hP : va_P z.1 classes [(q0, .inl (z.2 8, 8, .inr (.inr (.inr (.inr (va_up (va_up (va_up (va_up (va_up (va_up (va_up (va_up g91 0 (some (r1 0))) 1 (some (r1 1))) 2 (some (r1 2))) 3 (some (r1 3))) 4 (some (r1 4))) 5 (some (r1 5))) 6 (some (r1 6))) 7 (some (r1 7)))))))), ((r1 0), .inl (z.2 0, 8, .inl (fun _ => 0))), ((r1 1), .inl (z.2 0, 8, .inl (fun _ => 0))), ((r1 2), .inl (z.2 0, 8, .inl (fun _ => 0))), ((r1 3), .inl (z.2 0, 8, .inl (fun _ => 0))), ((r1 4), .inl (z.2 0, 8, .inl (fun _ => 0))), ((r1 5), .inl (z.2 0, 8, .inl (fun _ => 0))), ((r1 6), .inl (z.2 0, 8, .inl (fun _ => 0))), ((r1 7), .inl (z.2 0, 8, .inl (fun _ => 0))), (a0, .inr (14, [.ref a1, .int 0, .ref a2, .ref a3, .int 0, .ref a4, .ref q0]))] H) (hD : va_D A [(q0, .inl (z.2 8, 8, .inr (.inr (.inr (.inr (va_up (va_up (va_up (va_up (va_up (va_up (va_up (va_up g91 0 (some (r1 0))) 1 (some (r1 1))) 2 (some (r1 2))) 3 (some (r1 3))) 4 (some (r1 4))) 5 (some (r1 5))) 6 (some (r1 6))) 7 (some (r1 7)))))))), ((r1 0), .inl (z.2 0, 8, .inl (fun _ => 0))), ((r1 1), .inl (z.2 0, 8, .inl (fun _ => 0))), ((r1 2), .inl (z.2 0, 8, .inl (fun _ => 0))), ((r1 3), .inl (z.2 0, 8, .inl (fun _ => 0))), ((r1 4), .inl (z.2 0, 8, .inl (fun _ => 0))), ((r1 5), .inl (z.2 0, 8, .inl (fun _ => 0))), ((r1 6), .inl (z.2 0, 8, .inl (fun _ => 0))), ((r1 7), .inl (z.2 0, 8, .inl (fun _ => 0))), (a0, .inr (14, [.ref a1, .int 0, .ref a2, .ref a3, .int 0, .ref a4, .ref q0]))]) (hS : va_S A s.heap H locs) (hl : lv_has ls 5 [(3, .int 4), (4, .int 8), (2, .int 5), (1, .ref q0), (0, .ref a0)]) : W p l e (rmK 1 29 9 72) s m ([.ref a0] : List Value).toArray below meth c H locs 9 72 Q (F0 m 122 ls []) := by
  refine lv_iload_n hx hb d_17_9_122 rfl (lv_at hl 0 rfl) ?_
  refine lv_bipush (v := 8) hx hb d_17_9_123 (by decide +kernel) ?_
  refine lv_icmp_ge (tgt := 196) hx hb d_17_9_125 (by decide) (fun c9 => absurd c9 (by decide +kernel)) (fun _ => ?_)
  refine lv_iconst (v := 0) hx hb d_17_9_128 (by decide +kernel) ?_
  refine lv_istore (lv' := [(4, .int 0), (3, .int 4), (2, .int 5), (1, .ref q0), (0, .ref a0)]) hx hb d_17_9_129 hl (by decide) rfl (fun ls hl => ?_)
  refine lv_iload hx hb d_17_9_131 (lv_at hl 0 rfl) ?_
  refine lv_bipush (v := 8) hx hb d_17_9_133 (by decide +kernel) ?_
  refine lv_icmp_ge (tgt := 190) hx hb d_17_9_135 (by decide) (fun c9 => absurd c9 (by decide +kernel)) (fun _ => ?_)
  refine lv_iload_n hx hb d_17_9_138 rfl (lv_at hl 1 rfl) ?_
  refine lv_iload hx hb d_17_9_139 (lv_at hl 0 rfl) ?_
  refine lv_icmp_eq (tgt := 184) hx hb d_17_9_141 (by decide) (fun c9 => absurd c9 (by decide +kernel)) (fun _ => ?_)
  refine lv_iload_n hx hb d_17_9_144 rfl (lv_at hl 1 rfl) ?_
  refine lv_iload_n hx hb d_17_9_145 rfl (lv_at hl 2 rfl) ?_
  refine lv_icmp_eq (tgt := 184) hx hb d_17_9_146 (by decide) (fun c9 => absurd c9 (by decide +kernel)) (fun _ => ?_)
  refine lv_iload hx hb d_17_9_149 (lv_at hl 0 rfl) ?_
  refine lv_iload_n hx hb d_17_9_151 rfl (lv_at hl 2 rfl) ?_
  refine lv_icmp_eq (tgt := 184) hx hb d_17_9_152 (by decide) (fun c9 => absurd c9 (by decide +kernel)) (fun _ => ?_)
  refine lv_aload_n hx hb d_17_9_155 rfl (lv_at hl 3 rfl) ?_
  refine lv_iload_n hx hb d_17_9_156 rfl (lv_at hl 1 rfl) ?_
  refine va_alda hx hb hG.1 hP 0 8 rfl rfl (vin rfl) d_17_9_157 ?_
  refine W.eq (g2 := F0 m 158 ls [.ref (r1 4)]) rfl ?_
  refine lv_iload hx hb d_17_9_158 (lv_at hl 0 rfl) ?_
  refine lv_aload_n hx hb d_17_9_160 rfl (lv_at hl 3 rfl) ?_
  refine lv_iload_n hx hb d_17_9_161 rfl (lv_at hl 1 rfl) ?_
  refine va_alda hx hb hG.1 hP 0 8 rfl rfl (vin rfl) d_17_9_162 ?_
  refine W.eq (g2 := F0 m 163 ls [.ref (r1 4), .int 0, .ref (r1 4)]) rfl ?_
  refine lv_iload hx hb d_17_9_163 (lv_at hl 0 rfl) ?_
  refine va_iald hx hb hG.1 hP 5 0 rfl rfl (vin rfl) d_17_9_165 ?_
  refine nrm (x1 := 0) rfl ?_
  refine lv_aload_n hx hb d_17_9_166 rfl (lv_at hl 3 rfl) ?_
  refine lv_iload_n hx hb d_17_9_167 rfl (lv_at hl 1 rfl) ?_
  refine va_alda hx hb hG.1 hP 0 8 rfl rfl (vin rfl) d_17_9_168 ?_
  refine W.eq (g2 := F0 m 169 ls [.ref (r1 4), .int 0, .int 0, .ref (r1 4)]) rfl ?_
  refine lv_iload_n hx hb d_17_9_169 rfl (lv_at hl 2 rfl) ?_
  refine va_iald hx hb hG.1 hP 5 0 rfl rfl (vin rfl) d_17_9_170 ?_
  refine nrm (x1 := 0) rfl ?_
  refine lv_aload_n hx hb d_17_9_171 rfl (lv_at hl 3 rfl) ?_
  refine lv_iload_n hx hb d_17_9_172 rfl (lv_at hl 2 rfl) ?_
  refine va_alda hx hb hG.1 hP 0 8 rfl rfl (vin rfl) d_17_9_173 ?_
  refine W.eq (g2 := F0 m 174 ls [.ref (r1 5), .int 0, .int 0, .int 0, .ref (r1 4)]) rfl ?_
  refine lv_iload hx hb d_17_9_174 (lv_at hl 0 rfl) ?_
  refine va_iald hx hb hG.1 hP 6 0 rfl rfl (vin rfl) d_17_9_176 ?_
  refine nrm (x1 := 0) rfl ?_
  refine va_mmin hx hb (by rw [hml]; exact hl.1.symm) hown (hts _ w_2304) (hts _ w_550) (hts _ w_18) (hts _ w_min) (Nat.le_of_ble_eq_true rfl) (Nat.le_of_ble_eq_true rfl) (Nat.le_of_ble_eq_true rfl) (Nat.le_of_ble_eq_true rfl) d_17_9_177 ?_
  refine nrm (x1 := 0) (by decide +kernel) ?_
  refine va_mmax hx hb (by rw [hml]; exact hl.1.symm) hown (hts _ w_2305) (hts _ w_630) (hts _ w_18) (hts _ w_max) (Nat.le_of_ble_eq_true rfl) (Nat.le_of_ble_eq_true rfl) (Nat.le_of_ble_eq_true rfl) (Nat.le_of_ble_eq_true rfl) d_17_9_180 ?_
  refine nrm (x1 := 0) (by decide +kernel) ?_
  refine va_iast hx hb hG.1 hP hD hS 5 0 rfl rfl (vin rfl) d_17_9_183 (fun H locs hP hD hS => ?_)
  rw [upd_z] at hP hD
  have hP : va_P z.1 classes [(q0, .inl (z.2 8, 8, .inr (.inr (.inr (.inr (va_up (va_up (va_up (va_up (va_up (va_up (va_up (va_up g91 0 (some (r1 0))) 1 (some (r1 1))) 2 (some (r1 2))) 3 (some (r1 3))) 4 (some (r1 4))) 5 (some (r1 5))) 6 (some (r1 6))) 7 (some (r1 7)))))))), ((r1 0), .inl (z.2 0, 8, .inl (fun _ => 0))), ((r1 1), .inl (z.2 0, 8, .inl (fun _ => 0))), ((r1 2), .inl (z.2 0, 8, .inl (fun _ => 0))), ((r1 3), .inl (z.2 0, 8, .inl (fun _ => 0))), ((r1 4), .inl (z.2 0, 8, .inl (fun _ => 0))), ((r1 5), .inl (z.2 0, 8, .inl (fun _ => 0))), ((r1 6), .inl (z.2 0, 8, .inl (fun _ => 0))), ((r1 7), .inl (z.2 0, 8, .inl (fun _ => 0))), (a0, .inr (14, [.ref a1, .int 0, .ref a2, .ref a3, .int 0, .ref a4, .ref q0]))] H := hP
  have hD : va_D A [(q0, .inl (z.2 8, 8, .inr (.inr (.inr (.inr (va_up (va_up (va_up (va_up (va_up (va_up (va_up (va_up g91 0 (some (r1 0))) 1 (some (r1 1))) 2 (some (r1 2))) 3 (some (r1 3))) 4 (some (r1 4))) 5 (some (r1 5))) 6 (some (r1 6))) 7 (some (r1 7)))))))), ((r1 0), .inl (z.2 0, 8, .inl (fun _ => 0))), ((r1 1), .inl (z.2 0, 8, .inl (fun _ => 0))), ((r1 2), .inl (z.2 0, 8, .inl (fun _ => 0))), ((r1 3), .inl (z.2 0, 8, .inl (fun _ => 0))), ((r1 4), .inl (z.2 0, 8, .inl (fun _ => 0))), ((r1 5), .inl (z.2 0, 8, .inl (fun _ => 0))), ((r1 6), .inl (z.2 0, 8, .inl (fun _ => 0))), ((r1 7), .inl (z.2 0, 8, .inl (fun _ => 0))), (a0, .inr (14, [.ref a1, .int 0, .ref a2, .ref a3, .int 0, .ref a4, .ref q0]))] := hD
  refine lv_iinc (v := 1) (lv' := [(4, .int 1), (3, .int 4), (2, .int 5), (1, .ref q0), (0, .ref a0)]) hx hb d_17_9_184 hl (k := 0) rfl (by decide +kernel) (by decide) rfl (fun ls hl => ?_)
  refine lv_goto (tgt := 131) hx hb d_17_9_187 (by decide) ?_
  refine lv_iload hx hb d_17_9_131 (lv_at hl 0 rfl) ?_
  refine lv_bipush (v := 8) hx hb d_17_9_133 (by decide +kernel) ?_
  refine lv_icmp_ge (tgt := 190) hx hb d_17_9_135 (by decide) (fun c9 => absurd c9 (by decide +kernel)) (fun _ => ?_)
  refine lv_iload_n hx hb d_17_9_138 rfl (lv_at hl 1 rfl) ?_
  refine lv_iload hx hb d_17_9_139 (lv_at hl 0 rfl) ?_
  refine lv_icmp_eq (tgt := 184) hx hb d_17_9_141 (by decide) (fun c9 => absurd c9 (by decide +kernel)) (fun _ => ?_)
  refine lv_iload_n hx hb d_17_9_144 rfl (lv_at hl 1 rfl) ?_
  refine lv_iload_n hx hb d_17_9_145 rfl (lv_at hl 2 rfl) ?_
  refine lv_icmp_eq (tgt := 184) hx hb d_17_9_146 (by decide) (fun c9 => absurd c9 (by decide +kernel)) (fun _ => ?_)
  refine lv_iload hx hb d_17_9_149 (lv_at hl 0 rfl) ?_
  refine lv_iload_n hx hb d_17_9_151 rfl (lv_at hl 2 rfl) ?_
  refine lv_icmp_eq (tgt := 184) hx hb d_17_9_152 (by decide) (fun c9 => absurd c9 (by decide +kernel)) (fun _ => ?_)
  refine lv_aload_n hx hb d_17_9_155 rfl (lv_at hl 3 rfl) ?_
  refine lv_iload_n hx hb d_17_9_156 rfl (lv_at hl 1 rfl) ?_
  refine va_alda hx hb hG.1 hP 0 8 rfl rfl (vin rfl) d_17_9_157 ?_
  refine W.eq (g2 := F0 m 158 ls [.ref (r1 4)]) rfl ?_
  refine lv_iload hx hb d_17_9_158 (lv_at hl 0 rfl) ?_
  refine lv_aload_n hx hb d_17_9_160 rfl (lv_at hl 3 rfl) ?_
  refine lv_iload_n hx hb d_17_9_161 rfl (lv_at hl 1 rfl) ?_
  refine va_alda hx hb hG.1 hP 0 8 rfl rfl (vin rfl) d_17_9_162 ?_
  refine W.eq (g2 := F0 m 163 ls [.ref (r1 4), .int 1, .ref (r1 4)]) rfl ?_
  refine lv_iload hx hb d_17_9_163 (lv_at hl 0 rfl) ?_
  refine va_iald hx hb hG.1 hP 5 0 rfl rfl (vin rfl) d_17_9_165 ?_
  refine nrm (x1 := 0) rfl ?_
  refine lv_aload_n hx hb d_17_9_166 rfl (lv_at hl 3 rfl) ?_
  refine lv_iload_n hx hb d_17_9_167 rfl (lv_at hl 1 rfl) ?_
  refine va_alda hx hb hG.1 hP 0 8 rfl rfl (vin rfl) d_17_9_168 ?_
  refine W.eq (g2 := F0 m 169 ls [.ref (r1 4), .int 0, .int 1, .ref (r1 4)]) rfl ?_
  refine lv_iload_n hx hb d_17_9_169 rfl (lv_at hl 2 rfl) ?_
  refine va_iald hx hb hG.1 hP 5 0 rfl rfl (vin rfl) d_17_9_170 ?_
  refine nrm (x1 := 0) rfl ?_
  refine lv_aload_n hx hb d_17_9_171 rfl (lv_at hl 3 rfl) ?_
  refine lv_iload_n hx hb d_17_9_172 rfl (lv_at hl 2 rfl) ?_
  refine va_alda hx hb hG.1 hP 0 8 rfl rfl (vin rfl) d_17_9_173 ?_
  refine W.eq (g2 := F0 m 174 ls [.ref (r1 5), .int 0, .int 0, .int 1, .ref (r1 4)]) rfl ?_
  refine lv_iload hx hb d_17_9_174 (lv_at hl 0 rfl) ?_
  refine va_iald hx hb hG.1 hP 6 0 rfl rfl (vin rfl) d_17_9_176 ?_
  refine nrm (x1 := 0) rfl ?_
  refine va_mmin hx hb (by rw [hml]; exact hl.1.symm) hown (hts _ w_2304) (hts _ w_550) (hts _ w_18) (hts _ w_min) (Nat.le_of_ble_eq_true rfl) (Nat.le_of_ble_eq_true rfl) (Nat.le_of_ble_eq_true rfl) (Nat.le_of_ble_eq_true rfl) d_17_9_177 ?_
  refine nrm (x1 := 0) (by decide +kernel) ?_
  refine va_mmax hx hb (by rw [hml]; exact hl.1.symm) hown (hts _ w_2305) (hts _ w_630) (hts _ w_18) (hts _ w_max) (Nat.le_of_ble_eq_true rfl) (Nat.le_of_ble_eq_true rfl) (Nat.le_of_ble_eq_true rfl) (Nat.le_of_ble_eq_true rfl) d_17_9_180 ?_
  refine nrm (x1 := 0) (by decide +kernel) ?_
  refine va_iast hx hb hG.1 hP hD hS 5 0 rfl rfl (vin rfl) d_17_9_183 (fun H locs hP hD hS => ?_)
  rw [upd_z] at hP hD
  have hP : va_P z.1 classes [(q0, .inl (z.2 8, 8, .inr (.inr (.inr (.inr (va_up (va_up (va_up (va_up (va_up (va_up (va_up (va_up g91 0 (some (r1 0))) 1 (some (r1 1))) 2 (some (r1 2))) 3 (some (r1 3))) 4 (some (r1 4))) 5 (some (r1 5))) 6 (some (r1 6))) 7 (some (r1 7)))))))), ((r1 0), .inl (z.2 0, 8, .inl (fun _ => 0))), ((r1 1), .inl (z.2 0, 8, .inl (fun _ => 0))), ((r1 2), .inl (z.2 0, 8, .inl (fun _ => 0))), ((r1 3), .inl (z.2 0, 8, .inl (fun _ => 0))), ((r1 4), .inl (z.2 0, 8, .inl (fun _ => 0))), ((r1 5), .inl (z.2 0, 8, .inl (fun _ => 0))), ((r1 6), .inl (z.2 0, 8, .inl (fun _ => 0))), ((r1 7), .inl (z.2 0, 8, .inl (fun _ => 0))), (a0, .inr (14, [.ref a1, .int 0, .ref a2, .ref a3, .int 0, .ref a4, .ref q0]))] H := hP
  have hD : va_D A [(q0, .inl (z.2 8, 8, .inr (.inr (.inr (.inr (va_up (va_up (va_up (va_up (va_up (va_up (va_up (va_up g91 0 (some (r1 0))) 1 (some (r1 1))) 2 (some (r1 2))) 3 (some (r1 3))) 4 (some (r1 4))) 5 (some (r1 5))) 6 (some (r1 6))) 7 (some (r1 7)))))))), ((r1 0), .inl (z.2 0, 8, .inl (fun _ => 0))), ((r1 1), .inl (z.2 0, 8, .inl (fun _ => 0))), ((r1 2), .inl (z.2 0, 8, .inl (fun _ => 0))), ((r1 3), .inl (z.2 0, 8, .inl (fun _ => 0))), ((r1 4), .inl (z.2 0, 8, .inl (fun _ => 0))), ((r1 5), .inl (z.2 0, 8, .inl (fun _ => 0))), ((r1 6), .inl (z.2 0, 8, .inl (fun _ => 0))), ((r1 7), .inl (z.2 0, 8, .inl (fun _ => 0))), (a0, .inr (14, [.ref a1, .int 0, .ref a2, .ref a3, .int 0, .ref a4, .ref q0]))] := hD
  refine lv_iinc (v := 2) (lv' := [(4, .int 2), (3, .int 4), (2, .int 5), (1, .ref q0), (0, .ref a0)]) hx hb d_17_9_184 hl (k := 0) rfl (by decide +kernel) (by decide) rfl (fun ls hl => ?_)
  refine lv_goto (tgt := 131) hx hb d_17_9_187 (by decide) ?_
  refine lv_iload hx hb d_17_9_131 (lv_at hl 0 rfl) ?_
  refine lv_bipush (v := 8) hx hb d_17_9_133 (by decide +kernel) ?_
  refine lv_icmp_ge (tgt := 190) hx hb d_17_9_135 (by decide) (fun c9 => absurd c9 (by decide +kernel)) (fun _ => ?_)
  refine lv_iload_n hx hb d_17_9_138 rfl (lv_at hl 1 rfl) ?_
  refine lv_iload hx hb d_17_9_139 (lv_at hl 0 rfl) ?_
  refine lv_icmp_eq (tgt := 184) hx hb d_17_9_141 (by decide) (fun c9 => absurd c9 (by decide +kernel)) (fun _ => ?_)
  refine lv_iload_n hx hb d_17_9_144 rfl (lv_at hl 1 rfl) ?_
  refine lv_iload_n hx hb d_17_9_145 rfl (lv_at hl 2 rfl) ?_
  refine lv_icmp_eq (tgt := 184) hx hb d_17_9_146 (by decide) (fun c9 => absurd c9 (by decide +kernel)) (fun _ => ?_)
  refine lv_iload hx hb d_17_9_149 (lv_at hl 0 rfl) ?_
  refine lv_iload_n hx hb d_17_9_151 rfl (lv_at hl 2 rfl) ?_
  refine lv_icmp_eq (tgt := 184) hx hb d_17_9_152 (by decide) (fun c9 => absurd c9 (by decide +kernel)) (fun _ => ?_)
  refine lv_aload_n hx hb d_17_9_155 rfl (lv_at hl 3 rfl) ?_
  refine lv_iload_n hx hb d_17_9_156 rfl (lv_at hl 1 rfl) ?_
  refine va_alda hx hb hG.1 hP 0 8 rfl rfl (vin rfl) d_17_9_157 ?_
  refine W.eq (g2 := F0 m 158 ls [.ref (r1 4)]) rfl ?_
  refine lv_iload hx hb d_17_9_158 (lv_at hl 0 rfl) ?_
  refine lv_aload_n hx hb d_17_9_160 rfl (lv_at hl 3 rfl) ?_
  refine lv_iload_n hx hb d_17_9_161 rfl (lv_at hl 1 rfl) ?_
  refine va_alda hx hb hG.1 hP 0 8 rfl rfl (vin rfl) d_17_9_162 ?_
  refine W.eq (g2 := F0 m 163 ls [.ref (r1 4), .int 2, .ref (r1 4)]) rfl ?_
  refine lv_iload hx hb d_17_9_163 (lv_at hl 0 rfl) ?_
  refine va_iald hx hb hG.1 hP 5 0 rfl rfl (vin rfl) d_17_9_165 ?_
  refine nrm (x1 := 0) rfl ?_
  refine lv_aload_n hx hb d_17_9_166 rfl (lv_at hl 3 rfl) ?_
  refine lv_iload_n hx hb d_17_9_167 rfl (lv_at hl 1 rfl) ?_
  refine va_alda hx hb hG.1 hP 0 8 rfl rfl (vin rfl) d_17_9_168 ?_
  refine W.eq (g2 := F0 m 169 ls [.ref (r1 4), .int 0, .int 2, .ref (r1 4)]) rfl ?_
  refine lv_iload_n hx hb d_17_9_169 rfl (lv_at hl 2 rfl) ?_
  refine va_iald hx hb hG.1 hP 5 0 rfl rfl (vin rfl) d_17_9_170 ?_
  refine nrm (x1 := 0) rfl ?_
  refine lv_aload_n hx hb d_17_9_171 rfl (lv_at hl 3 rfl) ?_
  refine lv_iload_n hx hb d_17_9_172 rfl (lv_at hl 2 rfl) ?_
  refine va_alda hx hb hG.1 hP 0 8 rfl rfl (vin rfl) d_17_9_173 ?_
  refine W.eq (g2 := F0 m 174 ls [.ref (r1 5), .int 0, .int 0, .int 2, .ref (r1 4)]) rfl ?_
  refine lv_iload hx hb d_17_9_174 (lv_at hl 0 rfl) ?_
  refine va_iald hx hb hG.1 hP 6 0 rfl rfl (vin rfl) d_17_9_176 ?_
  refine nrm (x1 := 0) rfl ?_
  refine va_mmin hx hb (by rw [hml]; exact hl.1.symm) hown (hts _ w_2304) (hts _ w_550) (hts _ w_18) (hts _ w_min) (Nat.le_of_ble_eq_true rfl) (Nat.le_of_ble_eq_true rfl) (Nat.le_of_ble_eq_true rfl) (Nat.le_of_ble_eq_true rfl) d_17_9_177 ?_
  refine nrm (x1 := 0) (by decide +kernel) ?_
  refine va_mmax hx hb (by rw [hml]; exact hl.1.symm) hown (hts _ w_2305) (hts _ w_630) (hts _ w_18) (hts _ w_max) (Nat.le_of_ble_eq_true rfl) (Nat.le_of_ble_eq_true rfl) (Nat.le_of_ble_eq_true rfl) (Nat.le_of_ble_eq_true rfl) d_17_9_180 ?_
  refine nrm (x1 := 0) (by decide +kernel) ?_
  refine va_iast hx hb hG.1 hP hD hS 5 0 rfl rfl (vin rfl) d_17_9_183 (fun H locs hP hD hS => ?_)
  rw [upd_z] at hP hD
  have hP : va_P z.1 classes [(q0, .inl (z.2 8, 8, .inr (.inr (.inr (.inr (va_up (va_up (va_up (va_up (va_up (va_up (va_up (va_up g91 0 (some (r1 0))) 1 (some (r1 1))) 2 (some (r1 2))) 3 (some (r1 3))) 4 (some (r1 4))) 5 (some (r1 5))) 6 (some (r1 6))) 7 (some (r1 7)))))))), ((r1 0), .inl (z.2 0, 8, .inl (fun _ => 0))), ((r1 1), .inl (z.2 0, 8, .inl (fun _ => 0))), ((r1 2), .inl (z.2 0, 8, .inl (fun _ => 0))), ((r1 3), .inl (z.2 0, 8, .inl (fun _ => 0))), ((r1 4), .inl (z.2 0, 8, .inl (fun _ => 0))), ((r1 5), .inl (z.2 0, 8, .inl (fun _ => 0))), ((r1 6), .inl (z.2 0, 8, .inl (fun _ => 0))), ((r1 7), .inl (z.2 0, 8, .inl (fun _ => 0))), (a0, .inr (14, [.ref a1, .int 0, .ref a2, .ref a3, .int 0, .ref a4, .ref q0]))] H := hP
  have hD : va_D A [(q0, .inl (z.2 8, 8, .inr (.inr (.inr (.inr (va_up (va_up (va_up (va_up (va_up (va_up (va_up (va_up g91 0 (some (r1 0))) 1 (some (r1 1))) 2 (some (r1 2))) 3 (some (r1 3))) 4 (some (r1 4))) 5 (some (r1 5))) 6 (some (r1 6))) 7 (some (r1 7)))))))), ((r1 0), .inl (z.2 0, 8, .inl (fun _ => 0))), ((r1 1), .inl (z.2 0, 8, .inl (fun _ => 0))), ((r1 2), .inl (z.2 0, 8, .inl (fun _ => 0))), ((r1 3), .inl (z.2 0, 8, .inl (fun _ => 0))), ((r1 4), .inl (z.2 0, 8, .inl (fun _ => 0))), ((r1 5), .inl (z.2 0, 8, .inl (fun _ => 0))), ((r1 6), .inl (z.2 0, 8, .inl (fun _ => 0))), ((r1 7), .inl (z.2 0, 8, .inl (fun _ => 0))), (a0, .inr (14, [.ref a1, .int 0, .ref a2, .ref a3, .int 0, .ref a4, .ref q0]))] := hD
  refine lv_iinc (v := 3) (lv' := [(4, .int 3), (3, .int 4), (2, .int 5), (1, .ref q0), (0, .ref a0)]) hx hb d_17_9_184 hl (k := 0) rfl (by decide +kernel) (by decide) rfl (fun ls hl => ?_)
  refine lv_goto (tgt := 131) hx hb d_17_9_187 (by decide) ?_
  refine lv_iload hx hb d_17_9_131 (lv_at hl 0 rfl) ?_
  refine lv_bipush (v := 8) hx hb d_17_9_133 (by decide +kernel) ?_
  refine lv_icmp_ge (tgt := 190) hx hb d_17_9_135 (by decide) (fun c9 => absurd c9 (by decide +kernel)) (fun _ => ?_)
  refine lv_iload_n hx hb d_17_9_138 rfl (lv_at hl 1 rfl) ?_
  refine lv_iload hx hb d_17_9_139 (lv_at hl 0 rfl) ?_
  refine lv_icmp_eq (tgt := 184) hx hb d_17_9_141 (by decide) (fun c9 => absurd c9 (by decide +kernel)) (fun _ => ?_)
  refine lv_iload_n hx hb d_17_9_144 rfl (lv_at hl 1 rfl) ?_
  refine lv_iload_n hx hb d_17_9_145 rfl (lv_at hl 2 rfl) ?_
  refine lv_icmp_eq (tgt := 184) hx hb d_17_9_146 (by decide) (fun c9 => absurd c9 (by decide +kernel)) (fun _ => ?_)
  refine lv_iload hx hb d_17_9_149 (lv_at hl 0 rfl) ?_
  refine lv_iload_n hx hb d_17_9_151 rfl (lv_at hl 2 rfl) ?_
  refine lv_icmp_eq (tgt := 184) hx hb d_17_9_152 (by decide) (fun c9 => absurd c9 (by decide +kernel)) (fun _ => ?_)
  refine lv_aload_n hx hb d_17_9_155 rfl (lv_at hl 3 rfl) ?_
  refine lv_iload_n hx hb d_17_9_156 rfl (lv_at hl 1 rfl) ?_
  refine va_alda hx hb hG.1 hP 0 8 rfl rfl (vin rfl) d_17_9_157 ?_
  refine W.eq (g2 := F0 m 158 ls [.ref (r1 4)]) rfl ?_
  refine lv_iload hx hb d_17_9_158 (lv_at hl 0 rfl) ?_
  refine lv_aload_n hx hb d_17_9_160 rfl (lv_at hl 3 rfl) ?_
  refine lv_iload_n hx hb d_17_9_161 rfl (lv_at hl 1 rfl) ?_
  refine va_alda hx hb hG.1 hP 0 8 rfl rfl (vin rfl) d_17_9_162 ?_
  refine W.eq (g2 := F0 m 163 ls [.ref (r1 4), .int 3, .ref (r1 4)]) rfl ?_
  refine lv_iload hx hb d_17_9_163 (lv_at hl 0 rfl) ?_
  refine va_iald hx hb hG.1 hP 5 0 rfl rfl (vin rfl) d_17_9_165 ?_
  refine nrm (x1 := 0) rfl ?_
  refine lv_aload_n hx hb d_17_9_166 rfl (lv_at hl 3 rfl) ?_
  refine lv_iload_n hx hb d_17_9_167 rfl (lv_at hl 1 rfl) ?_
  refine va_alda hx hb hG.1 hP 0 8 rfl rfl (vin rfl) d_17_9_168 ?_
  refine W.eq (g2 := F0 m 169 ls [.ref (r1 4), .int 0, .int 3, .ref (r1 4)]) rfl ?_
  refine lv_iload_n hx hb d_17_9_169 rfl (lv_at hl 2 rfl) ?_
  refine va_iald hx hb hG.1 hP 5 0 rfl rfl (vin rfl) d_17_9_170 ?_
  refine nrm (x1 := 0) rfl ?_
  refine lv_aload_n hx hb d_17_9_171 rfl (lv_at hl 3 rfl) ?_
  refine lv_iload_n hx hb d_17_9_172 rfl (lv_at hl 2 rfl) ?_
  refine va_alda hx hb hG.1 hP 0 8 rfl rfl (vin rfl) d_17_9_173 ?_
  refine W.eq (g2 := F0 m 174 ls [.ref (r1 5), .int 0, .int 0, .int 3, .ref (r1 4)]) rfl ?_
  refine lv_iload hx hb d_17_9_174 (lv_at hl 0 rfl) ?_
  refine va_iald hx hb hG.1 hP 6 0 rfl rfl (vin rfl) d_17_9_176 ?_
  refine nrm (x1 := 0) rfl ?_
  refine va_mmin hx hb (by rw [hml]; exact hl.1.symm) hown (hts _ w_2304) (hts _ w_550) (hts _ w_18) (hts _ w_min) (Nat.le_of_ble_eq_true rfl) (Nat.le_of_ble_eq_true rfl) (Nat.le_of_ble_eq_true rfl) (Nat.le_of_ble_eq_true rfl) d_17_9_177 ?_
  refine nrm (x1 := 0) (by decide +kernel) ?_
  refine va_mmax hx hb (by rw [hml]; exact hl.1.symm) hown (hts _ w_2305) (hts _ w_630) (hts _ w_18) (hts _ w_max) (Nat.le_of_ble_eq_true rfl) (Nat.le_of_ble_eq_true rfl) (Nat.le_of_ble_eq_true rfl) (Nat.le_of_ble_eq_true rfl) d_17_9_180 ?_
  refine nrm (x1 := 0) (by decide +kernel) ?_
  refine va_iast hx hb hG.1 hP hD hS 5 0 rfl rfl (vin rfl) d_17_9_183 (fun H locs hP hD hS => ?_)
  rw [upd_z] at hP hD
  have hP : va_P z.1 classes [(q0, .inl (z.2 8, 8, .inr (.inr (.inr (.inr (va_up (va_up (va_up (va_up (va_up (va_up (va_up (va_up g91 0 (some (r1 0))) 1 (some (r1 1))) 2 (some (r1 2))) 3 (some (r1 3))) 4 (some (r1 4))) 5 (some (r1 5))) 6 (some (r1 6))) 7 (some (r1 7)))))))), ((r1 0), .inl (z.2 0, 8, .inl (fun _ => 0))), ((r1 1), .inl (z.2 0, 8, .inl (fun _ => 0))), ((r1 2), .inl (z.2 0, 8, .inl (fun _ => 0))), ((r1 3), .inl (z.2 0, 8, .inl (fun _ => 0))), ((r1 4), .inl (z.2 0, 8, .inl (fun _ => 0))), ((r1 5), .inl (z.2 0, 8, .inl (fun _ => 0))), ((r1 6), .inl (z.2 0, 8, .inl (fun _ => 0))), ((r1 7), .inl (z.2 0, 8, .inl (fun _ => 0))), (a0, .inr (14, [.ref a1, .int 0, .ref a2, .ref a3, .int 0, .ref a4, .ref q0]))] H := hP
  have hD : va_D A [(q0, .inl (z.2 8, 8, .inr (.inr (.inr (.inr (va_up (va_up (va_up (va_up (va_up (va_up (va_up (va_up g91 0 (some (r1 0))) 1 (some (r1 1))) 2 (some (r1 2))) 3 (some (r1 3))) 4 (some (r1 4))) 5 (some (r1 5))) 6 (some (r1 6))) 7 (some (r1 7)))))))), ((r1 0), .inl (z.2 0, 8, .inl (fun _ => 0))), ((r1 1), .inl (z.2 0, 8, .inl (fun _ => 0))), ((r1 2), .inl (z.2 0, 8, .inl (fun _ => 0))), ((r1 3), .inl (z.2 0, 8, .inl (fun _ => 0))), ((r1 4), .inl (z.2 0, 8, .inl (fun _ => 0))), ((r1 5), .inl (z.2 0, 8, .inl (fun _ => 0))), ((r1 6), .inl (z.2 0, 8, .inl (fun _ => 0))), ((r1 7), .inl (z.2 0, 8, .inl (fun _ => 0))), (a0, .inr (14, [.ref a1, .int 0, .ref a2, .ref a3, .int 0, .ref a4, .ref q0]))] := hD
  refine lv_iinc (v := 4) (lv' := [(4, .int 4), (3, .int 4), (2, .int 5), (1, .ref q0), (0, .ref a0)]) hx hb d_17_9_184 hl (k := 0) rfl (by decide +kernel) (by decide) rfl (fun ls hl => ?_)
  refine lv_goto (tgt := 131) hx hb d_17_9_187 (by decide) ?_
  refine lv_iload hx hb d_17_9_131 (lv_at hl 0 rfl) ?_
  refine lv_bipush (v := 8) hx hb d_17_9_133 (by decide +kernel) ?_
  refine lv_icmp_ge (tgt := 190) hx hb d_17_9_135 (by decide) (fun c9 => absurd c9 (by decide +kernel)) (fun _ => ?_)
  refine lv_iload_n hx hb d_17_9_138 rfl (lv_at hl 1 rfl) ?_
  refine lv_iload hx hb d_17_9_139 (lv_at hl 0 rfl) ?_
  refine lv_icmp_eq (tgt := 184) hx hb d_17_9_141 (by decide) (fun _ => ?_) (fun c9 => absurd (by decide +kernel) c9)
  refine lv_iinc (v := 5) (lv' := [(4, .int 5), (3, .int 4), (2, .int 5), (1, .ref q0), (0, .ref a0)]) hx hb d_17_9_184 hl (k := 0) rfl (by decide +kernel) (by decide) rfl (fun ls hl => ?_)
  refine lv_goto (tgt := 131) hx hb d_17_9_187 (by decide) ?_
  refine lv_iload hx hb d_17_9_131 (lv_at hl 0 rfl) ?_
  refine lv_bipush (v := 8) hx hb d_17_9_133 (by decide +kernel) ?_
  refine lv_icmp_ge (tgt := 190) hx hb d_17_9_135 (by decide) (fun c9 => absurd c9 (by decide +kernel)) (fun _ => ?_)
  refine lv_iload_n hx hb d_17_9_138 rfl (lv_at hl 1 rfl) ?_
  refine lv_iload hx hb d_17_9_139 (lv_at hl 0 rfl) ?_
  refine lv_icmp_eq (tgt := 184) hx hb d_17_9_141 (by decide) (fun c9 => absurd c9 (by decide +kernel)) (fun _ => ?_)
  refine lv_iload_n hx hb d_17_9_144 rfl (lv_at hl 1 rfl) ?_
  refine lv_iload_n hx hb d_17_9_145 rfl (lv_at hl 2 rfl) ?_
  refine lv_icmp_eq (tgt := 184) hx hb d_17_9_146 (by decide) (fun c9 => absurd c9 (by decide +kernel)) (fun _ => ?_)
  refine lv_iload hx hb d_17_9_149 (lv_at hl 0 rfl) ?_
  refine lv_iload_n hx hb d_17_9_151 rfl (lv_at hl 2 rfl) ?_
  refine lv_icmp_eq (tgt := 184) hx hb d_17_9_152 (by decide) (fun _ => ?_) (fun c9 => absurd (by decide +kernel) c9)
  refine lv_iinc (v := 6) (lv' := [(4, .int 6), (3, .int 4), (2, .int 5), (1, .ref q0), (0, .ref a0)]) hx hb d_17_9_184 hl (k := 0) rfl (by decide +kernel) (by decide) rfl (fun ls hl => ?_)
  refine lv_goto (tgt := 131) hx hb d_17_9_187 (by decide) ?_
  refine lv_iload hx hb d_17_9_131 (lv_at hl 0 rfl) ?_
  refine lv_bipush (v := 8) hx hb d_17_9_133 (by decide +kernel) ?_
  refine lv_icmp_ge (tgt := 190) hx hb d_17_9_135 (by decide) (fun c9 => absurd c9 (by decide +kernel)) (fun _ => ?_)
  refine lv_iload_n hx hb d_17_9_138 rfl (lv_at hl 1 rfl) ?_
  refine lv_iload hx hb d_17_9_139 (lv_at hl 0 rfl) ?_
  refine lv_icmp_eq (tgt := 184) hx hb d_17_9_141 (by decide) (fun c9 => absurd c9 (by decide +kernel)) (fun _ => ?_)
  refine lv_iload_n hx hb d_17_9_144 rfl (lv_at hl 1 rfl) ?_
  refine lv_iload_n hx hb d_17_9_145 rfl (lv_at hl 2 rfl) ?_
  refine lv_icmp_eq (tgt := 184) hx hb d_17_9_146 (by decide) (fun c9 => absurd c9 (by decide +kernel)) (fun _ => ?_)
  refine lv_iload hx hb d_17_9_149 (lv_at hl 0 rfl) ?_
  refine lv_iload_n hx hb d_17_9_151 rfl (lv_at hl 2 rfl) ?_
  refine lv_icmp_eq (tgt := 184) hx hb d_17_9_152 (by decide) (fun c9 => absurd c9 (by decide +kernel)) (fun _ => ?_)
  refine lv_aload_n hx hb d_17_9_155 rfl (lv_at hl 3 rfl) ?_
  refine lv_iload_n hx hb d_17_9_156 rfl (lv_at hl 1 rfl) ?_
  refine va_alda hx hb hG.1 hP 0 8 rfl rfl (vin rfl) d_17_9_157 ?_
  refine W.eq (g2 := F0 m 158 ls [.ref (r1 4)]) rfl ?_
  refine lv_iload hx hb d_17_9_158 (lv_at hl 0 rfl) ?_
  refine lv_aload_n hx hb d_17_9_160 rfl (lv_at hl 3 rfl) ?_
  refine lv_iload_n hx hb d_17_9_161 rfl (lv_at hl 1 rfl) ?_
  refine va_alda hx hb hG.1 hP 0 8 rfl rfl (vin rfl) d_17_9_162 ?_
  refine W.eq (g2 := F0 m 163 ls [.ref (r1 4), .int 6, .ref (r1 4)]) rfl ?_
  refine lv_iload hx hb d_17_9_163 (lv_at hl 0 rfl) ?_
  refine va_iald hx hb hG.1 hP 5 0 rfl rfl (vin rfl) d_17_9_165 ?_
  refine nrm (x1 := 0) rfl ?_
  refine lv_aload_n hx hb d_17_9_166 rfl (lv_at hl 3 rfl) ?_
  refine lv_iload_n hx hb d_17_9_167 rfl (lv_at hl 1 rfl) ?_
  refine va_alda hx hb hG.1 hP 0 8 rfl rfl (vin rfl) d_17_9_168 ?_
  refine W.eq (g2 := F0 m 169 ls [.ref (r1 4), .int 0, .int 6, .ref (r1 4)]) rfl ?_
  refine lv_iload_n hx hb d_17_9_169 rfl (lv_at hl 2 rfl) ?_
  refine va_iald hx hb hG.1 hP 5 0 rfl rfl (vin rfl) d_17_9_170 ?_
  refine nrm (x1 := 0) rfl ?_
  refine lv_aload_n hx hb d_17_9_171 rfl (lv_at hl 3 rfl) ?_
  refine lv_iload_n hx hb d_17_9_172 rfl (lv_at hl 2 rfl) ?_
  refine va_alda hx hb hG.1 hP 0 8 rfl rfl (vin rfl) d_17_9_173 ?_
  refine W.eq (g2 := F0 m 174 ls [.ref (r1 5), .int 0, .int 0, .int 6, .ref (r1 4)]) rfl ?_
  refine lv_iload hx hb d_17_9_174 (lv_at hl 0 rfl) ?_
  refine va_iald hx hb hG.1 hP 6 0 rfl rfl (vin rfl) d_17_9_176 ?_
  refine nrm (x1 := 0) rfl ?_
  refine va_mmin hx hb (by rw [hml]; exact hl.1.symm) hown (hts _ w_2304) (hts _ w_550) (hts _ w_18) (hts _ w_min) (Nat.le_of_ble_eq_true rfl) (Nat.le_of_ble_eq_true rfl) (Nat.le_of_ble_eq_true rfl) (Nat.le_of_ble_eq_true rfl) d_17_9_177 ?_
  refine nrm (x1 := 0) (by decide +kernel) ?_
  refine va_mmax hx hb (by rw [hml]; exact hl.1.symm) hown (hts _ w_2305) (hts _ w_630) (hts _ w_18) (hts _ w_max) (Nat.le_of_ble_eq_true rfl) (Nat.le_of_ble_eq_true rfl) (Nat.le_of_ble_eq_true rfl) (Nat.le_of_ble_eq_true rfl) d_17_9_180 ?_
  refine nrm (x1 := 0) (by decide +kernel) ?_
  refine va_iast hx hb hG.1 hP hD hS 5 0 rfl rfl (vin rfl) d_17_9_183 (fun H locs hP hD hS => ?_)
  rw [upd_z] at hP hD
  have hP : va_P z.1 classes [(q0, .inl (z.2 8, 8, .inr (.inr (.inr (.inr (va_up (va_up (va_up (va_up (va_up (va_up (va_up (va_up g91 0 (some (r1 0))) 1 (some (r1 1))) 2 (some (r1 2))) 3 (some (r1 3))) 4 (some (r1 4))) 5 (some (r1 5))) 6 (some (r1 6))) 7 (some (r1 7)))))))), ((r1 0), .inl (z.2 0, 8, .inl (fun _ => 0))), ((r1 1), .inl (z.2 0, 8, .inl (fun _ => 0))), ((r1 2), .inl (z.2 0, 8, .inl (fun _ => 0))), ((r1 3), .inl (z.2 0, 8, .inl (fun _ => 0))), ((r1 4), .inl (z.2 0, 8, .inl (fun _ => 0))), ((r1 5), .inl (z.2 0, 8, .inl (fun _ => 0))), ((r1 6), .inl (z.2 0, 8, .inl (fun _ => 0))), ((r1 7), .inl (z.2 0, 8, .inl (fun _ => 0))), (a0, .inr (14, [.ref a1, .int 0, .ref a2, .ref a3, .int 0, .ref a4, .ref q0]))] H := hP
  have hD : va_D A [(q0, .inl (z.2 8, 8, .inr (.inr (.inr (.inr (va_up (va_up (va_up (va_up (va_up (va_up (va_up (va_up g91 0 (some (r1 0))) 1 (some (r1 1))) 2 (some (r1 2))) 3 (some (r1 3))) 4 (some (r1 4))) 5 (some (r1 5))) 6 (some (r1 6))) 7 (some (r1 7)))))))), ((r1 0), .inl (z.2 0, 8, .inl (fun _ => 0))), ((r1 1), .inl (z.2 0, 8, .inl (fun _ => 0))), ((r1 2), .inl (z.2 0, 8, .inl (fun _ => 0))), ((r1 3), .inl (z.2 0, 8, .inl (fun _ => 0))), ((r1 4), .inl (z.2 0, 8, .inl (fun _ => 0))), ((r1 5), .inl (z.2 0, 8, .inl (fun _ => 0))), ((r1 6), .inl (z.2 0, 8, .inl (fun _ => 0))), ((r1 7), .inl (z.2 0, 8, .inl (fun _ => 0))), (a0, .inr (14, [.ref a1, .int 0, .ref a2, .ref a3, .int 0, .ref a4, .ref q0]))] := hD
  refine lv_iinc (v := 7) (lv' := [(4, .int 7), (3, .int 4), (2, .int 5), (1, .ref q0), (0, .ref a0)]) hx hb d_17_9_184 hl (k := 0) rfl (by decide +kernel) (by decide) rfl (fun ls hl => ?_)
  refine lv_goto (tgt := 131) hx hb d_17_9_187 (by decide) ?_
  refine lv_iload hx hb d_17_9_131 (lv_at hl 0 rfl) ?_
  refine lv_bipush (v := 8) hx hb d_17_9_133 (by decide +kernel) ?_
  refine lv_icmp_ge (tgt := 190) hx hb d_17_9_135 (by decide) (fun c9 => absurd c9 (by decide +kernel)) (fun _ => ?_)
  refine lv_iload_n hx hb d_17_9_138 rfl (lv_at hl 1 rfl) ?_
  refine lv_iload hx hb d_17_9_139 (lv_at hl 0 rfl) ?_
  refine lv_icmp_eq (tgt := 184) hx hb d_17_9_141 (by decide) (fun c9 => absurd c9 (by decide +kernel)) (fun _ => ?_)
  refine lv_iload_n hx hb d_17_9_144 rfl (lv_at hl 1 rfl) ?_
  refine lv_iload_n hx hb d_17_9_145 rfl (lv_at hl 2 rfl) ?_
  refine lv_icmp_eq (tgt := 184) hx hb d_17_9_146 (by decide) (fun c9 => absurd c9 (by decide +kernel)) (fun _ => ?_)
  refine lv_iload hx hb d_17_9_149 (lv_at hl 0 rfl) ?_
  refine lv_iload_n hx hb d_17_9_151 rfl (lv_at hl 2 rfl) ?_
  refine lv_icmp_eq (tgt := 184) hx hb d_17_9_152 (by decide) (fun c9 => absurd c9 (by decide +kernel)) (fun _ => ?_)
  refine lv_aload_n hx hb d_17_9_155 rfl (lv_at hl 3 rfl) ?_
  refine lv_iload_n hx hb d_17_9_156 rfl (lv_at hl 1 rfl) ?_
  refine va_alda hx hb hG.1 hP 0 8 rfl rfl (vin rfl) d_17_9_157 ?_
  refine W.eq (g2 := F0 m 158 ls [.ref (r1 4)]) rfl ?_
  refine lv_iload hx hb d_17_9_158 (lv_at hl 0 rfl) ?_
  refine lv_aload_n hx hb d_17_9_160 rfl (lv_at hl 3 rfl) ?_
  refine lv_iload_n hx hb d_17_9_161 rfl (lv_at hl 1 rfl) ?_
  refine va_alda hx hb hG.1 hP 0 8 rfl rfl (vin rfl) d_17_9_162 ?_
  refine W.eq (g2 := F0 m 163 ls [.ref (r1 4), .int 7, .ref (r1 4)]) rfl ?_
  refine lv_iload hx hb d_17_9_163 (lv_at hl 0 rfl) ?_
  refine va_iald hx hb hG.1 hP 5 0 rfl rfl (vin rfl) d_17_9_165 ?_
  refine nrm (x1 := 0) rfl ?_
  refine lv_aload_n hx hb d_17_9_166 rfl (lv_at hl 3 rfl) ?_
  refine lv_iload_n hx hb d_17_9_167 rfl (lv_at hl 1 rfl) ?_
  refine va_alda hx hb hG.1 hP 0 8 rfl rfl (vin rfl) d_17_9_168 ?_
  refine W.eq (g2 := F0 m 169 ls [.ref (r1 4), .int 0, .int 7, .ref (r1 4)]) rfl ?_
  refine lv_iload_n hx hb d_17_9_169 rfl (lv_at hl 2 rfl) ?_
  refine va_iald hx hb hG.1 hP 5 0 rfl rfl (vin rfl) d_17_9_170 ?_
  refine nrm (x1 := 0) rfl ?_
  refine lv_aload_n hx hb d_17_9_171 rfl (lv_at hl 3 rfl) ?_
  refine lv_iload_n hx hb d_17_9_172 rfl (lv_at hl 2 rfl) ?_
  refine va_alda hx hb hG.1 hP 0 8 rfl rfl (vin rfl) d_17_9_173 ?_
  refine W.eq (g2 := F0 m 174 ls [.ref (r1 5), .int 0, .int 0, .int 7, .ref (r1 4)]) rfl ?_
  refine lv_iload hx hb d_17_9_174 (lv_at hl 0 rfl) ?_
  refine va_iald hx hb hG.1 hP 6 0 rfl rfl (vin rfl) d_17_9_176 ?_
  refine nrm (x1 := 0) rfl ?_
  refine va_mmin hx hb (by rw [hml]; exact hl.1.symm) hown (hts _ w_2304) (hts _ w_550) (hts _ w_18) (hts _ w_min) (Nat.le_of_ble_eq_true rfl) (Nat.le_of_ble_eq_true rfl) (Nat.le_of_ble_eq_true rfl) (Nat.le_of_ble_eq_true rfl) d_17_9_177 ?_
  refine nrm (x1 := 0) (by decide +kernel) ?_
  refine va_mmax hx hb (by rw [hml]; exact hl.1.symm) hown (hts _ w_2305) (hts _ w_630) (hts _ w_18) (hts _ w_max) (Nat.le_of_ble_eq_true rfl) (Nat.le_of_ble_eq_true rfl) (Nat.le_of_ble_eq_true rfl) (Nat.le_of_ble_eq_true rfl) d_17_9_180 ?_
  refine nrm (x1 := 0) (by decide +kernel) ?_
  refine va_iast hx hb hG.1 hP hD hS 5 0 rfl rfl (vin rfl) d_17_9_183 (fun H locs hP hD hS => ?_)
  rw [upd_z] at hP hD
  have hP : va_P z.1 classes [(q0, .inl (z.2 8, 8, .inr (.inr (.inr (.inr (va_up (va_up (va_up (va_up (va_up (va_up (va_up (va_up g91 0 (some (r1 0))) 1 (some (r1 1))) 2 (some (r1 2))) 3 (some (r1 3))) 4 (some (r1 4))) 5 (some (r1 5))) 6 (some (r1 6))) 7 (some (r1 7)))))))), ((r1 0), .inl (z.2 0, 8, .inl (fun _ => 0))), ((r1 1), .inl (z.2 0, 8, .inl (fun _ => 0))), ((r1 2), .inl (z.2 0, 8, .inl (fun _ => 0))), ((r1 3), .inl (z.2 0, 8, .inl (fun _ => 0))), ((r1 4), .inl (z.2 0, 8, .inl (fun _ => 0))), ((r1 5), .inl (z.2 0, 8, .inl (fun _ => 0))), ((r1 6), .inl (z.2 0, 8, .inl (fun _ => 0))), ((r1 7), .inl (z.2 0, 8, .inl (fun _ => 0))), (a0, .inr (14, [.ref a1, .int 0, .ref a2, .ref a3, .int 0, .ref a4, .ref q0]))] H := hP
  have hD : va_D A [(q0, .inl (z.2 8, 8, .inr (.inr (.inr (.inr (va_up (va_up (va_up (va_up (va_up (va_up (va_up (va_up g91 0 (some (r1 0))) 1 (some (r1 1))) 2 (some (r1 2))) 3 (some (r1 3))) 4 (some (r1 4))) 5 (some (r1 5))) 6 (some (r1 6))) 7 (some (r1 7)))))))), ((r1 0), .inl (z.2 0, 8, .inl (fun _ => 0))), ((r1 1), .inl (z.2 0, 8, .inl (fun _ => 0))), ((r1 2), .inl (z.2 0, 8, .inl (fun _ => 0))), ((r1 3), .inl (z.2 0, 8, .inl (fun _ => 0))), ((r1 4), .inl (z.2 0, 8, .inl (fun _ => 0))), ((r1 5), .inl (z.2 0, 8, .inl (fun _ => 0))), ((r1 6), .inl (z.2 0, 8, .inl (fun _ => 0))), ((r1 7), .inl (z.2 0, 8, .inl (fun _ => 0))), (a0, .inr (14, [.ref a1, .int 0, .ref a2, .ref a3, .int 0, .ref a4, .ref q0]))] := hD
  refine lv_iinc (v := 8) (lv' := [(4, .int 8), (3, .int 4), (2, .int 5), (1, .ref q0), (0, .ref a0)]) hx hb d_17_9_184 hl (k := 0) rfl (by decide +kernel) (by decide) rfl (fun ls hl => ?_)
  refine lv_goto (tgt := 131) hx hb d_17_9_187 (by decide) ?_
  refine lv_iload hx hb d_17_9_131 (lv_at hl 0 rfl) ?_
  refine lv_bipush (v := 8) hx hb d_17_9_133 (by decide +kernel) ?_
  refine lv_icmp_ge (tgt := 190) hx hb d_17_9_135 (by decide) (fun _ => ?_) (fun c9 => absurd (by decide +kernel) c9)
  refine lv_iinc (v := 5) (lv' := [(3, .int 5), (4, .int 8), (2, .int 5), (1, .ref q0), (0, .ref a0)]) hx hb d_17_9_190 hl (k := 1) rfl (by decide +kernel) (by decide) rfl (fun ls hl => ?_)
  refine lv_goto (tgt := 122) hx hb d_17_9_193 (by decide) ?_
  refine W.widen (k := 9) (n := 72) (Nat.le_of_ble_eq_true rfl) (Nat.le_of_ble_eq_true rfl) ?_
  exact hk H locs ls hP hD hS hl
set_option maxRecDepth 100000 in
set_option maxHeartbeats 4000000 in
theorem s369_paths (l : Launch) (z : Zz) (a0 : Nat) (a1 : Nat) (a2 : Nat) (a3 : Nat) (a4 : Nat) (g91 : Nat → Option Nat) (q0 : Nat) (r1 : Nat → Nat) {p : Program} {e : Env} {s : State} {m : MethodId} {below : List Frame} {meth : Method} {c : Code} {A : Nat → Prop} {Q : State → Prop} (hx : p.tables.exec = Jvm.exec) (hb : c.code = prog_17_method_9_code) (hml : c.maxLocals = 5) (hts : ∀ w ∈ WG, w.before ([.ref a0] : List Value).toArray s = true) (hown : s.vm.findClass "BallothallModel$Poll" = some m.cls) (hA : ∀ q, s.heap.size ≤ q → A q) (hG : KG z s) (hZ : XZ A s) (hk : ∀ (H : Heap) (locs : List Loc) (ls : Array Slot), va_P z.1 classes [(q0, .inl (z.2 8, 8, .inr (.inr (.inr (.inr (va_up (va_up (va_up (va_up (va_up (va_up (va_up (va_up g91 0 (some (r1 0))) 1 (some (r1 1))) 2 (some (r1 2))) 3 (some (r1 3))) 4 (some (r1 4))) 5 (some (r1 5))) 6 (some (r1 6))) 7 (some (r1 7)))))))), ((r1 0), .inl (z.2 0, 8, .inl (fun _ => 0))), ((r1 1), .inl (z.2 0, 8, .inl (fun _ => 0))), ((r1 2), .inl (z.2 0, 8, .inl (fun _ => 0))), ((r1 3), .inl (z.2 0, 8, .inl (fun _ => 0))), ((r1 4), .inl (z.2 0, 8, .inl (fun _ => 0))), ((r1 5), .inl (z.2 0, 8, .inl (fun _ => 0))), ((r1 6), .inl (z.2 0, 8, .inl (fun _ => 0))), ((r1 7), .inl (z.2 0, 8, .inl (fun _ => 0))), (a0, .inr (14, [.ref a1, .int 0, .ref a2, .ref a3, .int 0, .ref a4, .ref q0]))] H → va_D A [(q0, .inl (z.2 8, 8, .inr (.inr (.inr (.inr (va_up (va_up (va_up (va_up (va_up (va_up (va_up (va_up g91 0 (some (r1 0))) 1 (some (r1 1))) 2 (some (r1 2))) 3 (some (r1 3))) 4 (some (r1 4))) 5 (some (r1 5))) 6 (some (r1 6))) 7 (some (r1 7)))))))), ((r1 0), .inl (z.2 0, 8, .inl (fun _ => 0))), ((r1 1), .inl (z.2 0, 8, .inl (fun _ => 0))), ((r1 2), .inl (z.2 0, 8, .inl (fun _ => 0))), ((r1 3), .inl (z.2 0, 8, .inl (fun _ => 0))), ((r1 4), .inl (z.2 0, 8, .inl (fun _ => 0))), ((r1 5), .inl (z.2 0, 8, .inl (fun _ => 0))), ((r1 6), .inl (z.2 0, 8, .inl (fun _ => 0))), ((r1 7), .inl (z.2 0, 8, .inl (fun _ => 0))), (a0, .inr (14, [.ref a1, .int 0, .ref a2, .ref a3, .int 0, .ref a4, .ref q0]))] → va_S A s.heap H locs → lv_has ls 5 [(3, .int 6), (4, .int 8), (2, .int 5), (1, .ref q0), (0, .ref a0)] → W p l e (rmK 1 29 9 72) s m ([.ref a0] : List Value).toArray below meth c H locs 9 72 Q (F0 m 122 ls [])) (H : Heap) (locs : List Loc) (ls : Array Slot) (hP : va_P z.1 classes [(q0, .inl (z.2 8, 8, .inr (.inr (.inr (.inr (va_up (va_up (va_up (va_up (va_up (va_up (va_up (va_up g91 0 (some (r1 0))) 1 (some (r1 1))) 2 (some (r1 2))) 3 (some (r1 3))) 4 (some (r1 4))) 5 (some (r1 5))) 6 (some (r1 6))) 7 (some (r1 7)))))))), ((r1 0), .inl (z.2 0, 8, .inl (fun _ => 0))), ((r1 1), .inl (z.2 0, 8, .inl (fun _ => 0))), ((r1 2), .inl (z.2 0, 8, .inl (fun _ => 0))), ((r1 3), .inl (z.2 0, 8, .inl (fun _ => 0))), ((r1 4), .inl (z.2 0, 8, .inl (fun _ => 0))), ((r1 5), .inl (z.2 0, 8, .inl (fun _ => 0))), ((r1 6), .inl (z.2 0, 8, .inl (fun _ => 0))), ((r1 7), .inl (z.2 0, 8, .inl (fun _ => 0))), (a0, .inr (14, [.ref a1, .int 0, .ref a2, .ref a3, .int 0, .ref a4, .ref q0]))] H) (hD : va_D A [(q0, .inl (z.2 8, 8, .inr (.inr (.inr (.inr (va_up (va_up (va_up (va_up (va_up (va_up (va_up (va_up g91 0 (some (r1 0))) 1 (some (r1 1))) 2 (some (r1 2))) 3 (some (r1 3))) 4 (some (r1 4))) 5 (some (r1 5))) 6 (some (r1 6))) 7 (some (r1 7)))))))), ((r1 0), .inl (z.2 0, 8, .inl (fun _ => 0))), ((r1 1), .inl (z.2 0, 8, .inl (fun _ => 0))), ((r1 2), .inl (z.2 0, 8, .inl (fun _ => 0))), ((r1 3), .inl (z.2 0, 8, .inl (fun _ => 0))), ((r1 4), .inl (z.2 0, 8, .inl (fun _ => 0))), ((r1 5), .inl (z.2 0, 8, .inl (fun _ => 0))), ((r1 6), .inl (z.2 0, 8, .inl (fun _ => 0))), ((r1 7), .inl (z.2 0, 8, .inl (fun _ => 0))), (a0, .inr (14, [.ref a1, .int 0, .ref a2, .ref a3, .int 0, .ref a4, .ref q0]))]) (hS : va_S A s.heap H locs) (hl : lv_has ls 5 [(3, .int 5), (4, .int 8), (2, .int 5), (1, .ref q0), (0, .ref a0)]) : W p l e (rmK 1 29 9 72) s m ([.ref a0] : List Value).toArray below meth c H locs 9 72 Q (F0 m 122 ls []) := by
  refine lv_iload_n hx hb d_17_9_122 rfl (lv_at hl 0 rfl) ?_
  refine lv_bipush (v := 8) hx hb d_17_9_123 (by decide +kernel) ?_
  refine lv_icmp_ge (tgt := 196) hx hb d_17_9_125 (by decide) (fun c9 => absurd c9 (by decide +kernel)) (fun _ => ?_)
  refine lv_iconst (v := 0) hx hb d_17_9_128 (by decide +kernel) ?_
  refine lv_istore (lv' := [(4, .int 0), (3, .int 5), (2, .int 5), (1, .ref q0), (0, .ref a0)]) hx hb d_17_9_129 hl (by decide) rfl (fun ls hl => ?_)
  refine lv_iload hx hb d_17_9_131 (lv_at hl 0 rfl) ?_
  refine lv_bipush (v := 8) hx hb d_17_9_133 (by decide +kernel) ?_
  refine lv_icmp_ge (tgt := 190) hx hb d_17_9_135 (by decide) (fun c9 => absurd c9 (by decide +kernel)) (fun _ => ?_)
  refine lv_iload_n hx hb d_17_9_138 rfl (lv_at hl 1 rfl) ?_
  refine lv_iload hx hb d_17_9_139 (lv_at hl 0 rfl) ?_
  refine lv_icmp_eq (tgt := 184) hx hb d_17_9_141 (by decide) (fun c9 => absurd c9 (by decide +kernel)) (fun _ => ?_)
  refine lv_iload_n hx hb d_17_9_144 rfl (lv_at hl 1 rfl) ?_
  refine lv_iload_n hx hb d_17_9_145 rfl (lv_at hl 2 rfl) ?_
  refine lv_icmp_eq (tgt := 184) hx hb d_17_9_146 (by decide) (fun _ => ?_) (fun c9 => absurd (by decide +kernel) c9)
  refine lv_iinc (v := 1) (lv' := [(4, .int 1), (3, .int 5), (2, .int 5), (1, .ref q0), (0, .ref a0)]) hx hb d_17_9_184 hl (k := 0) rfl (by decide +kernel) (by decide) rfl (fun ls hl => ?_)
  refine lv_goto (tgt := 131) hx hb d_17_9_187 (by decide) ?_
  refine lv_iload hx hb d_17_9_131 (lv_at hl 0 rfl) ?_
  refine lv_bipush (v := 8) hx hb d_17_9_133 (by decide +kernel) ?_
  refine lv_icmp_ge (tgt := 190) hx hb d_17_9_135 (by decide) (fun c9 => absurd c9 (by decide +kernel)) (fun _ => ?_)
  refine lv_iload_n hx hb d_17_9_138 rfl (lv_at hl 1 rfl) ?_
  refine lv_iload hx hb d_17_9_139 (lv_at hl 0 rfl) ?_
  refine lv_icmp_eq (tgt := 184) hx hb d_17_9_141 (by decide) (fun c9 => absurd c9 (by decide +kernel)) (fun _ => ?_)
  refine lv_iload_n hx hb d_17_9_144 rfl (lv_at hl 1 rfl) ?_
  refine lv_iload_n hx hb d_17_9_145 rfl (lv_at hl 2 rfl) ?_
  refine lv_icmp_eq (tgt := 184) hx hb d_17_9_146 (by decide) (fun _ => ?_) (fun c9 => absurd (by decide +kernel) c9)
  refine lv_iinc (v := 2) (lv' := [(4, .int 2), (3, .int 5), (2, .int 5), (1, .ref q0), (0, .ref a0)]) hx hb d_17_9_184 hl (k := 0) rfl (by decide +kernel) (by decide) rfl (fun ls hl => ?_)
  refine lv_goto (tgt := 131) hx hb d_17_9_187 (by decide) ?_
  refine lv_iload hx hb d_17_9_131 (lv_at hl 0 rfl) ?_
  refine lv_bipush (v := 8) hx hb d_17_9_133 (by decide +kernel) ?_
  refine lv_icmp_ge (tgt := 190) hx hb d_17_9_135 (by decide) (fun c9 => absurd c9 (by decide +kernel)) (fun _ => ?_)
  refine lv_iload_n hx hb d_17_9_138 rfl (lv_at hl 1 rfl) ?_
  refine lv_iload hx hb d_17_9_139 (lv_at hl 0 rfl) ?_
  refine lv_icmp_eq (tgt := 184) hx hb d_17_9_141 (by decide) (fun c9 => absurd c9 (by decide +kernel)) (fun _ => ?_)
  refine lv_iload_n hx hb d_17_9_144 rfl (lv_at hl 1 rfl) ?_
  refine lv_iload_n hx hb d_17_9_145 rfl (lv_at hl 2 rfl) ?_
  refine lv_icmp_eq (tgt := 184) hx hb d_17_9_146 (by decide) (fun _ => ?_) (fun c9 => absurd (by decide +kernel) c9)
  refine lv_iinc (v := 3) (lv' := [(4, .int 3), (3, .int 5), (2, .int 5), (1, .ref q0), (0, .ref a0)]) hx hb d_17_9_184 hl (k := 0) rfl (by decide +kernel) (by decide) rfl (fun ls hl => ?_)
  refine lv_goto (tgt := 131) hx hb d_17_9_187 (by decide) ?_
  refine lv_iload hx hb d_17_9_131 (lv_at hl 0 rfl) ?_
  refine lv_bipush (v := 8) hx hb d_17_9_133 (by decide +kernel) ?_
  refine lv_icmp_ge (tgt := 190) hx hb d_17_9_135 (by decide) (fun c9 => absurd c9 (by decide +kernel)) (fun _ => ?_)
  refine lv_iload_n hx hb d_17_9_138 rfl (lv_at hl 1 rfl) ?_
  refine lv_iload hx hb d_17_9_139 (lv_at hl 0 rfl) ?_
  refine lv_icmp_eq (tgt := 184) hx hb d_17_9_141 (by decide) (fun c9 => absurd c9 (by decide +kernel)) (fun _ => ?_)
  refine lv_iload_n hx hb d_17_9_144 rfl (lv_at hl 1 rfl) ?_
  refine lv_iload_n hx hb d_17_9_145 rfl (lv_at hl 2 rfl) ?_
  refine lv_icmp_eq (tgt := 184) hx hb d_17_9_146 (by decide) (fun _ => ?_) (fun c9 => absurd (by decide +kernel) c9)
  refine lv_iinc (v := 4) (lv' := [(4, .int 4), (3, .int 5), (2, .int 5), (1, .ref q0), (0, .ref a0)]) hx hb d_17_9_184 hl (k := 0) rfl (by decide +kernel) (by decide) rfl (fun ls hl => ?_)
  refine lv_goto (tgt := 131) hx hb d_17_9_187 (by decide) ?_
  refine lv_iload hx hb d_17_9_131 (lv_at hl 0 rfl) ?_
  refine lv_bipush (v := 8) hx hb d_17_9_133 (by decide +kernel) ?_
  refine lv_icmp_ge (tgt := 190) hx hb d_17_9_135 (by decide) (fun c9 => absurd c9 (by decide +kernel)) (fun _ => ?_)
  refine lv_iload_n hx hb d_17_9_138 rfl (lv_at hl 1 rfl) ?_
  refine lv_iload hx hb d_17_9_139 (lv_at hl 0 rfl) ?_
  refine lv_icmp_eq (tgt := 184) hx hb d_17_9_141 (by decide) (fun c9 => absurd c9 (by decide +kernel)) (fun _ => ?_)
  refine lv_iload_n hx hb d_17_9_144 rfl (lv_at hl 1 rfl) ?_
  refine lv_iload_n hx hb d_17_9_145 rfl (lv_at hl 2 rfl) ?_
  refine lv_icmp_eq (tgt := 184) hx hb d_17_9_146 (by decide) (fun _ => ?_) (fun c9 => absurd (by decide +kernel) c9)
  refine lv_iinc (v := 5) (lv' := [(4, .int 5), (3, .int 5), (2, .int 5), (1, .ref q0), (0, .ref a0)]) hx hb d_17_9_184 hl (k := 0) rfl (by decide +kernel) (by decide) rfl (fun ls hl => ?_)
  refine lv_goto (tgt := 131) hx hb d_17_9_187 (by decide) ?_
  refine lv_iload hx hb d_17_9_131 (lv_at hl 0 rfl) ?_
  refine lv_bipush (v := 8) hx hb d_17_9_133 (by decide +kernel) ?_
  refine lv_icmp_ge (tgt := 190) hx hb d_17_9_135 (by decide) (fun c9 => absurd c9 (by decide +kernel)) (fun _ => ?_)
  refine lv_iload_n hx hb d_17_9_138 rfl (lv_at hl 1 rfl) ?_
  refine lv_iload hx hb d_17_9_139 (lv_at hl 0 rfl) ?_
  refine lv_icmp_eq (tgt := 184) hx hb d_17_9_141 (by decide) (fun _ => ?_) (fun c9 => absurd (by decide +kernel) c9)
  refine lv_iinc (v := 6) (lv' := [(4, .int 6), (3, .int 5), (2, .int 5), (1, .ref q0), (0, .ref a0)]) hx hb d_17_9_184 hl (k := 0) rfl (by decide +kernel) (by decide) rfl (fun ls hl => ?_)
  refine lv_goto (tgt := 131) hx hb d_17_9_187 (by decide) ?_
  refine lv_iload hx hb d_17_9_131 (lv_at hl 0 rfl) ?_
  refine lv_bipush (v := 8) hx hb d_17_9_133 (by decide +kernel) ?_
  refine lv_icmp_ge (tgt := 190) hx hb d_17_9_135 (by decide) (fun c9 => absurd c9 (by decide +kernel)) (fun _ => ?_)
  refine lv_iload_n hx hb d_17_9_138 rfl (lv_at hl 1 rfl) ?_
  refine lv_iload hx hb d_17_9_139 (lv_at hl 0 rfl) ?_
  refine lv_icmp_eq (tgt := 184) hx hb d_17_9_141 (by decide) (fun c9 => absurd c9 (by decide +kernel)) (fun _ => ?_)
  refine lv_iload_n hx hb d_17_9_144 rfl (lv_at hl 1 rfl) ?_
  refine lv_iload_n hx hb d_17_9_145 rfl (lv_at hl 2 rfl) ?_
  refine lv_icmp_eq (tgt := 184) hx hb d_17_9_146 (by decide) (fun _ => ?_) (fun c9 => absurd (by decide +kernel) c9)
  refine lv_iinc (v := 7) (lv' := [(4, .int 7), (3, .int 5), (2, .int 5), (1, .ref q0), (0, .ref a0)]) hx hb d_17_9_184 hl (k := 0) rfl (by decide +kernel) (by decide) rfl (fun ls hl => ?_)
  refine lv_goto (tgt := 131) hx hb d_17_9_187 (by decide) ?_
  refine lv_iload hx hb d_17_9_131 (lv_at hl 0 rfl) ?_
  refine lv_bipush (v := 8) hx hb d_17_9_133 (by decide +kernel) ?_
  refine lv_icmp_ge (tgt := 190) hx hb d_17_9_135 (by decide) (fun c9 => absurd c9 (by decide +kernel)) (fun _ => ?_)
  refine lv_iload_n hx hb d_17_9_138 rfl (lv_at hl 1 rfl) ?_
  refine lv_iload hx hb d_17_9_139 (lv_at hl 0 rfl) ?_
  refine lv_icmp_eq (tgt := 184) hx hb d_17_9_141 (by decide) (fun c9 => absurd c9 (by decide +kernel)) (fun _ => ?_)
  refine lv_iload_n hx hb d_17_9_144 rfl (lv_at hl 1 rfl) ?_
  refine lv_iload_n hx hb d_17_9_145 rfl (lv_at hl 2 rfl) ?_
  refine lv_icmp_eq (tgt := 184) hx hb d_17_9_146 (by decide) (fun _ => ?_) (fun c9 => absurd (by decide +kernel) c9)
  refine lv_iinc (v := 8) (lv' := [(4, .int 8), (3, .int 5), (2, .int 5), (1, .ref q0), (0, .ref a0)]) hx hb d_17_9_184 hl (k := 0) rfl (by decide +kernel) (by decide) rfl (fun ls hl => ?_)
  refine lv_goto (tgt := 131) hx hb d_17_9_187 (by decide) ?_
  refine lv_iload hx hb d_17_9_131 (lv_at hl 0 rfl) ?_
  refine lv_bipush (v := 8) hx hb d_17_9_133 (by decide +kernel) ?_
  refine lv_icmp_ge (tgt := 190) hx hb d_17_9_135 (by decide) (fun _ => ?_) (fun c9 => absurd (by decide +kernel) c9)
  refine lv_iinc (v := 6) (lv' := [(3, .int 6), (4, .int 8), (2, .int 5), (1, .ref q0), (0, .ref a0)]) hx hb d_17_9_190 hl (k := 1) rfl (by decide +kernel) (by decide) rfl (fun ls hl => ?_)
  refine lv_goto (tgt := 122) hx hb d_17_9_193 (by decide) ?_
  refine W.widen (k := 9) (n := 72) (Nat.le_of_ble_eq_true rfl) (Nat.le_of_ble_eq_true rfl) ?_
  exact hk H locs ls hP hD hS hl
set_option maxRecDepth 100000 in
set_option maxHeartbeats 4000000 in
theorem s370_paths (l : Launch) (z : Zz) (a0 : Nat) (a1 : Nat) (a2 : Nat) (a3 : Nat) (a4 : Nat) (g91 : Nat → Option Nat) (q0 : Nat) (r1 : Nat → Nat) {p : Program} {e : Env} {s : State} {m : MethodId} {below : List Frame} {meth : Method} {c : Code} {A : Nat → Prop} {Q : State → Prop} (hx : p.tables.exec = Jvm.exec) (hb : c.code = prog_17_method_9_code) (hml : c.maxLocals = 5) (hts : ∀ w ∈ WG, w.before ([.ref a0] : List Value).toArray s = true) (hown : s.vm.findClass "BallothallModel$Poll" = some m.cls) (hA : ∀ q, s.heap.size ≤ q → A q) (hG : KG z s) (hZ : XZ A s) (hk : ∀ (H : Heap) (locs : List Loc) (ls : Array Slot), va_P z.1 classes [(q0, .inl (z.2 8, 8, .inr (.inr (.inr (.inr (va_up (va_up (va_up (va_up (va_up (va_up (va_up (va_up g91 0 (some (r1 0))) 1 (some (r1 1))) 2 (some (r1 2))) 3 (some (r1 3))) 4 (some (r1 4))) 5 (some (r1 5))) 6 (some (r1 6))) 7 (some (r1 7)))))))), ((r1 0), .inl (z.2 0, 8, .inl (fun _ => 0))), ((r1 1), .inl (z.2 0, 8, .inl (fun _ => 0))), ((r1 2), .inl (z.2 0, 8, .inl (fun _ => 0))), ((r1 3), .inl (z.2 0, 8, .inl (fun _ => 0))), ((r1 4), .inl (z.2 0, 8, .inl (fun _ => 0))), ((r1 5), .inl (z.2 0, 8, .inl (fun _ => 0))), ((r1 6), .inl (z.2 0, 8, .inl (fun _ => 0))), ((r1 7), .inl (z.2 0, 8, .inl (fun _ => 0))), (a0, .inr (14, [.ref a1, .int 0, .ref a2, .ref a3, .int 0, .ref a4, .ref q0]))] H → va_D A [(q0, .inl (z.2 8, 8, .inr (.inr (.inr (.inr (va_up (va_up (va_up (va_up (va_up (va_up (va_up (va_up g91 0 (some (r1 0))) 1 (some (r1 1))) 2 (some (r1 2))) 3 (some (r1 3))) 4 (some (r1 4))) 5 (some (r1 5))) 6 (some (r1 6))) 7 (some (r1 7)))))))), ((r1 0), .inl (z.2 0, 8, .inl (fun _ => 0))), ((r1 1), .inl (z.2 0, 8, .inl (fun _ => 0))), ((r1 2), .inl (z.2 0, 8, .inl (fun _ => 0))), ((r1 3), .inl (z.2 0, 8, .inl (fun _ => 0))), ((r1 4), .inl (z.2 0, 8, .inl (fun _ => 0))), ((r1 5), .inl (z.2 0, 8, .inl (fun _ => 0))), ((r1 6), .inl (z.2 0, 8, .inl (fun _ => 0))), ((r1 7), .inl (z.2 0, 8, .inl (fun _ => 0))), (a0, .inr (14, [.ref a1, .int 0, .ref a2, .ref a3, .int 0, .ref a4, .ref q0]))] → va_S A s.heap H locs → lv_has ls 5 [(3, .int 7), (4, .int 8), (2, .int 5), (1, .ref q0), (0, .ref a0)] → W p l e (rmK 1 29 9 72) s m ([.ref a0] : List Value).toArray below meth c H locs 9 72 Q (F0 m 122 ls [])) (H : Heap) (locs : List Loc) (ls : Array Slot) (hP : va_P z.1 classes [(q0, .inl (z.2 8, 8, .inr (.inr (.inr (.inr (va_up (va_up (va_up (va_up (va_up (va_up (va_up (va_up g91 0 (some (r1 0))) 1 (some (r1 1))) 2 (some (r1 2))) 3 (some (r1 3))) 4 (some (r1 4))) 5 (some (r1 5))) 6 (some (r1 6))) 7 (some (r1 7)))))))), ((r1 0), .inl (z.2 0, 8, .inl (fun _ => 0))), ((r1 1), .inl (z.2 0, 8, .inl (fun _ => 0))), ((r1 2), .inl (z.2 0, 8, .inl (fun _ => 0))), ((r1 3), .inl (z.2 0, 8, .inl (fun _ => 0))), ((r1 4), .inl (z.2 0, 8, .inl (fun _ => 0))), ((r1 5), .inl (z.2 0, 8, .inl (fun _ => 0))), ((r1 6), .inl (z.2 0, 8, .inl (fun _ => 0))), ((r1 7), .inl (z.2 0, 8, .inl (fun _ => 0))), (a0, .inr (14, [.ref a1, .int 0, .ref a2, .ref a3, .int 0, .ref a4, .ref q0]))] H) (hD : va_D A [(q0, .inl (z.2 8, 8, .inr (.inr (.inr (.inr (va_up (va_up (va_up (va_up (va_up (va_up (va_up (va_up g91 0 (some (r1 0))) 1 (some (r1 1))) 2 (some (r1 2))) 3 (some (r1 3))) 4 (some (r1 4))) 5 (some (r1 5))) 6 (some (r1 6))) 7 (some (r1 7)))))))), ((r1 0), .inl (z.2 0, 8, .inl (fun _ => 0))), ((r1 1), .inl (z.2 0, 8, .inl (fun _ => 0))), ((r1 2), .inl (z.2 0, 8, .inl (fun _ => 0))), ((r1 3), .inl (z.2 0, 8, .inl (fun _ => 0))), ((r1 4), .inl (z.2 0, 8, .inl (fun _ => 0))), ((r1 5), .inl (z.2 0, 8, .inl (fun _ => 0))), ((r1 6), .inl (z.2 0, 8, .inl (fun _ => 0))), ((r1 7), .inl (z.2 0, 8, .inl (fun _ => 0))), (a0, .inr (14, [.ref a1, .int 0, .ref a2, .ref a3, .int 0, .ref a4, .ref q0]))]) (hS : va_S A s.heap H locs) (hl : lv_has ls 5 [(3, .int 6), (4, .int 8), (2, .int 5), (1, .ref q0), (0, .ref a0)]) : W p l e (rmK 1 29 9 72) s m ([.ref a0] : List Value).toArray below meth c H locs 9 72 Q (F0 m 122 ls []) := by
  refine lv_iload_n hx hb d_17_9_122 rfl (lv_at hl 0 rfl) ?_
  refine lv_bipush (v := 8) hx hb d_17_9_123 (by decide +kernel) ?_
  refine lv_icmp_ge (tgt := 196) hx hb d_17_9_125 (by decide) (fun c9 => absurd c9 (by decide +kernel)) (fun _ => ?_)
  refine lv_iconst (v := 0) hx hb d_17_9_128 (by decide +kernel) ?_
  refine lv_istore (lv' := [(4, .int 0), (3, .int 6), (2, .int 5), (1, .ref q0), (0, .ref a0)]) hx hb d_17_9_129 hl (by decide) rfl (fun ls hl => ?_)
  refine lv_iload hx hb d_17_9_131 (lv_at hl 0 rfl) ?_
  refine lv_bipush (v := 8) hx hb d_17_9_133 (by decide +kernel) ?_
  refine lv_icmp_ge (tgt := 190) hx hb d_17_9_135 (by decide) (fun c9 => absurd c9 (by decide +kernel)) (fun _ => ?_)
  refine lv_iload_n hx hb d_17_9_138 rfl (lv_at hl 1 rfl) ?_
  refine lv_iload hx hb d_17_9_139 (lv_at hl 0 rfl) ?_
  refine lv_icmp_eq (tgt := 184) hx hb d_17_9_141 (by decide) (fun c9 => absurd c9 (by decide +kernel)) (fun _ => ?_)
  refine lv_iload_n hx hb d_17_9_144 rfl (lv_at hl 1 rfl) ?_
  refine lv_iload_n hx hb d_17_9_145 rfl (lv_at hl 2 rfl) ?_
  refine lv_icmp_eq (tgt := 184) hx hb d_17_9_146 (by decide) (fun c9 => absurd c9 (by decide +kernel)) (fun _ => ?_)
  refine lv_iload hx hb d_17_9_149 (lv_at hl 0 rfl) ?_
  refine lv_iload_n hx hb d_17_9_151 rfl (lv_at hl 2 rfl) ?_
  refine lv_icmp_eq (tgt := 184) hx hb d_17_9_152 (by decide) (fun c9 => absurd c9 (by decide +kernel)) (fun _ => ?_)
  refine lv_aload_n hx hb d_17_9_155 rfl (lv_at hl 3 rfl) ?_
  refine lv_iload_n hx hb d_17_9_156 rfl (lv_at hl 1 rfl) ?_
  refine va_alda hx hb hG.1 hP 0 8 rfl rfl (vin rfl) d_17_9_157 ?_
  refine W.eq (g2 := F0 m 158 ls [.ref (r1 6)]) rfl ?_
  refine lv_iload hx hb d_17_9_158 (lv_at hl 0 rfl) ?_
  refine lv_aload_n hx hb d_17_9_160 rfl (lv_at hl 3 rfl) ?_
  refine lv_iload_n hx hb d_17_9_161 rfl (lv_at hl 1 rfl) ?_
  refine va_alda hx hb hG.1 hP 0 8 rfl rfl (vin rfl) d_17_9_162 ?_
  refine W.eq (g2 := F0 m 163 ls [.ref (r1 6), .int 0, .ref (r1 6)]) rfl ?_
  refine lv_iload hx hb d_17_9_163 (lv_at hl 0 rfl) ?_
  refine va_iald hx hb hG.1 hP 7 0 rfl rfl (vin rfl) d_17_9_165 ?_
  refine nrm (x1 := 0) rfl ?_
  refine lv_aload_n hx hb d_17_9_166 rfl (lv_at hl 3 rfl) ?_
  refine lv_iload_n hx hb d_17_9_167 rfl (lv_at hl 1 rfl) ?_
  refine va_alda hx hb hG.1 hP 0 8 rfl rfl (vin rfl) d_17_9_168 ?_
  refine W.eq (g2 := F0 m 169 ls [.ref (r1 6), .int 0, .int 0, .ref (r1 6)]) rfl ?_
  refine lv_iload_n hx hb d_17_9_169 rfl (lv_at hl 2 rfl) ?_
  refine va_iald hx hb hG.1 hP 7 0 rfl rfl (vin rfl) d_17_9_170 ?_
  refine nrm (x1 := 0) rfl ?_
  refine lv_aload_n hx hb d_17_9_171 rfl (lv_at hl 3 rfl) ?_
  refine lv_iload_n hx hb d_17_9_172 rfl (lv_at hl 2 rfl) ?_
  refine va_alda hx hb hG.1 hP 0 8 rfl rfl (vin rfl) d_17_9_173 ?_
  refine W.eq (g2 := F0 m 174 ls [.ref (r1 5), .int 0, .int 0, .int 0, .ref (r1 6)]) rfl ?_
  refine lv_iload hx hb d_17_9_174 (lv_at hl 0 rfl) ?_
  refine va_iald hx hb hG.1 hP 6 0 rfl rfl (vin rfl) d_17_9_176 ?_
  refine nrm (x1 := 0) rfl ?_
  refine va_mmin hx hb (by rw [hml]; exact hl.1.symm) hown (hts _ w_2304) (hts _ w_550) (hts _ w_18) (hts _ w_min) (Nat.le_of_ble_eq_true rfl) (Nat.le_of_ble_eq_true rfl) (Nat.le_of_ble_eq_true rfl) (Nat.le_of_ble_eq_true rfl) d_17_9_177 ?_
  refine nrm (x1 := 0) (by decide +kernel) ?_
  refine va_mmax hx hb (by rw [hml]; exact hl.1.symm) hown (hts _ w_2305) (hts _ w_630) (hts _ w_18) (hts _ w_max) (Nat.le_of_ble_eq_true rfl) (Nat.le_of_ble_eq_true rfl) (Nat.le_of_ble_eq_true rfl) (Nat.le_of_ble_eq_true rfl) d_17_9_180 ?_
  refine nrm (x1 := 0) (by decide +kernel) ?_
  refine va_iast hx hb hG.1 hP hD hS 7 0 rfl rfl (vin rfl) d_17_9_183 (fun H locs hP hD hS => ?_)
  rw [upd_z] at hP hD
  have hP : va_P z.1 classes [(q0, .inl (z.2 8, 8, .inr (.inr (.inr (.inr (va_up (va_up (va_up (va_up (va_up (va_up (va_up (va_up g91 0 (some (r1 0))) 1 (some (r1 1))) 2 (some (r1 2))) 3 (some (r1 3))) 4 (some (r1 4))) 5 (some (r1 5))) 6 (some (r1 6))) 7 (some (r1 7)))))))), ((r1 0), .inl (z.2 0, 8, .inl (fun _ => 0))), ((r1 1), .inl (z.2 0, 8, .inl (fun _ => 0))), ((r1 2), .inl (z.2 0, 8, .inl (fun _ => 0))), ((r1 3), .inl (z.2 0, 8, .inl (fun _ => 0))), ((r1 4), .inl (z.2 0, 8, .inl (fun _ => 0))), ((r1 5), .inl (z.2 0, 8, .inl (fun _ => 0))), ((r1 6), .inl (z.2 0, 8, .inl (fun _ => 0))), ((r1 7), .inl (z.2 0, 8, .inl (fun _ => 0))), (a0, .inr (14, [.ref a1, .int 0, .ref a2, .ref a3, .int 0, .ref a4, .ref q0]))] H := hP
  have hD : va_D A [(q0, .inl (z.2 8, 8, .inr (.inr (.inr (.inr (va_up (va_up (va_up (va_up (va_up (va_up (va_up (va_up g91 0 (some (r1 0))) 1 (some (r1 1))) 2 (some (r1 2))) 3 (some (r1 3))) 4 (some (r1 4))) 5 (some (r1 5))) 6 (some (r1 6))) 7 (some (r1 7)))))))), ((r1 0), .inl (z.2 0, 8, .inl (fun _ => 0))), ((r1 1), .inl (z.2 0, 8, .inl (fun _ => 0))), ((r1 2), .inl (z.2 0, 8, .inl (fun _ => 0))), ((r1 3), .inl (z.2 0, 8, .inl (fun _ => 0))), ((r1 4), .inl (z.2 0, 8, .inl (fun _ => 0))), ((r1 5), .inl (z.2 0, 8, .inl (fun _ => 0))), ((r1 6), .inl (z.2 0, 8, .inl (fun _ => 0))), ((r1 7), .inl (z.2 0, 8, .inl (fun _ => 0))), (a0, .inr (14, [.ref a1, .int 0, .ref a2, .ref a3, .int 0, .ref a4, .ref q0]))] := hD
  refine lv_iinc (v := 1) (lv' := [(4, .int 1), (3, .int 6), (2, .int 5), (1, .ref q0), (0, .ref a0)]) hx hb d_17_9_184 hl (k := 0) rfl (by decide +kernel) (by decide) rfl (fun ls hl => ?_)
  refine lv_goto (tgt := 131) hx hb d_17_9_187 (by decide) ?_
  refine lv_iload hx hb d_17_9_131 (lv_at hl 0 rfl) ?_
  refine lv_bipush (v := 8) hx hb d_17_9_133 (by decide +kernel) ?_
  refine lv_icmp_ge (tgt := 190) hx hb d_17_9_135 (by decide) (fun c9 => absurd c9 (by decide +kernel)) (fun _ => ?_)
  refine lv_iload_n hx hb d_17_9_138 rfl (lv_at hl 1 rfl) ?_
  refine lv_iload hx hb d_17_9_139 (lv_at hl 0 rfl) ?_
  refine lv_icmp_eq (tgt := 184) hx hb d_17_9_141 (by decide) (fun c9 => absurd c9 (by decide +kernel)) (fun _ => ?_)
  refine lv_iload_n hx hb d_17_9_144 rfl (lv_at hl 1 rfl) ?_
  refine lv_iload_n hx hb d_17_9_145 rfl (lv_at hl 2 rfl) ?_
  refine lv_icmp_eq (tgt := 184) hx hb d_17_9_146 (by decide) (fun c9 => absurd c9 (by decide +kernel)) (fun _ => ?_)
  refine lv_iload hx hb d_17_9_149 (lv_at hl 0 rfl) ?_
  refine lv_iload_n hx hb d_17_9_151 rfl (lv_at hl 2 rfl) ?_
  refine lv_icmp_eq (tgt := 184) hx hb d_17_9_152 (by decide) (fun c9 => absurd c9 (by decide +kernel)) (fun _ => ?_)
  refine lv_aload_n hx hb d_17_9_155 rfl (lv_at hl 3 rfl) ?_
  refine lv_iload_n hx hb d_17_9_156 rfl (lv_at hl 1 rfl) ?_
  refine va_alda hx hb hG.1 hP 0 8 rfl rfl (vin rfl) d_17_9_157 ?_
  refine W.eq (g2 := F0 m 158 ls [.ref (r1 6)]) rfl ?_
  refine lv_iload hx hb d_17_9_158 (lv_at hl 0 rfl) ?_
  refine lv_aload_n hx hb d_17_9_160 rfl (lv_at hl 3 rfl) ?_
  refine lv_iload_n hx hb d_17_9_161 rfl (lv_at hl 1 rfl) ?_
  refine va_alda hx hb hG.1 hP 0 8 rfl rfl (vin rfl) d_17_9_162 ?_
  refine W.eq (g2 := F0 m 163 ls [.ref (r1 6), .int 1, .ref (r1 6)]) rfl ?_
  refine lv_iload hx hb d_17_9_163 (lv_at hl 0 rfl) ?_
  refine va_iald hx hb hG.1 hP 7 0 rfl rfl (vin rfl) d_17_9_165 ?_
  refine nrm (x1 := 0) rfl ?_
  refine lv_aload_n hx hb d_17_9_166 rfl (lv_at hl 3 rfl) ?_
  refine lv_iload_n hx hb d_17_9_167 rfl (lv_at hl 1 rfl) ?_
  refine va_alda hx hb hG.1 hP 0 8 rfl rfl (vin rfl) d_17_9_168 ?_
  refine W.eq (g2 := F0 m 169 ls [.ref (r1 6), .int 0, .int 1, .ref (r1 6)]) rfl ?_
  refine lv_iload_n hx hb d_17_9_169 rfl (lv_at hl 2 rfl) ?_
  refine va_iald hx hb hG.1 hP 7 0 rfl rfl (vin rfl) d_17_9_170 ?_
  refine nrm (x1 := 0) rfl ?_
  refine lv_aload_n hx hb d_17_9_171 rfl (lv_at hl 3 rfl) ?_
  refine lv_iload_n hx hb d_17_9_172 rfl (lv_at hl 2 rfl) ?_
  refine va_alda hx hb hG.1 hP 0 8 rfl rfl (vin rfl) d_17_9_173 ?_
  refine W.eq (g2 := F0 m 174 ls [.ref (r1 5), .int 0, .int 0, .int 1, .ref (r1 6)]) rfl ?_
  refine lv_iload hx hb d_17_9_174 (lv_at hl 0 rfl) ?_
  refine va_iald hx hb hG.1 hP 6 0 rfl rfl (vin rfl) d_17_9_176 ?_
  refine nrm (x1 := 0) rfl ?_
  refine va_mmin hx hb (by rw [hml]; exact hl.1.symm) hown (hts _ w_2304) (hts _ w_550) (hts _ w_18) (hts _ w_min) (Nat.le_of_ble_eq_true rfl) (Nat.le_of_ble_eq_true rfl) (Nat.le_of_ble_eq_true rfl) (Nat.le_of_ble_eq_true rfl) d_17_9_177 ?_
  refine nrm (x1 := 0) (by decide +kernel) ?_
  refine va_mmax hx hb (by rw [hml]; exact hl.1.symm) hown (hts _ w_2305) (hts _ w_630) (hts _ w_18) (hts _ w_max) (Nat.le_of_ble_eq_true rfl) (Nat.le_of_ble_eq_true rfl) (Nat.le_of_ble_eq_true rfl) (Nat.le_of_ble_eq_true rfl) d_17_9_180 ?_
  refine nrm (x1 := 0) (by decide +kernel) ?_
  refine va_iast hx hb hG.1 hP hD hS 7 0 rfl rfl (vin rfl) d_17_9_183 (fun H locs hP hD hS => ?_)
  rw [upd_z] at hP hD
  have hP : va_P z.1 classes [(q0, .inl (z.2 8, 8, .inr (.inr (.inr (.inr (va_up (va_up (va_up (va_up (va_up (va_up (va_up (va_up g91 0 (some (r1 0))) 1 (some (r1 1))) 2 (some (r1 2))) 3 (some (r1 3))) 4 (some (r1 4))) 5 (some (r1 5))) 6 (some (r1 6))) 7 (some (r1 7)))))))), ((r1 0), .inl (z.2 0, 8, .inl (fun _ => 0))), ((r1 1), .inl (z.2 0, 8, .inl (fun _ => 0))), ((r1 2), .inl (z.2 0, 8, .inl (fun _ => 0))), ((r1 3), .inl (z.2 0, 8, .inl (fun _ => 0))), ((r1 4), .inl (z.2 0, 8, .inl (fun _ => 0))), ((r1 5), .inl (z.2 0, 8, .inl (fun _ => 0))), ((r1 6), .inl (z.2 0, 8, .inl (fun _ => 0))), ((r1 7), .inl (z.2 0, 8, .inl (fun _ => 0))), (a0, .inr (14, [.ref a1, .int 0, .ref a2, .ref a3, .int 0, .ref a4, .ref q0]))] H := hP
  have hD : va_D A [(q0, .inl (z.2 8, 8, .inr (.inr (.inr (.inr (va_up (va_up (va_up (va_up (va_up (va_up (va_up (va_up g91 0 (some (r1 0))) 1 (some (r1 1))) 2 (some (r1 2))) 3 (some (r1 3))) 4 (some (r1 4))) 5 (some (r1 5))) 6 (some (r1 6))) 7 (some (r1 7)))))))), ((r1 0), .inl (z.2 0, 8, .inl (fun _ => 0))), ((r1 1), .inl (z.2 0, 8, .inl (fun _ => 0))), ((r1 2), .inl (z.2 0, 8, .inl (fun _ => 0))), ((r1 3), .inl (z.2 0, 8, .inl (fun _ => 0))), ((r1 4), .inl (z.2 0, 8, .inl (fun _ => 0))), ((r1 5), .inl (z.2 0, 8, .inl (fun _ => 0))), ((r1 6), .inl (z.2 0, 8, .inl (fun _ => 0))), ((r1 7), .inl (z.2 0, 8, .inl (fun _ => 0))), (a0, .inr (14, [.ref a1, .int 0, .ref a2, .ref a3, .int 0, .ref a4, .ref q0]))] := hD
  refine lv_iinc (v := 2) (lv' := [(4, .int 2), (3, .int 6), (2, .int 5), (1, .ref q0), (0, .ref a0)]) hx hb d_17_9_184 hl (k := 0) rfl (by decide +kernel) (by decide) rfl (fun ls hl => ?_)
  refine lv_goto (tgt := 131) hx hb d_17_9_187 (by decide) ?_
  refine lv_iload hx hb d_17_9_131 (lv_at hl 0 rfl) ?_
  refine lv_bipush (v := 8) hx hb d_17_9_133 (by decide +kernel) ?_
  refine lv_icmp_ge (tgt := 190) hx hb d_17_9_135 (by decide) (fun c9 => absurd c9 (by decide +kernel)) (fun _ => ?_)
  refine lv_iload_n hx hb d_17_9_138 rfl (lv_at hl 1 rfl) ?_
  refine lv_iload hx hb d_17_9_139 (lv_at hl 0 rfl) ?_
  refine lv_icmp_eq (tgt := 184) hx hb d_17_9_141 (by decide) (fun c9 => absurd c9 (by decide +kernel)) (fun _ => ?_)
  refine lv_iload_n hx hb d_17_9_144 rfl (lv_at hl 1 rfl) ?_
  refine lv_iload_n hx hb d_17_9_145 rfl (lv_at hl 2 rfl) ?_
  refine lv_icmp_eq (tgt := 184) hx hb d_17_9_146 (by decide) (fun c9 => absurd c9 (by decide +kernel)) (fun _ => ?_)
  refine lv_iload hx hb d_17_9_149 (lv_at hl 0 rfl) ?_
  refine lv_iload_n hx hb d_17_9_151 rfl (lv_at hl 2 rfl) ?_
  refine lv_icmp_eq (tgt := 184) hx hb d_17_9_152 (by decide) (fun c9 => absurd c9 (by decide +kernel)) (fun _ => ?_)
  refine lv_aload_n hx hb d_17_9_155 rfl (lv_at hl 3 rfl) ?_
  refine lv_iload_n hx hb d_17_9_156 rfl (lv_at hl 1 rfl) ?_
  refine va_alda hx hb hG.1 hP 0 8 rfl rfl (vin rfl) d_17_9_157 ?_
  refine W.eq (g2 := F0 m 158 ls [.ref (r1 6)]) rfl ?_
  refine lv_iload hx hb d_17_9_158 (lv_at hl 0 rfl) ?_
  refine lv_aload_n hx hb d_17_9_160 rfl (lv_at hl 3 rfl) ?_
  refine lv_iload_n hx hb d_17_9_161 rfl (lv_at hl 1 rfl) ?_
  refine va_alda hx hb hG.1 hP 0 8 rfl rfl (vin rfl) d_17_9_162 ?_
  refine W.eq (g2 := F0 m 163 ls [.ref (r1 6), .int 2, .ref (r1 6)]) rfl ?_
  refine lv_iload hx hb d_17_9_163 (lv_at hl 0 rfl) ?_
  refine va_iald hx hb hG.1 hP 7 0 rfl rfl (vin rfl) d_17_9_165 ?_
  refine nrm (x1 := 0) rfl ?_
  refine lv_aload_n hx hb d_17_9_166 rfl (lv_at hl 3 rfl) ?_
  refine lv_iload_n hx hb d_17_9_167 rfl (lv_at hl 1 rfl) ?_
  refine va_alda hx hb hG.1 hP 0 8 rfl rfl (vin rfl) d_17_9_168 ?_
  refine W.eq (g2 := F0 m 169 ls [.ref (r1 6), .int 0, .int 2, .ref (r1 6)]) rfl ?_
  refine lv_iload_n hx hb d_17_9_169 rfl (lv_at hl 2 rfl) ?_
  refine va_iald hx hb hG.1 hP 7 0 rfl rfl (vin rfl) d_17_9_170 ?_
  refine nrm (x1 := 0) rfl ?_
  refine lv_aload_n hx hb d_17_9_171 rfl (lv_at hl 3 rfl) ?_
  refine lv_iload_n hx hb d_17_9_172 rfl (lv_at hl 2 rfl) ?_
  refine va_alda hx hb hG.1 hP 0 8 rfl rfl (vin rfl) d_17_9_173 ?_
  refine W.eq (g2 := F0 m 174 ls [.ref (r1 5), .int 0, .int 0, .int 2, .ref (r1 6)]) rfl ?_
  refine lv_iload hx hb d_17_9_174 (lv_at hl 0 rfl) ?_
  refine va_iald hx hb hG.1 hP 6 0 rfl rfl (vin rfl) d_17_9_176 ?_
  refine nrm (x1 := 0) rfl ?_
  refine va_mmin hx hb (by rw [hml]; exact hl.1.symm) hown (hts _ w_2304) (hts _ w_550) (hts _ w_18) (hts _ w_min) (Nat.le_of_ble_eq_true rfl) (Nat.le_of_ble_eq_true rfl) (Nat.le_of_ble_eq_true rfl) (Nat.le_of_ble_eq_true rfl) d_17_9_177 ?_
  refine nrm (x1 := 0) (by decide +kernel) ?_
  refine va_mmax hx hb (by rw [hml]; exact hl.1.symm) hown (hts _ w_2305) (hts _ w_630) (hts _ w_18) (hts _ w_max) (Nat.le_of_ble_eq_true rfl) (Nat.le_of_ble_eq_true rfl) (Nat.le_of_ble_eq_true rfl) (Nat.le_of_ble_eq_true rfl) d_17_9_180 ?_
  refine nrm (x1 := 0) (by decide +kernel) ?_
  refine va_iast hx hb hG.1 hP hD hS 7 0 rfl rfl (vin rfl) d_17_9_183 (fun H locs hP hD hS => ?_)
  rw [upd_z] at hP hD
  have hP : va_P z.1 classes [(q0, .inl (z.2 8, 8, .inr (.inr (.inr (.inr (va_up (va_up (va_up (va_up (va_up (va_up (va_up (va_up g91 0 (some (r1 0))) 1 (some (r1 1))) 2 (some (r1 2))) 3 (some (r1 3))) 4 (some (r1 4))) 5 (some (r1 5))) 6 (some (r1 6))) 7 (some (r1 7)))))))), ((r1 0), .inl (z.2 0, 8, .inl (fun _ => 0))), ((r1 1), .inl (z.2 0, 8, .inl (fun _ => 0))), ((r1 2), .inl (z.2 0, 8, .inl (fun _ => 0))), ((r1 3), .inl (z.2 0, 8, .inl (fun _ => 0))), ((r1 4), .inl (z.2 0, 8, .inl (fun _ => 0))), ((r1 5), .inl (z.2 0, 8, .inl (fun _ => 0))), ((r1 6), .inl (z.2 0, 8, .inl (fun _ => 0))), ((r1 7), .inl (z.2 0, 8, .inl (fun _ => 0))), (a0, .inr (14, [.ref a1, .int 0, .ref a2, .ref a3, .int 0, .ref a4, .ref q0]))] H := hP
  have hD : va_D A [(q0, .inl (z.2 8, 8, .inr (.inr (.inr (.inr (va_up (va_up (va_up (va_up (va_up (va_up (va_up (va_up g91 0 (some (r1 0))) 1 (some (r1 1))) 2 (some (r1 2))) 3 (some (r1 3))) 4 (some (r1 4))) 5 (some (r1 5))) 6 (some (r1 6))) 7 (some (r1 7)))))))), ((r1 0), .inl (z.2 0, 8, .inl (fun _ => 0))), ((r1 1), .inl (z.2 0, 8, .inl (fun _ => 0))), ((r1 2), .inl (z.2 0, 8, .inl (fun _ => 0))), ((r1 3), .inl (z.2 0, 8, .inl (fun _ => 0))), ((r1 4), .inl (z.2 0, 8, .inl (fun _ => 0))), ((r1 5), .inl (z.2 0, 8, .inl (fun _ => 0))), ((r1 6), .inl (z.2 0, 8, .inl (fun _ => 0))), ((r1 7), .inl (z.2 0, 8, .inl (fun _ => 0))), (a0, .inr (14, [.ref a1, .int 0, .ref a2, .ref a3, .int 0, .ref a4, .ref q0]))] := hD
  refine lv_iinc (v := 3) (lv' := [(4, .int 3), (3, .int 6), (2, .int 5), (1, .ref q0), (0, .ref a0)]) hx hb d_17_9_184 hl (k := 0) rfl (by decide +kernel) (by decide) rfl (fun ls hl => ?_)
  refine lv_goto (tgt := 131) hx hb d_17_9_187 (by decide) ?_
  refine lv_iload hx hb d_17_9_131 (lv_at hl 0 rfl) ?_
  refine lv_bipush (v := 8) hx hb d_17_9_133 (by decide +kernel) ?_
  refine lv_icmp_ge (tgt := 190) hx hb d_17_9_135 (by decide) (fun c9 => absurd c9 (by decide +kernel)) (fun _ => ?_)
  refine lv_iload_n hx hb d_17_9_138 rfl (lv_at hl 1 rfl) ?_
  refine lv_iload hx hb d_17_9_139 (lv_at hl 0 rfl) ?_
  refine lv_icmp_eq (tgt := 184) hx hb d_17_9_141 (by decide) (fun c9 => absurd c9 (by decide +kernel)) (fun _ => ?_)
  refine lv_iload_n hx hb d_17_9_144 rfl (lv_at hl 1 rfl) ?_
  refine lv_iload_n hx hb d_17_9_145 rfl (lv_at hl 2 rfl) ?_
  refine lv_icmp_eq (tgt := 184) hx hb d_17_9_146 (by decide) (fun c9 => absurd c9 (by decide +kernel)) (fun _ => ?_)
  refine lv_iload hx hb d_17_9_149 (lv_at hl 0 rfl) ?_
  refine lv_iload_n hx hb d_17_9_151 rfl (lv_at hl 2 rfl) ?_
  refine lv_icmp_eq (tgt := 184) hx hb d_17_9_152 (by decide) (fun c9 => absurd c9 (by decide +kernel)) (fun _ => ?_)
  refine lv_aload_n hx hb d_17_9_155 rfl (lv_at hl 3 rfl) ?_
  refine lv_iload_n hx hb d_17_9_156 rfl (lv_at hl 1 rfl) ?_
  refine va_alda hx hb hG.1 hP 0 8 rfl rfl (vin rfl) d_17_9_157 ?_
  refine W.eq (g2 := F0 m 158 ls [.ref (r1 6)]) rfl ?_
  refine lv_iload hx hb d_17_9_158 (lv_at hl 0 rfl) ?_
  refine lv_aload_n hx hb d_17_9_160 rfl (lv_at hl 3 rfl) ?_
  refine lv_iload_n hx hb d_17_9_161 rfl (lv_at hl 1 rfl) ?_
  refine va_alda hx hb hG.1 hP 0 8 rfl rfl (vin rfl) d_17_9_162 ?_
  refine W.eq (g2 := F0 m 163 ls [.ref (r1 6), .int 3, .ref (r1 6)]) rfl ?_
  refine lv_iload hx hb d_17_9_163 (lv_at hl 0 rfl) ?_
  refine va_iald hx hb hG.1 hP 7 0 rfl rfl (vin rfl) d_17_9_165 ?_
  refine nrm (x1 := 0) rfl ?_
  refine lv_aload_n hx hb d_17_9_166 rfl (lv_at hl 3 rfl) ?_
  refine lv_iload_n hx hb d_17_9_167 rfl (lv_at hl 1 rfl) ?_
  refine va_alda hx hb hG.1 hP 0 8 rfl rfl (vin rfl) d_17_9_168 ?_
  refine W.eq (g2 := F0 m 169 ls [.ref (r1 6), .int 0, .int 3, .ref (r1 6)]) rfl ?_
  refine lv_iload_n hx hb d_17_9_169 rfl (lv_at hl 2 rfl) ?_
  refine va_iald hx hb hG.1 hP 7 0 rfl rfl (vin rfl) d_17_9_170 ?_
  refine nrm (x1 := 0) rfl ?_
  refine lv_aload_n hx hb d_17_9_171 rfl (lv_at hl 3 rfl) ?_
  refine lv_iload_n hx hb d_17_9_172 rfl (lv_at hl 2 rfl) ?_
  refine va_alda hx hb hG.1 hP 0 8 rfl rfl (vin rfl) d_17_9_173 ?_
  refine W.eq (g2 := F0 m 174 ls [.ref (r1 5), .int 0, .int 0, .int 3, .ref (r1 6)]) rfl ?_
  refine lv_iload hx hb d_17_9_174 (lv_at hl 0 rfl) ?_
  refine va_iald hx hb hG.1 hP 6 0 rfl rfl (vin rfl) d_17_9_176 ?_
  refine nrm (x1 := 0) rfl ?_
  refine va_mmin hx hb (by rw [hml]; exact hl.1.symm) hown (hts _ w_2304) (hts _ w_550) (hts _ w_18) (hts _ w_min) (Nat.le_of_ble_eq_true rfl) (Nat.le_of_ble_eq_true rfl) (Nat.le_of_ble_eq_true rfl) (Nat.le_of_ble_eq_true rfl) d_17_9_177 ?_
  refine nrm (x1 := 0) (by decide +kernel) ?_
  refine va_mmax hx hb (by rw [hml]; exact hl.1.symm) hown (hts _ w_2305) (hts _ w_630) (hts _ w_18) (hts _ w_max) (Nat.le_of_ble_eq_true rfl) (Nat.le_of_ble_eq_true rfl) (Nat.le_of_ble_eq_true rfl) (Nat.le_of_ble_eq_true rfl) d_17_9_180 ?_
  refine nrm (x1 := 0) (by decide +kernel) ?_
  refine va_iast hx hb hG.1 hP hD hS 7 0 rfl rfl (vin rfl) d_17_9_183 (fun H locs hP hD hS => ?_)
  rw [upd_z] at hP hD
  have hP : va_P z.1 classes [(q0, .inl (z.2 8, 8, .inr (.inr (.inr (.inr (va_up (va_up (va_up (va_up (va_up (va_up (va_up (va_up g91 0 (some (r1 0))) 1 (some (r1 1))) 2 (some (r1 2))) 3 (some (r1 3))) 4 (some (r1 4))) 5 (some (r1 5))) 6 (some (r1 6))) 7 (some (r1 7)))))))), ((r1 0), .inl (z.2 0, 8, .inl (fun _ => 0))), ((r1 1), .inl (z.2 0, 8, .inl (fun _ => 0))), ((r1 2), .inl (z.2 0, 8, .inl (fun _ => 0))), ((r1 3), .inl (z.2 0, 8, .inl (fun _ => 0))), ((r1 4), .inl (z.2 0, 8, .inl (fun _ => 0))), ((r1 5), .inl (z.2 0, 8, .inl (fun _ => 0))), ((r1 6), .inl (z.2 0, 8, .inl (fun _ => 0))), ((r1 7), .inl (z.2 0, 8, .inl (fun _ => 0))), (a0, .inr (14, [.ref a1, .int 0, .ref a2, .ref a3, .int 0, .ref a4, .ref q0]))] H := hP
  have hD : va_D A [(q0, .inl (z.2 8, 8, .inr (.inr (.inr (.inr (va_up (va_up (va_up (va_up (va_up (va_up (va_up (va_up g91 0 (some (r1 0))) 1 (some (r1 1))) 2 (some (r1 2))) 3 (some (r1 3))) 4 (some (r1 4))) 5 (some (r1 5))) 6 (some (r1 6))) 7 (some (r1 7)))))))), ((r1 0), .inl (z.2 0, 8, .inl (fun _ => 0))), ((r1 1), .inl (z.2 0, 8, .inl (fun _ => 0))), ((r1 2), .inl (z.2 0, 8, .inl (fun _ => 0))), ((r1 3), .inl (z.2 0, 8, .inl (fun _ => 0))), ((r1 4), .inl (z.2 0, 8, .inl (fun _ => 0))), ((r1 5), .inl (z.2 0, 8, .inl (fun _ => 0))), ((r1 6), .inl (z.2 0, 8, .inl (fun _ => 0))), ((r1 7), .inl (z.2 0, 8, .inl (fun _ => 0))), (a0, .inr (14, [.ref a1, .int 0, .ref a2, .ref a3, .int 0, .ref a4, .ref q0]))] := hD
  refine lv_iinc (v := 4) (lv' := [(4, .int 4), (3, .int 6), (2, .int 5), (1, .ref q0), (0, .ref a0)]) hx hb d_17_9_184 hl (k := 0) rfl (by decide +kernel) (by decide) rfl (fun ls hl => ?_)
  refine lv_goto (tgt := 131) hx hb d_17_9_187 (by decide) ?_
  refine lv_iload hx hb d_17_9_131 (lv_at hl 0 rfl) ?_
  refine lv_bipush (v := 8) hx hb d_17_9_133 (by decide +kernel) ?_
  refine lv_icmp_ge (tgt := 190) hx hb d_17_9_135 (by decide) (fun c9 => absurd c9 (by decide +kernel)) (fun _ => ?_)
  refine lv_iload_n hx hb d_17_9_138 rfl (lv_at hl 1 rfl) ?_
  refine lv_iload hx hb d_17_9_139 (lv_at hl 0 rfl) ?_
  refine lv_icmp_eq (tgt := 184) hx hb d_17_9_141 (by decide) (fun c9 => absurd c9 (by decide +kernel)) (fun _ => ?_)
  refine lv_iload_n hx hb d_17_9_144 rfl (lv_at hl 1 rfl) ?_
  refine lv_iload_n hx hb d_17_9_145 rfl (lv_at hl 2 rfl) ?_
  refine lv_icmp_eq (tgt := 184) hx hb d_17_9_146 (by decide) (fun c9 => absurd c9 (by decide +kernel)) (fun _ => ?_)
  refine lv_iload hx hb d_17_9_149 (lv_at hl 0 rfl) ?_
  refine lv_iload_n hx hb d_17_9_151 rfl (lv_at hl 2 rfl) ?_
  refine lv_icmp_eq (tgt := 184) hx hb d_17_9_152 (by decide) (fun c9 => absurd c9 (by decide +kernel)) (fun _ => ?_)
  refine lv_aload_n hx hb d_17_9_155 rfl (lv_at hl 3 rfl) ?_
  refine lv_iload_n hx hb d_17_9_156 rfl (lv_at hl 1 rfl) ?_
  refine va_alda hx hb hG.1 hP 0 8 rfl rfl (vin rfl) d_17_9_157 ?_
  refine W.eq (g2 := F0 m 158 ls [.ref (r1 6)]) rfl ?_
  refine lv_iload hx hb d_17_9_158 (lv_at hl 0 rfl) ?_
  refine lv_aload_n hx hb d_17_9_160 rfl (lv_at hl 3 rfl) ?_
  refine lv_iload_n hx hb d_17_9_161 rfl (lv_at hl 1 rfl) ?_
  refine va_alda hx hb hG.1 hP 0 8 rfl rfl (vin rfl) d_17_9_162 ?_
  refine W.eq (g2 := F0 m 163 ls [.ref (r1 6), .int 4, .ref (r1 6)]) rfl ?_
  refine lv_iload hx hb d_17_9_163 (lv_at hl 0 rfl) ?_
  refine va_iald hx hb hG.1 hP 7 0 rfl rfl (vin rfl) d_17_9_165 ?_
  refine nrm (x1 := 0) rfl ?_
  refine lv_aload_n hx hb d_17_9_166 rfl (lv_at hl 3 rfl) ?_
  refine lv_iload_n hx hb d_17_9_167 rfl (lv_at hl 1 rfl) ?_
  refine va_alda hx hb hG.1 hP 0 8 rfl rfl (vin rfl) d_17_9_168 ?_
  refine W.eq (g2 := F0 m 169 ls [.ref (r1 6), .int 0, .int 4, .ref (r1 6)]) rfl ?_
  refine lv_iload_n hx hb d_17_9_169 rfl (lv_at hl 2 rfl) ?_
  refine va_iald hx hb hG.1 hP 7 0 rfl rfl (vin rfl) d_17_9_170 ?_
  refine nrm (x1 := 0) rfl ?_
  refine lv_aload_n hx hb d_17_9_171 rfl (lv_at hl 3 rfl) ?_
  refine lv_iload_n hx hb d_17_9_172 rfl (lv_at hl 2 rfl) ?_
  refine va_alda hx hb hG.1 hP 0 8 rfl rfl (vin rfl) d_17_9_173 ?_
  refine W.eq (g2 := F0 m 174 ls [.ref (r1 5), .int 0, .int 0, .int 4, .ref (r1 6)]) rfl ?_
  refine lv_iload hx hb d_17_9_174 (lv_at hl 0 rfl) ?_
  refine va_iald hx hb hG.1 hP 6 0 rfl rfl (vin rfl) d_17_9_176 ?_
  refine nrm (x1 := 0) rfl ?_
  refine va_mmin hx hb (by rw [hml]; exact hl.1.symm) hown (hts _ w_2304) (hts _ w_550) (hts _ w_18) (hts _ w_min) (Nat.le_of_ble_eq_true rfl) (Nat.le_of_ble_eq_true rfl) (Nat.le_of_ble_eq_true rfl) (Nat.le_of_ble_eq_true rfl) d_17_9_177 ?_
  refine nrm (x1 := 0) (by decide +kernel) ?_
  refine va_mmax hx hb (by rw [hml]; exact hl.1.symm) hown (hts _ w_2305) (hts _ w_630) (hts _ w_18) (hts _ w_max) (Nat.le_of_ble_eq_true rfl) (Nat.le_of_ble_eq_true rfl) (Nat.le_of_ble_eq_true rfl) (Nat.le_of_ble_eq_true rfl) d_17_9_180 ?_
  refine nrm (x1 := 0) (by decide +kernel) ?_
  refine va_iast hx hb hG.1 hP hD hS 7 0 rfl rfl (vin rfl) d_17_9_183 (fun H locs hP hD hS => ?_)
  rw [upd_z] at hP hD
  have hP : va_P z.1 classes [(q0, .inl (z.2 8, 8, .inr (.inr (.inr (.inr (va_up (va_up (va_up (va_up (va_up (va_up (va_up (va_up g91 0 (some (r1 0))) 1 (some (r1 1))) 2 (some (r1 2))) 3 (some (r1 3))) 4 (some (r1 4))) 5 (some (r1 5))) 6 (some (r1 6))) 7 (some (r1 7)))))))), ((r1 0), .inl (z.2 0, 8, .inl (fun _ => 0))), ((r1 1), .inl (z.2 0, 8, .inl (fun _ => 0))), ((r1 2), .inl (z.2 0, 8, .inl (fun _ => 0))), ((r1 3), .inl (z.2 0, 8, .inl (fun _ => 0))), ((r1 4), .inl (z.2 0, 8, .inl (fun _ => 0))), ((r1 5), .inl (z.2 0, 8, .inl (fun _ => 0))), ((r1 6), .inl (z.2 0, 8, .inl (fun _ => 0))), ((r1 7), .inl (z.2 0, 8, .inl (fun _ => 0))), (a0, .inr (14, [.ref a1, .int 0, .ref a2, .ref a3, .int 0, .ref a4, .ref q0]))] H := hP
  have hD : va_D A [(q0, .inl (z.2 8, 8, .inr (.inr (.inr (.inr (va_up (va_up (va_up (va_up (va_up (va_up (va_up (va_up g91 0 (some (r1 0))) 1 (some (r1 1))) 2 (some (r1 2))) 3 (some (r1 3))) 4 (some (r1 4))) 5 (some (r1 5))) 6 (some (r1 6))) 7 (some (r1 7)))))))), ((r1 0), .inl (z.2 0, 8, .inl (fun _ => 0))), ((r1 1), .inl (z.2 0, 8, .inl (fun _ => 0))), ((r1 2), .inl (z.2 0, 8, .inl (fun _ => 0))), ((r1 3), .inl (z.2 0, 8, .inl (fun _ => 0))), ((r1 4), .inl (z.2 0, 8, .inl (fun _ => 0))), ((r1 5), .inl (z.2 0, 8, .inl (fun _ => 0))), ((r1 6), .inl (z.2 0, 8, .inl (fun _ => 0))), ((r1 7), .inl (z.2 0, 8, .inl (fun _ => 0))), (a0, .inr (14, [.ref a1, .int 0, .ref a2, .ref a3, .int 0, .ref a4, .ref q0]))] := hD
  refine lv_iinc (v := 5) (lv' := [(4, .int 5), (3, .int 6), (2, .int 5), (1, .ref q0), (0, .ref a0)]) hx hb d_17_9_184 hl (k := 0) rfl (by decide +kernel) (by decide) rfl (fun ls hl => ?_)
  refine lv_goto (tgt := 131) hx hb d_17_9_187 (by decide) ?_
  refine lv_iload hx hb d_17_9_131 (lv_at hl 0 rfl) ?_
  refine lv_bipush (v := 8) hx hb d_17_9_133 (by decide +kernel) ?_
  refine lv_icmp_ge (tgt := 190) hx hb d_17_9_135 (by decide) (fun c9 => absurd c9 (by decide +kernel)) (fun _ => ?_)
  refine lv_iload_n hx hb d_17_9_138 rfl (lv_at hl 1 rfl) ?_
  refine lv_iload hx hb d_17_9_139 (lv_at hl 0 rfl) ?_
  refine lv_icmp_eq (tgt := 184) hx hb d_17_9_141 (by decide) (fun c9 => absurd c9 (by decide +kernel)) (fun _ => ?_)
  refine lv_iload_n hx hb d_17_9_144 rfl (lv_at hl 1 rfl) ?_
  refine lv_iload_n hx hb d_17_9_145 rfl (lv_at hl 2 rfl) ?_
  refine lv_icmp_eq (tgt := 184) hx hb d_17_9_146 (by decide) (fun c9 => absurd c9 (by decide +kernel)) (fun _ => ?_)
  refine lv_iload hx hb d_17_9_149 (lv_at hl 0 rfl) ?_
  refine lv_iload_n hx hb d_17_9_151 rfl (lv_at hl 2 rfl) ?_
  refine lv_icmp_eq (tgt := 184) hx hb d_17_9_152 (by decide) (fun _ => ?_) (fun c9 => absurd (by decide +kernel) c9)
  refine lv_iinc (v := 6) (lv' := [(4, .int 6), (3, .int 6), (2, .int 5), (1, .ref q0), (0, .ref a0)]) hx hb d_17_9_184 hl (k := 0) rfl (by decide +kernel) (by decide) rfl (fun ls hl => ?_)
  refine lv_goto (tgt := 131) hx hb d_17_9_187 (by decide) ?_
  refine lv_iload hx hb d_17_9_131 (lv_at hl 0 rfl) ?_
  refine lv_bipush (v := 8) hx hb d_17_9_133 (by decide +kernel) ?_
  refine lv_icmp_ge (tgt := 190) hx hb d_17_9_135 (by decide) (fun c9 => absurd c9 (by decide +kernel)) (fun _ => ?_)
  refine lv_iload_n hx hb d_17_9_138 rfl (lv_at hl 1 rfl) ?_
  refine lv_iload hx hb d_17_9_139 (lv_at hl 0 rfl) ?_
  refine lv_icmp_eq (tgt := 184) hx hb d_17_9_141 (by decide) (fun _ => ?_) (fun c9 => absurd (by decide +kernel) c9)
  refine lv_iinc (v := 7) (lv' := [(4, .int 7), (3, .int 6), (2, .int 5), (1, .ref q0), (0, .ref a0)]) hx hb d_17_9_184 hl (k := 0) rfl (by decide +kernel) (by decide) rfl (fun ls hl => ?_)
  refine lv_goto (tgt := 131) hx hb d_17_9_187 (by decide) ?_
  refine lv_iload hx hb d_17_9_131 (lv_at hl 0 rfl) ?_
  refine lv_bipush (v := 8) hx hb d_17_9_133 (by decide +kernel) ?_
  refine lv_icmp_ge (tgt := 190) hx hb d_17_9_135 (by decide) (fun c9 => absurd c9 (by decide +kernel)) (fun _ => ?_)
  refine lv_iload_n hx hb d_17_9_138 rfl (lv_at hl 1 rfl) ?_
  refine lv_iload hx hb d_17_9_139 (lv_at hl 0 rfl) ?_
  refine lv_icmp_eq (tgt := 184) hx hb d_17_9_141 (by decide) (fun c9 => absurd c9 (by decide +kernel)) (fun _ => ?_)
  refine lv_iload_n hx hb d_17_9_144 rfl (lv_at hl 1 rfl) ?_
  refine lv_iload_n hx hb d_17_9_145 rfl (lv_at hl 2 rfl) ?_
  refine lv_icmp_eq (tgt := 184) hx hb d_17_9_146 (by decide) (fun c9 => absurd c9 (by decide +kernel)) (fun _ => ?_)
  refine lv_iload hx hb d_17_9_149 (lv_at hl 0 rfl) ?_
  refine lv_iload_n hx hb d_17_9_151 rfl (lv_at hl 2 rfl) ?_
  refine lv_icmp_eq (tgt := 184) hx hb d_17_9_152 (by decide) (fun c9 => absurd c9 (by decide +kernel)) (fun _ => ?_)
  refine lv_aload_n hx hb d_17_9_155 rfl (lv_at hl 3 rfl) ?_
  refine lv_iload_n hx hb d_17_9_156 rfl (lv_at hl 1 rfl) ?_
  refine va_alda hx hb hG.1 hP 0 8 rfl rfl (vin rfl) d_17_9_157 ?_
  refine W.eq (g2 := F0 m 158 ls [.ref (r1 6)]) rfl ?_
  refine lv_iload hx hb d_17_9_158 (lv_at hl 0 rfl) ?_
  refine lv_aload_n hx hb d_17_9_160 rfl (lv_at hl 3 rfl) ?_
  refine lv_iload_n hx hb d_17_9_161 rfl (lv_at hl 1 rfl) ?_
  refine va_alda hx hb hG.1 hP 0 8 rfl rfl (vin rfl) d_17_9_162 ?_
  refine W.eq (g2 := F0 m 163 ls [.ref (r1 6), .int 7, .ref (r1 6)]) rfl ?_
  refine lv_iload hx hb d_17_9_163 (lv_at hl 0 rfl) ?_
  refine va_iald hx hb hG.1 hP 7 0 rfl rfl (vin rfl) d_17_9_165 ?_
  refine nrm (x1 := 0) rfl ?_
  refine lv_aload_n hx hb d_17_9_166 rfl (lv_at hl 3 rfl) ?_
  refine lv_iload_n hx hb d_17_9_167 rfl (lv_at hl 1 rfl) ?_
  refine va_alda hx hb hG.1 hP 0 8 rfl rfl (vin rfl) d_17_9_168 ?_
  refine W.eq (g2 := F0 m 169 ls [.ref (r1 6), .int 0, .int 7, .ref (r1 6)]) rfl ?_
  refine lv_iload_n hx hb d_17_9_169 rfl (lv_at hl 2 rfl) ?_
  refine va_iald hx hb hG.1 hP 7 0 rfl rfl (vin rfl) d_17_9_170 ?_
  refine nrm (x1 := 0) rfl ?_
  refine lv_aload_n hx hb d_17_9_171 rfl (lv_at hl 3 rfl) ?_
  refine lv_iload_n hx hb d_17_9_172 rfl (lv_at hl 2 rfl) ?_
  refine va_alda hx hb hG.1 hP 0 8 rfl rfl (vin rfl) d_17_9_173 ?_
  refine W.eq (g2 := F0 m 174 ls [.ref (r1 5), .int 0, .int 0, .int 7, .ref (r1 6)]) rfl ?_
  refine lv_iload hx hb d_17_9_174 (lv_at hl 0 rfl) ?_
  refine va_iald hx hb hG.1 hP 6 0 rfl rfl (vin rfl) d_17_9_176 ?_
  refine nrm (x1 := 0) rfl ?_
  refine va_mmin hx hb (by rw [hml]; exact hl.1.symm) hown (hts _ w_2304) (hts _ w_550) (hts _ w_18) (hts _ w_min) (Nat.le_of_ble_eq_true rfl) (Nat.le_of_ble_eq_true rfl) (Nat.le_of_ble_eq_true rfl) (Nat.le_of_ble_eq_true rfl) d_17_9_177 ?_
  refine nrm (x1 := 0) (by decide +kernel) ?_
  refine va_mmax hx hb (by rw [hml]; exact hl.1.symm) hown (hts _ w_2305) (hts _ w_630) (hts _ w_18) (hts _ w_max) (Nat.le_of_ble_eq_true rfl) (Nat.le_of_ble_eq_true rfl) (Nat.le_of_ble_eq_true rfl) (Nat.le_of_ble_eq_true rfl) d_17_9_180 ?_
  refine nrm (x1 := 0) (by decide +kernel) ?_
  refine va_iast hx hb hG.1 hP hD hS 7 0 rfl rfl (vin rfl) d_17_9_183 (fun H locs hP hD hS => ?_)
  rw [upd_z] at hP hD
  have hP : va_P z.1 classes [(q0, .inl (z.2 8, 8, .inr (.inr (.inr (.inr (va_up (va_up (va_up (va_up (va_up (va_up (va_up (va_up g91 0 (some (r1 0))) 1 (some (r1 1))) 2 (some (r1 2))) 3 (some (r1 3))) 4 (some (r1 4))) 5 (some (r1 5))) 6 (some (r1 6))) 7 (some (r1 7)))))))), ((r1 0), .inl (z.2 0, 8, .inl (fun _ => 0))), ((r1 1), .inl (z.2 0, 8, .inl (fun _ => 0))), ((r1 2), .inl (z.2 0, 8, .inl (fun _ => 0))), ((r1 3), .inl (z.2 0, 8, .inl (fun _ => 0))), ((r1 4), .inl (z.2 0, 8, .inl (fun _ => 0))), ((r1 5), .inl (z.2 0, 8, .inl (fun _ => 0))), ((r1 6), .inl (z.2 0, 8, .inl (fun _ => 0))), ((r1 7), .inl (z.2 0, 8, .inl (fun _ => 0))), (a0, .inr (14, [.ref a1, .int 0, .ref a2, .ref a3, .int 0, .ref a4, .ref q0]))] H := hP
  have hD : va_D A [(q0, .inl (z.2 8, 8, .inr (.inr (.inr (.inr (va_up (va_up (va_up (va_up (va_up (va_up (va_up (va_up g91 0 (some (r1 0))) 1 (some (r1 1))) 2 (some (r1 2))) 3 (some (r1 3))) 4 (some (r1 4))) 5 (some (r1 5))) 6 (some (r1 6))) 7 (some (r1 7)))))))), ((r1 0), .inl (z.2 0, 8, .inl (fun _ => 0))), ((r1 1), .inl (z.2 0, 8, .inl (fun _ => 0))), ((r1 2), .inl (z.2 0, 8, .inl (fun _ => 0))), ((r1 3), .inl (z.2 0, 8, .inl (fun _ => 0))), ((r1 4), .inl (z.2 0, 8, .inl (fun _ => 0))), ((r1 5), .inl (z.2 0, 8, .inl (fun _ => 0))), ((r1 6), .inl (z.2 0, 8, .inl (fun _ => 0))), ((r1 7), .inl (z.2 0, 8, .inl (fun _ => 0))), (a0, .inr (14, [.ref a1, .int 0, .ref a2, .ref a3, .int 0, .ref a4, .ref q0]))] := hD
  refine lv_iinc (v := 8) (lv' := [(4, .int 8), (3, .int 6), (2, .int 5), (1, .ref q0), (0, .ref a0)]) hx hb d_17_9_184 hl (k := 0) rfl (by decide +kernel) (by decide) rfl (fun ls hl => ?_)
  refine lv_goto (tgt := 131) hx hb d_17_9_187 (by decide) ?_
  refine lv_iload hx hb d_17_9_131 (lv_at hl 0 rfl) ?_
  refine lv_bipush (v := 8) hx hb d_17_9_133 (by decide +kernel) ?_
  refine lv_icmp_ge (tgt := 190) hx hb d_17_9_135 (by decide) (fun _ => ?_) (fun c9 => absurd (by decide +kernel) c9)
  refine lv_iinc (v := 7) (lv' := [(3, .int 7), (4, .int 8), (2, .int 5), (1, .ref q0), (0, .ref a0)]) hx hb d_17_9_190 hl (k := 1) rfl (by decide +kernel) (by decide) rfl (fun ls hl => ?_)
  refine lv_goto (tgt := 122) hx hb d_17_9_193 (by decide) ?_
  refine W.widen (k := 9) (n := 72) (Nat.le_of_ble_eq_true rfl) (Nat.le_of_ble_eq_true rfl) ?_
  exact hk H locs ls hP hD hS hl
