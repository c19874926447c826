set_option maxRecDepth 100000 in
set_option maxHeartbeats 4000000 in
theorem s389_paths (l : Launch) (z : Zz) (a0 : Nat) (a1 : Nat) (a2 : Nat) (a3 : Nat) (a4 : Nat) (g91 : Nat → Option Nat) (q0 : Nat) (r1 : Nat → Nat) {p : Program} {e : Env} {s : State} {m : MethodId} {below : List Frame} {meth : Method} {c : Code} {A : Nat → Prop} {Q : State → Prop} (hx : p.tables.exec = Jvm.exec) (hb : c.code = prog_17_method_9_code) (hml : c.maxLocals = 5) (hts : ∀ w ∈ WG, w.before ([.ref a0] : List Value).toArray s = true) (hown : s.vm.findClass "BallothallModel$Poll" = some m.cls) (hA : ∀ q, s.heap.size ≤ q → A q) (hG : KG z s) (hZ : XZ A s) (hk : ∀ (H : Heap) (locs : List Loc) (ls : Array Slot), va_P z.1 classes [(q0, .inl (z.2 8, 8, .inr (.inr (.inr (.inr (va_up (va_up (va_up (va_up (va_up (va_up (va_up (va_up g91 0 (some (r1 0))) 1 (some (r1 1))) 2 (some (r1 2))) 3 (some (r1 3))) 4 (some (r1 4))) 5 (some (r1 5))) 6 (some (r1 6))) 7 (some (r1 7)))))))), ((r1 0), .inl (z.2 0, 8, .inl (fun _ => 0))), ((r1 1), .inl (z.2 0, 8, .inl (fun _ => 0))), ((r1 2), .inl (z.2 0, 8, .inl (fun _ => 0))), ((r1 3), .inl (z.2 0, 8, .inl (fun _ => 0))), ((r1 4), .inl (z.2 0, 8, .inl (fun _ => 0))), ((r1 5), .inl (z.2 0, 8, .inl (fun _ => 0))), ((r1 6), .inl (z.2 0, 8, .inl (fun _ => 0))), ((r1 7), .inl (z.2 0, 8, .inl (fun _ => 0))), (a0, .inr (14, [.ref a1, .int 0, .ref a2, .ref a3, .int 0, .ref a4, .ref q0]))] H → va_D A [(q0, .inl (z.2 8, 8, .inr (.inr (.inr (.inr (va_up (va_up (va_up (va_up (va_up (va_up (va_up (va_up g91 0 (some (r1 0))) 1 (some (r1 1))) 2 (some (r1 2))) 3 (some (r1 3))) 4 (some (r1 4))) 5 (some (r1 5))) 6 (some (r1 6))) 7 (some (r1 7)))))))), ((r1 0), .inl (z.2 0, 8, .inl (fun _ => 0))), ((r1 1), .inl (z.2 0, 8, .inl (fun _ => 0))), ((r1 2), .inl (z.2 0, 8, .inl (fun _ => 0))), ((r1 3), .inl (z.2 0, 8, .inl (fun _ => 0))), ((r1 4), .inl (z.2 0, 8, .inl (fun _ => 0))), ((r1 5), .inl (z.2 0, 8, .inl (fun _ => 0))), ((r1 6), .inl (z.2 0, 8, .inl (fun _ => 0))), ((r1 7), .inl (z.2 0, 8, .inl (fun _ => 0))), (a0, .inr (14, [.ref a1, .int 0, .ref a2, .ref a3, .int 0, .ref a4, .ref q0]))] → va_S A s.heap H locs → lv_has ls 5 [(3, .int 8), (4, .int 8), (2, .int 7), (1, .ref q0), (0, .ref a0)] → W p l e (rmK 1 29 9 72) s m ([.ref a0] : List Value).toArray below meth c H locs 9 72 Q (F0 m 122 ls [])) (H : Heap) (locs : List Loc) (ls : Array Slot) (hP : va_P z.1 classes [(q0, .inl (z.2 8, 8, .inr (.inr (.inr (.inr (va_up (va_up (va_up (va_up (va_up (va_up (va_up (va_up g91 0 (some (r1 0))) 1 (some (r1 1))) 2 (some (r1 2))) 3 (some (r1 3))) 4 (some (r1 4))) 5 (some (r1 5))) 6 (some (r1 6))) 7 (some (r1 7)))))))), ((r1 0), .inl (z.2 0, 8, .inl (fun _ => 0))), ((r1 1), .inl (z.2 0, 8, .inl (fun _ => 0))), ((r1 2), .inl (z.2 0, 8, .inl (fun _ => 0))), ((r1 3), .inl (z.2 0, 8, .inl (fun _ => 0))), ((r1 4), .inl (z.2 0, 8, .inl (fun _ => 0))), ((r1 5), .inl (z.2 0, 8, .inl (fun _ => 0))), ((r1 6), .inl (z.2 0, 8, .inl (fun _ => 0))), ((r1 7), .inl (z.2 0, 8, .inl (fun _ => 0))), (a0, .inr (14, [.ref a1, .int 0, .ref a2, .ref a3, .int 0, .ref a4, .ref q0]))] H) (hD : va_D A [(q0, .inl (z.2 8, 8, .inr (.inr (.inr (.inr (va_up (va_up (va_up (va_up (va_up (va_up (va_up (va_up g91 0 (some (r1 0))) 1 (some (r1 1))) 2 (some (r1 2))) 3 (some (r1 3))) 4 (some (r1 4))) 5 (some (r1 5))) 6 (some (r1 6))) 7 (some (r1 7)))))))), ((r1 0), .inl (z.2 0, 8, .inl (fun _ => 0))), ((r1 1), .inl (z.2 0, 8, .inl (fun _ => 0))), ((r1 2), .inl (z.2 0, 8, .inl (fun _ => 0))), ((r1 3), .inl (z.2 0, 8, .inl (fun _ => 0))), ((r1 4), .inl (z.2 0, 8, .inl (fun _ => 0))), ((r1 5), .inl (z.2 0, 8, .inl (fun _ => 0))), ((r1 6), .inl (z.2 0, 8, .inl (fun _ => 0))), ((r1 7), .inl (z.2 0, 8, .inl (fun _ => 0))), (a0, .inr (14, [.ref a1, .int 0, .ref a2, .ref a3, .int 0, .ref a4, .ref q0]))]) (hS : va_S A s.heap H locs) (hl : lv_has ls 5 [(3, .int 7), (4, .int 8), (2, .int 7), (1, .ref q0), (0, .ref a0)]) : W p l e (rmK 1 29 9 72) s m ([.ref a0] : List Value).toArray below meth c H locs 9 72 Q (F0 m 122 ls []) := by
  refine lv_iload_n hx hb d_17_9_122 rfl (lv_at hl 0 rfl) ?_
  refine lv_bipush (v := 8) hx hb d_17_9_123 (by decide +kernel) ?_
  refine lv_icmp_ge (tgt := 196) hx hb d_17_9_125 (by decide) (fun c9 => absurd c9 (by decide +kernel)) (fun _ => ?_)
  refine lv_iconst (v := 0) hx hb d_17_9_128 (by decide +kernel) ?_
  refine lv_istore (lv' := [(4, .int 0), (3, .int 7), (2, .int 7), (1, .ref q0), (0, .ref a0)]) hx hb d_17_9_129 hl (by decide) rfl (fun ls hl => ?_)
  refine lv_iload hx hb d_17_9_131 (lv_at hl 0 rfl) ?_
  refine lv_bipush (v := 8) hx hb d_17_9_133 (by decide +kernel) ?_
  refine lv_icmp_ge (tgt := 190) hx hb d_17_9_135 (by decide) (fun c9 => absurd c9 (by decide +kernel)) (fun _ => ?_)
  refine lv_iload_n hx hb d_17_9_138 rfl (lv_at hl 1 rfl) ?_
  refine lv_iload hx hb d_17_9_139 (lv_at hl 0 rfl) ?_
  refine lv_icmp_eq (tgt := 184) hx hb d_17_9_141 (by decide) (fun c9 => absurd c9 (by decide +kernel)) (fun _ => ?_)
  refine lv_iload_n hx hb d_17_9_144 rfl (lv_at hl 1 rfl) ?_
  refine lv_iload_n hx hb d_17_9_145 rfl (lv_at hl 2 rfl) ?_
  refine lv_icmp_eq (tgt := 184) hx hb d_17_9_146 (by decide) (fun _ => ?_) (fun c9 => absurd (by decide +kernel) c9)
  refine lv_iinc (v := 1) (lv' := [(4, .int 1), (3, .int 7), (2, .int 7), (1, .ref q0), (0, .ref a0)]) hx hb d_17_9_184 hl (k := 0) rfl (by decide +kernel) (by decide) rfl (fun ls hl => ?_)
  refine lv_goto (tgt := 131) hx hb d_17_9_187 (by decide) ?_
  refine lv_iload hx hb d_17_9_131 (lv_at hl 0 rfl) ?_
  refine lv_bipush (v := 8) hx hb d_17_9_133 (by decide +kernel) ?_
  refine lv_icmp_ge (tgt := 190) hx hb d_17_9_135 (by decide) (fun c9 => absurd c9 (by decide +kernel)) (fun _ => ?_)
  refine lv_iload_n hx hb d_17_9_138 rfl (lv_at hl 1 rfl) ?_
  refine lv_iload hx hb d_17_9_139 (lv_at hl 0 rfl) ?_
  refine lv_icmp_eq (tgt := 184) hx hb d_17_9_141 (by decide) (fun c9 => absurd c9 (by decide +kernel)) (fun _ => ?_)
  refine lv_iload_n hx hb d_17_9_144 rfl (lv_at hl 1 rfl) ?_
  refine lv_iload_n hx hb d_17_9_145 rfl (lv_at hl 2 rfl) ?_
  refine lv_icmp_eq (tgt := 184) hx hb d_17_9_146 (by decide) (fun _ => ?_) (fun c9 => absurd (by decide +kernel) c9)
  refine lv_iinc (v := 2) (lv' := [(4, .int 2), (3, .int 7), (2, .int 7), (1, .ref q0), (0, .ref a0)]) hx hb d_17_9_184 hl (k := 0) rfl (by decide +kernel) (by decide) rfl (fun ls hl => ?_)
  refine lv_goto (tgt := 131) hx hb d_17_9_187 (by decide) ?_
  refine lv_iload hx hb d_17_9_131 (lv_at hl 0 rfl) ?_
  refine lv_bipush (v := 8) hx hb d_17_9_133 (by decide +kernel) ?_
  refine lv_icmp_ge (tgt := 190) hx hb d_17_9_135 (by decide) (fun c9 => absurd c9 (by decide +kernel)) (fun _ => ?_)
  refine lv_iload_n hx hb d_17_9_138 rfl (lv_at hl 1 rfl) ?_
  refine lv_iload hx hb d_17_9_139 (lv_at hl 0 rfl) ?_
  refine lv_icmp_eq (tgt := 184) hx hb d_17_9_141 (by decide) (fun c9 => absurd c9 (by decide +kernel)) (fun _ => ?_)
  refine lv_iload_n hx hb d_17_9_144 rfl (lv_at hl 1 rfl) ?_
  refine lv_iload_n hx hb d_17_9_145 rfl (lv_at hl 2 rfl) ?_
  refine lv_icmp_eq (tgt := 184) hx hb d_17_9_146 (by decide) (fun _ => ?_) (fun c9 => absurd (by decide +kernel) c9)
  refine lv_iinc (v := 3) (lv' := [(4, .int 3), (3, .int 7), (2, .int 7), (1, .ref q0), (0, .ref a0)]) hx hb d_17_9_184 hl (k := 0) rfl (by decide +kernel) (by decide) rfl (fun ls hl => ?_)
  refine lv_goto (tgt := 131) hx hb d_17_9_187 (by decide) ?_
  refine lv_iload hx hb d_17_9_131 (lv_at hl 0 rfl) ?_
  refine lv_bipush (v := 8) hx hb d_17_9_133 (by decide +kernel) ?_
  refine lv_icmp_ge (tgt := 190) hx hb d_17_9_135 (by decide) (fun c9 => absurd c9 (by decide +kernel)) (fun _ => ?_)
  refine lv_iload_n hx hb d_17_9_138 rfl (lv_at hl 1 rfl) ?_
  refine lv_iload hx hb d_17_9_139 (lv_at hl 0 rfl) ?_
  refine lv_icmp_eq (tgt := 184) hx hb d_17_9_141 (by decide) (fun c9 => absurd c9 (by decide +kernel)) (fun _ => ?_)
  refine lv_iload_n hx hb d_17_9_144 rfl (lv_at hl 1 rfl) ?_
  refine lv_iload_n hx hb d_17_9_145 rfl (lv_at hl 2 rfl) ?_
  refine lv_icmp_eq (tgt := 184) hx hb d_17_9_146 (by decide) (fun _ => ?_) (fun c9 => absurd (by decide +kernel) c9)
  refine lv_iinc (v := 4) (lv' := [(4, .int 4), (3, .int 7), (2, .int 7), (1, .ref q0), (0, .ref a0)]) hx hb d_17_9_184 hl (k := 0) rfl (by decide +kernel) (by decide) rfl (fun ls hl => ?_)
  refine lv_goto (tgt := 131) hx hb d_17_9_187 (by decide) ?_
  refine lv_iload hx hb d_17_9_131 (lv_at hl 0 rfl) ?_
  refine lv_bipush (v := 8) hx hb d_17_9_133 (by decide +kernel) ?_
  refine lv_icmp_ge (tgt := 190) hx hb d_17_9_135 (by decide) (fun c9 => absurd c9 (by decide +kernel)) (fun _ => ?_)
  refine lv_iload_n hx hb d_17_9_138 rfl (lv_at hl 1 rfl) ?_
  refine lv_iload hx hb d_17_9_139 (lv_at hl 0 rfl) ?_
  refine lv_icmp_eq (tgt := 184) hx hb d_17_9_141 (by decide) (fun c9 => absurd c9 (by decide +kernel)) (fun _ => ?_)
  refine lv_iload_n hx hb d_17_9_144 rfl (lv_at hl 1 rfl) ?_
  refine lv_iload_n hx hb d_17_9_145 rfl (lv_at hl 2 rfl) ?_
  refine lv_icmp_eq (tgt := 184) hx hb d_17_9_146 (by decide) (fun _ => ?_) (fun c9 => absurd (by decide +kernel) c9)
  refine lv_iinc (v := 5) (lv' := [(4, .int 5), (3, .int 7), (2, .int 7), (1, .ref q0), (0, .ref a0)]) hx hb d_17_9_184 hl (k := 0) rfl (by decide +kernel) (by decide) rfl (fun ls hl => ?_)
  refine lv_goto (tgt := 131) hx hb d_17_9_187 (by decide) ?_
  refine lv_iload hx hb d_17_9_131 (lv_at hl 0 rfl) ?_
  refine lv_bipush (v := 8) hx hb d_17_9_133 (by decide +kernel) ?_
  refine lv_icmp_ge (tgt := 190) hx hb d_17_9_135 (by decide) (fun c9 => absurd c9 (by decide +kernel)) (fun _ => ?_)
  refine lv_iload_n hx hb d_17_9_138 rfl (lv_at hl 1 rfl) ?_
  refine lv_iload hx hb d_17_9_139 (lv_at hl 0 rfl) ?_
  refine lv_icmp_eq (tgt := 184) hx hb d_17_9_141 (by decide) (fun c9 => absurd c9 (by decide +kernel)) (fun _ => ?_)
  refine lv_iload_n hx hb d_17_9_144 rfl (lv_at hl 1 rfl) ?_
  refine lv_iload_n hx hb d_17_9_145 rfl (lv_at hl 2 rfl) ?_
  refine lv_icmp_eq (tgt := 184) hx hb d_17_9_146 (by decide) (fun _ => ?_) (fun c9 => absurd (by decide +kernel) c9)
  refine lv_iinc (v := 6) (lv' := [(4, .int 6), (3, .int 7), (2, .int 7), (1, .ref q0), (0, .ref a0)]) hx hb d_17_9_184 hl (k := 0) rfl (by decide +kernel) (by decide) rfl (fun ls hl => ?_)
  refine lv_goto (tgt := 131) hx hb d_17_9_187 (by decide) ?_
  refine lv_iload hx hb d_17_9_131 (lv_at hl 0 rfl) ?_
  refine lv_bipush (v := 8) hx hb d_17_9_133 (by decide +kernel) ?_
  refine lv_icmp_ge (tgt := 190) hx hb d_17_9_135 (by decide) (fun c9 => absurd c9 (by decide +kernel)) (fun _ => ?_)
  refine lv_iload_n hx hb d_17_9_138 rfl (lv_at hl 1 rfl) ?_
  refine lv_iload hx hb d_17_9_139 (lv_at hl 0 rfl) ?_
  refine lv_icmp_eq (tgt := 184) hx hb d_17_9_141 (by decide) (fun c9 => absurd c9 (by decide +kernel)) (fun _ => ?_)
  refine lv_iload_n hx hb d_17_9_144 rfl (lv_at hl 1 rfl) ?_
  refine lv_iload_n hx hb d_17_9_145 rfl (lv_at hl 2 rfl) ?_
  refine lv_icmp_eq (tgt := 184) hx hb d_17_9_146 (by decide) (fun _ => ?_) (fun c9 => absurd (by decide +kernel) c9)
  refine lv_iinc (v := 7) (lv' := [(4, .int 7), (3, .int 7), (2, .int 7), (1, .ref q0), (0, .ref a0)]) hx hb d_17_9_184 hl (k := 0) rfl (by decide +kernel) (by decide) rfl (fun ls hl => ?_)
  refine lv_goto (tgt := 131) hx hb d_17_9_187 (by decide) ?_
  refine lv_iload hx hb d_17_9_131 (lv_at hl 0 rfl) ?_
  refine lv_bipush (v := 8) hx hb d_17_9_133 (by decide +kernel) ?_
  refine lv_icmp_ge (tgt := 190) hx hb d_17_9_135 (by decide) (fun c9 => absurd c9 (by decide +kernel)) (fun _ => ?_)
  refine lv_iload_n hx hb d_17_9_138 rfl (lv_at hl 1 rfl) ?_
  refine lv_iload hx hb d_17_9_139 (lv_at hl 0 rfl) ?_
  refine lv_icmp_eq (tgt := 184) hx hb d_17_9_141 (by decide) (fun _ => ?_) (fun c9 => absurd (by decide +kernel) c9)
  refine lv_iinc (v := 8) (lv' := [(4, .int 8), (3, .int 7), (2, .int 7), (1, .ref q0), (0, .ref a0)]) hx hb d_17_9_184 hl (k := 0) rfl (by decide +kernel) (by decide) rfl (fun ls hl => ?_)
  refine lv_goto (tgt := 131) hx hb d_17_9_187 (by decide) ?_
  refine lv_iload hx hb d_17_9_131 (lv_at hl 0 rfl) ?_
  refine lv_bipush (v := 8) hx hb d_17_9_133 (by decide +kernel) ?_
  refine lv_icmp_ge (tgt := 190) hx hb d_17_9_135 (by decide) (fun _ => ?_) (fun c9 => absurd (by decide +kernel) c9)
  refine lv_iinc (v := 8) (lv' := [(3, .int 8), (4, .int 8), (2, .int 7), (1, .ref q0), (0, .ref a0)]) hx hb d_17_9_190 hl (k := 1) rfl (by decide +kernel) (by decide) rfl (fun ls hl => ?_)
  refine lv_goto (tgt := 122) hx hb d_17_9_193 (by decide) ?_
  refine W.widen (k := 9) (n := 72) (Nat.le_of_ble_eq_true rfl) (Nat.le_of_ble_eq_true rfl) ?_
  exact hk H locs ls hP hD hS hl
set_option maxRecDepth 100000 in
set_option maxHeartbeats 4000000 in
theorem c390_Poll_paths (l : Launch) (z : Zz) (a0 a1 a2 a3 a4 : Nat) : CT l z ⟨"BallothallModel$Poll", "paths", "()[[I"⟩ prog_17_method_9_code 5 (some (.array (.array .int))) [.ref a0] [(a0, .inr (14, [.ref a1, .int 0, .ref a2, .ref a3, .int 0, .ref a4, .null]))] 1 29 9 72 (fun u => some (.ref (u.1 0))) (fun u => [(a0, .inr (14, [.ref a1, .int 0, .ref a2, .ref a3, .int 0, .ref a4, .ref (u.1 0)]))]) := by
  refine CT.of (own := "BallothallModel$Poll") (by decide +kernel) (Nat.le_of_ble_eq_true rfl) rfl (fun p e s m below meth c A ls hx hb hml hr hts hown hlocks hin hA hG hZ hP hD hS hl => ?_)
  have hl : lv_has ls 5 [(0, .ref a0)] := hl
  refine lv_aload_n hx hb d_17_9_0 rfl (lv_at hl 0 rfl) ?_
  refine va_get (D := z.1) (ci := 14) (v := .null) (C := "BallothallModel$Poll") (T := TX14) (N := 7) hx hb hts iX14 hown hG.1 hP 0 rfl rfl 6 (by decide) (hts _ w_2262) (fun _ h9 => h9) rfl d_17_9_1 ?_
  refine lv_ifnonnullN hx hb d_17_9_4 ?_
  refine lv_aload_n hx hb d_17_9_7 rfl (lv_at hl 0 rfl) ?_
  refine lv_bipush (v := 8) hx hb d_17_9_8 (by decide +kernel) ?_
  refine lv_bipush (v := 8) hx hb d_17_9_10 (by decide +kernel) ?_
  refine k_mna (N := 8) (K := 8) hx hb hown (hts _ w_2298) hG.2.2.2.1 (hts _ w_105) hG.1 hP hD hS hA (by decide +kernel) (by decide +kernel) (by decide +kernel) (by decide +kernel) (Nat.le_of_ble_eq_true rfl) (Nat.le_of_ble_eq_true rfl) (Nat.le_of_ble_eq_true rfl) (Nat.le_of_ble_eq_true rfl) (Nat.le_of_ble_eq_true rfl) d_17_9_12 (fun q0 r1 g91 H hg9 hP hD hS => ?_)
  have e9 : (va_up (va_up (va_up (va_up (va_up (va_up (va_up (va_up g91 0 (some (r1 0))) 1 (some (r1 1))) 2 (some (r1 2))) 3 (some (r1 3))) 4 (some (r1 4))) 5 (some (r1 5))) 6 (some (r1 6))) 7 (some (r1 7))) = g91 := by rw [va_up_id (hg9 0 (by decide)), va_up_id (hg9 1 (by decide)), va_up_id (hg9 2 (by decide)), va_up_id (hg9 3 (by decide)), va_up_id (hg9 4 (by decide)), va_up_id (hg9 5 (by decide)), va_up_id (hg9 6 (by decide)), va_up_id (hg9 7 (by decide))]
  rw [← e9] at hP hD
  clear e9
  clear hg9
  have hP := hP.sub (ws' := [(a0, .inr (14, [.ref a1, .int 0, .ref a2, .ref a3, .int 0, .ref a4, .null])), (q0, .inl (z.2 8, 8, .inr (.inr (.inr (.inr (va_up (va_up (va_up (va_up (va_up (va_up (va_up (va_up g91 0 (some (r1 0))) 1 (some (r1 1))) 2 (some (r1 2))) 3 (some (r1 3))) 4 (some (r1 4))) 5 (some (r1 5))) 6 (some (r1 6))) 7 (some (r1 7)))))))), ((r1 0), .inl (z.2 0, 8, .inl (fun _ => 0))), ((r1 1), .inl (z.2 0, 8, .inl (fun _ => 0))), ((r1 2), .inl (z.2 0, 8, .inl (fun _ => 0))), ((r1 3), .inl (z.2 0, 8, .inl (fun _ => 0))), ((r1 4), .inl (z.2 0, 8, .inl (fun _ => 0))), ((r1 5), .inl (z.2 0, 8, .inl (fun _ => 0))), ((r1 6), .inl (z.2 0, 8, .inl (fun _ => 0))), ((r1 7), .inl (z.2 0, 8, .inl (fun _ => 0)))]) [0, 1, 2, 3, 4, 5, 6, 7, 8, 9] rfl
  have hD := hD.sub (ws' := [(a0, .inr (14, [.ref a1, .int 0, .ref a2, .ref a3, .int 0, .ref a4, .null])), (q0, .inl (z.2 8, 8, .inr (.inr (.inr (.inr (va_up (va_up (va_up (va_up (va_up (va_up (va_up (va_up g91 0 (some (r1 0))) 1 (some (r1 1))) 2 (some (r1 2))) 3 (some (r1 3))) 4 (some (r1 4))) 5 (some (r1 5))) 6 (some (r1 6))) 7 (some (r1 7)))))))), ((r1 0), .inl (z.2 0, 8, .inl (fun _ => 0))), ((r1 1), .inl (z.2 0, 8, .inl (fun _ => 0))), ((r1 2), .inl (z.2 0, 8, .inl (fun _ => 0))), ((r1 3), .inl (z.2 0, 8, .inl (fun _ => 0))), ((r1 4), .inl (z.2 0, 8, .inl (fun _ => 0))), ((r1 5), .inl (z.2 0, 8, .inl (fun _ => 0))), ((r1 6), .inl (z.2 0, 8, .inl (fun _ => 0))), ((r1 7), .inl (z.2 0, 8, .inl (fun _ => 0)))]) [0, 1, 2, 3, 4, 5, 6, 7, 8, 9] rfl rfl
  refine W.eq (g2 := F0 m 16 ls [.ref q0, .ref a0]) rfl ?_
  refine va_put (D := z.1) (ci := 14) (v := .ref q0) (ty := .array (.array .int)) (C := "BallothallModel$Poll") (T := TX14) (N := 7) hx hb hts iX14 tyX14 tyX14_ok nmX14 hown hG.1 hP hD hS 0 rfl rfl 6 (by decide) (hts _ w_2262) (fun _ h9 => h9) rfl (by decide +kernel) rfl rfl (Nat.le_of_ble_eq_true rfl) d_17_9_16 (fun H locs hP hD hS => ?_)
  have hP : va_P z.1 classes [(a0, .inr (14, [.ref a1, .int 0, .ref a2, .ref a3, .int 0, .ref a4, .ref q0])), (q0, .inl (z.2 8, 8, .inr (.inr (.inr (.inr (va_up (va_up (va_up (va_up (va_up (va_up (va_up (va_up g91 0 (some (r1 0))) 1 (some (r1 1))) 2 (some (r1 2))) 3 (some (r1 3))) 4 (some (r1 4))) 5 (some (r1 5))) 6 (some (r1 6))) 7 (some (r1 7)))))))), ((r1 0), .inl (z.2 0, 8, .inl (fun _ => 0))), ((r1 1), .inl (z.2 0, 8, .inl (fun _ => 0))), ((r1 2), .inl (z.2 0, 8, .inl (fun _ => 0))), ((r1 3), .inl (z.2 0, 8, .inl (fun _ => 0))), ((r1 4), .inl (z.2 0, 8, .inl (fun _ => 0))), ((r1 5), .inl (z.2 0, 8, .inl (fun _ => 0))), ((r1 6), .inl (z.2 0, 8, .inl (fun _ => 0))), ((r1 7), .inl (z.2 0, 8, .inl (fun _ => 0)))] H := hP
  have hD : va_D A [(a0, .inr (14, [.ref a1, .int 0, .ref a2, .ref a3, .int 0, .ref a4, .ref q0])), (q0, .inl (z.2 8, 8, .inr (.inr (.inr (.inr (va_up (va_up (va_up (va_up (va_up (va_up (va_up (va_up g91 0 (some (r1 0))) 1 (some (r1 1))) 2 (some (r1 2))) 3 (some (r1 3))) 4 (some (r1 4))) 5 (some (r1 5))) 6 (some (r1 6))) 7 (some (r1 7)))))))), ((r1 0), .inl (z.2 0, 8, .inl (fun _ => 0))), ((r1 1), .inl (z.2 0, 8, .inl (fun _ => 0))), ((r1 2), .inl (z.2 0, 8, .inl (fun _ => 0))), ((r1 3), .inl (z.2 0, 8, .inl (fun _ => 0))), ((r1 4), .inl (z.2 0, 8, .inl (fun _ => 0))), ((r1 5), .inl (z.2 0, 8, .inl (fun _ => 0))), ((r1 6), .inl (z.2 0, 8, .inl (fun _ => 0))), ((r1 7), .inl (z.2 0, 8, .inl (fun _ => 0)))] := hD
  refine lv_aload_n hx hb d_17_9_19 rfl (lv_at hl 0 rfl) ?_
  refine va_get (D := z.1) (ci := 14) (v := .ref q0) (C := "BallothallModel$Poll") (T := TX14) (N := 7) hx hb hts iX14 hown hG.1 hP 0 rfl rfl 6 (by decide) (hts _ w_2262) (fun _ h9 => h9) rfl d_17_9_20 ?_
  refine lv_astore_n (lv' := [(1, .ref q0), (0, .ref a0)]) hx hb d_17_9_23 rfl hl (by decide) rfl (fun ls hl => ?_)
  refine lv_iconst (v := 0) hx hb d_17_9_24 (by decide +kernel) ?_
  refine lv_istore_n (lv' := [(2, .int 0), (1, .ref q0), (0, .ref a0)]) hx hb d_17_9_25 rfl hl (by decide) rfl (fun ls hl => ?_)
  refine W.widen (k := 9) (n := 72) (Nat.le_of_ble_eq_true rfl) (Nat.le_of_ble_eq_true rfl) ?_
  refine s310_paths l z a0 a1 a2 a3 a4 g91 q0 r1 hx hb hml hts hown hA hG hZ (fun H locs ls hP hD hS hl => ?_) _ _ _ hP hD hS hl
  refine s311_paths l z a0 a1 a2 a3 a4 g91 q0 r1 hx hb hml hts hown hA hG hZ (fun H locs ls hP hD hS hl => ?_) _ _ _ hP hD hS hl
  refine s312_paths l z a0 a1 a2 a3 a4 g91 q0 r1 hx hb hml hts hown hA hG hZ (fun H locs ls hP hD hS hl => ?_) _ _ _ hP hD hS hl
  refine s313_paths l z a0 a1 a2 a3 a4 g91 q0 r1 hx hb hml hts hown hA hG hZ (fun H locs ls hP hD hS hl => ?_) _ _ _ hP hD hS hl
  refine s314_paths l z a0 a1 a2 a3 a4 g91 q0 r1 hx hb hml hts hown hA hG hZ (fun H locs ls hP hD hS hl => ?_) _ _ _ hP hD hS hl
  refine s315_paths l z a0 a1 a2 a3 a4 g91 q0 r1 hx hb hml hts hown hA hG hZ (fun H locs ls hP hD hS hl => ?_) _ _ _ hP hD hS hl
  refine s316_paths l z a0 a1 a2 a3 a4 g91 q0 r1 hx hb hml hts hown hA hG hZ (fun H locs ls hP hD hS hl => ?_) _ _ _ hP hD hS hl
  refine s317_paths l z a0 a1 a2 a3 a4 g91 q0 r1 hx hb hml hts hown hA hG hZ (fun H locs ls hP hD hS hl => ?_) _ _ _ hP hD hS hl
  refine s318_paths l z a0 a1 a2 a3 a4 g91 q0 r1 hx hb hml hts hown hA hG hZ (fun H locs ls hP hD hS hl => ?_) _ _ _ hP hD hS hl
  refine s319_paths l z a0 a1 a2 a3 a4 g91 q0 r1 hx hb hml hts hown hA hG hZ (fun H locs ls hP hD hS hl => ?_) _ _ _ hP hD hS hl
  refine s320_paths l z a0 a1 a2 a3 a4 g91 q0 r1 hx hb hml hts hown hA hG hZ (fun H locs ls hP hD hS hl => ?_) _ _ _ hP hD hS hl
  refine s321_paths l z a0 a1 a2 a3 a4 g91 q0 r1 hx hb hml hts hown hA hG hZ (fun H locs ls hP hD hS hl => ?_) _ _ _ hP hD hS hl
  refine s322_paths l z a0 a1 a2 a3 a4 g91 q0 r1 hx hb hml hts hown hA hG hZ (fun H locs ls hP hD hS hl => ?_) _ _ _ hP hD hS hl
  refine s323_paths l z a0 a1 a2 a3 a4 g91 q0 r1 hx hb hml hts hown hA hG hZ (fun H locs ls hP hD hS hl => ?_) _ _ _ hP hD hS hl
  refine s324_paths l z a0 a1 a2 a3 a4 g91 q0 r1 hx hb hml hts hown hA hG hZ (fun H locs ls hP hD hS hl => ?_) _ _ _ hP hD hS hl
  refine s325_paths l z a0 a1 a2 a3 a4 g91 q0 r1 hx hb hml hts hown hA hG hZ (fun H locs ls hP hD hS hl => ?_) _ _ _ hP hD hS hl
  refine s326_paths l z a0 a1 a2 a3 a4 g91 q0 r1 hx hb hml hts hown hA hG hZ (fun H locs ls hP hD hS hl => ?_) _ _ _ hP hD hS hl
  refine s327_paths l z a0 a1 a2 a3 a4 g91 q0 r1 hx hb hml hts hown hA hG hZ (fun H locs ls hP hD hS hl => ?_) _ _ _ hP hD hS hl
  refine s328_paths l z a0 a1 a2 a3 a4 g91 q0 r1 hx hb hml hts hown hA hG hZ (fun H locs ls hP hD hS hl => ?_) _ _ _ hP hD hS hl
  refine s329_paths l z a0 a1 a2 a3 a4 g91 q0 r1 hx hb hml hts hown hA hG hZ (fun H locs ls hP hD hS hl => ?_) _ _ _ hP hD hS hl
  refine s330_paths l z a0 a1 a2 a3 a4 g91 q0 r1 hx hb hml hts hown hA hG hZ (fun H locs ls hP hD hS hl => ?_) _ _ _ hP hD hS hl
  refine s331_paths l z a0 a1 a2 a3 a4 g91 q0 r1 hx hb hml hts hown hA hG hZ (fun H locs ls hP hD hS hl => ?_) _ _ _ hP hD hS hl
  refine s332_paths l z a0 a1 a2 a3 a4 g91 q0 r1 hx hb hml hts hown hA hG hZ (fun H locs ls hP hD hS hl => ?_) _ _ _ hP hD hS hl
  refine s333_paths l z a0 a1 a2 a3 a4 g91 q0 r1 hx hb hml hts hown hA hG hZ (fun H locs ls hP hD hS hl => ?_) _ _ _ hP hD hS hl
  refine s334_paths l z a0 a1 a2 a3 a4 g91 q0 r1 hx hb hml hts hown hA hG hZ (fun H locs ls hP hD hS hl => ?_) _ _ _ hP hD hS hl
  refine s335_paths l z a0 a1 a2 a3 a4 g91 q0 r1 hx hb hml hts hown hA hG hZ (fun H locs ls hP hD hS hl => ?_) _ _ _ hP hD hS hl
  refine s336_paths l z a0 a1 a2 a3 a4 g91 q0 r1 hx hb hml hts hown hA hG hZ (fun H locs ls hP hD hS hl => ?_) _ _ _ hP hD hS hl
  refine s337_paths l z a0 a1 a2 a3 a4 g91 q0 r1 hx hb hml hts hown hA hG hZ (fun H locs ls hP hD hS hl => ?_) _ _ _ hP hD hS hl
  refine s338_paths l z a0 a1 a2 a3 a4 g91 q0 r1 hx hb hml hts hown hA hG hZ (fun H locs ls hP hD hS hl => ?_) _ _ _ hP hD hS hl
  refine s339_paths l z a0 a1 a2 a3 a4 g91 q0 r1 hx hb hml hts hown hA hG hZ (fun H locs ls hP hD hS hl => ?_) _ _ _ hP hD hS hl
  refine s340_paths l z a0 a1 a2 a3 a4 g91 q0 r1 hx hb hml hts hown hA hG hZ (fun H locs ls hP hD hS hl => ?_) _ _ _ hP hD hS hl
  refine s341_paths l z a0 a1 a2 a3 a4 g91 q0 r1 hx hb hml hts hown hA hG hZ (fun H locs ls hP hD hS hl => ?_) _ _ _ hP hD hS hl
  refine s342_paths l z a0 a1 a2 a3 a4 g91 q0 r1 hx hb hml hts hown hA hG hZ (fun H locs ls hP hD hS hl => ?_) _ _ _ hP hD hS hl
  refine s343_paths l z a0 a1 a2 a3 a4 g91 q0 r1 hx hb hml hts hown hA hG hZ (fun H locs ls hP hD hS hl => ?_) _ _ _ hP hD hS hl
  refine s344_paths l z a0 a1 a2 a3 a4 g91 q0 r1 hx hb hml hts hown hA hG hZ (fun H locs ls hP hD hS hl => ?_) _ _ _ hP hD hS hl
  refine s345_paths l z a0 a1 a2 a3 a4 g91 q0 r1 hx hb hml hts hown hA hG hZ (fun H locs ls hP hD hS hl => ?_) _ _ _ hP hD hS hl
  refine s346_paths l z a0 a1 a2 a3 a4 g91 q0 r1 hx hb hml hts hown hA hG hZ (fun H locs ls hP hD hS hl => ?_) _ _ _ hP hD hS hl
  refine s347_paths l z a0 a1 a2 a3 a4 g91 q0 r1 hx hb hml hts hown hA hG hZ (fun H locs ls hP hD hS hl => ?_) _ _ _ hP hD hS hl
  refine s348_paths l z a0 a1 a2 a3 a4 g91 q0 r1 hx hb hml hts hown hA hG hZ (fun H locs ls hP hD hS hl => ?_) _ _ _ hP hD hS hl
  refine s349_paths l z a0 a1 a2 a3 a4 g91 q0 r1 hx hb hml hts hown hA hG hZ (fun H locs ls hP hD hS hl => ?_) _ _ _ hP hD hS hl
  refine s350_paths l z a0 a1 a2 a3 a4 g91 q0 r1 hx hb hml hts hown hA hG hZ (fun H locs ls hP hD hS hl => ?_) _ _ _ hP hD hS hl
  refine s351_paths l z a0 a1 a2 a3 a4 g91 q0 r1 hx hb hml hts hown hA hG hZ (fun H locs ls hP hD hS hl => ?_) _ _ _ hP hD hS hl
  refine s352_paths l z a0 a1 a2 a3 a4 g91 q0 r1 hx hb hml hts hown hA hG hZ (fun H locs ls hP hD hS hl => ?_) _ _ _ hP hD hS hl
  refine s353_paths l z a0 a1 a2 a3 a4 g91 q0 r1 hx hb hml hts hown hA hG hZ (fun H locs ls hP hD hS hl => ?_) _ _ _ hP hD hS hl
  refine s354_paths l z a0 a1 a2 a3 a4 g91 q0 r1 hx hb hml hts hown hA hG hZ (fun H locs ls hP hD hS hl => ?_) _ _ _ hP hD hS hl
  refine s355_paths l z a0 a1 a2 a3 a4 g91 q0 r1 hx hb hml hts hown hA hG hZ (fun H locs ls hP hD hS hl => ?_) _ _ _ hP hD hS hl
  refine s356_paths l z a0 a1 a2 a3 a4 g91 q0 r1 hx hb hml hts hown hA hG hZ (fun H locs ls hP hD hS hl => ?_) _ _ _ hP hD hS hl
  refine s357_paths l z a0 a1 a2 a3 a4 g91 q0 r1 hx hb hml hts hown hA hG hZ (fun H locs ls hP hD hS hl => ?_) _ _ _ hP hD hS hl
  refine s358_paths l z a0 a1 a2 a3 a4 g91 q0 r1 hx hb hml hts hown hA hG hZ (fun H locs ls hP hD hS hl => ?_) _ _ _ hP hD hS hl
  refine s359_paths l z a0 a1 a2 a3 a4 g91 q0 r1 hx hb hml hts hown hA hG hZ (fun H locs ls hP hD hS hl => ?_) _ _ _ hP hD hS hl
  refine s360_paths l z a0 a1 a2 a3 a4 g91 q0 r1 hx hb hml hts hown hA hG hZ (fun H locs ls hP hD hS hl => ?_) _ _ _ hP hD hS hl
  refine s361_paths l z a0 a1 a2 a3 a4 g91 q0 r1 hx hb hml hts hown hA hG hZ (fun H locs ls hP hD hS hl => ?_) _ _ _ hP hD hS hl
  refine s362_paths l z a0 a1 a2 a3 a4 g91 q0 r1 hx hb hml hts hown hA hG hZ (fun H locs ls hP hD hS hl => ?_) _ _ _ hP hD hS hl
  refine s363_paths l z a0 a1 a2 a3 a4 g91 q0 r1 hx hb hml hts hown hA hG hZ (fun H locs ls hP hD hS hl => ?_) _ _ _ hP hD hS hl
  refine s364_paths l z a0 a1 a2 a3 a4 g91 q0 r1 hx hb hml hts hown hA hG hZ (fun H locs ls hP hD hS hl => ?_) _ _ _ hP hD hS hl
  refine s365_paths l z a0 a1 a2 a3 a4 g91 q0 r1 hx hb hml hts hown hA hG hZ (fun H locs ls hP hD hS hl => ?_) _ _ _ hP hD hS hl
  refine s366_paths l z a0 a1 a2 a3 a4 g91 q0 r1 hx hb hml hts hown hA hG hZ (fun H locs ls hP hD hS hl => ?_) _ _ _ hP hD hS hl
  refine s367_paths l z a0 a1 a2 a3 a4 g91 q0 r1 hx hb hml hts hown hA hG hZ (fun H locs ls hP hD hS hl => ?_) _ _ _ hP hD hS hl
  refine s368_paths l z a0 a1 a2 a3 a4 g91 q0 r1 hx hb hml hts hown hA hG hZ (fun H locs ls hP hD hS hl => ?_) _ _ _ hP hD hS hl
  refine s369_paths l z a0 a1 a2 a3 a4 g91 q0 r1 hx hb hml hts hown hA hG hZ (fun H locs ls hP hD hS hl => ?_) _ _ _ hP hD hS hl
  refine s370_paths l z a0 a1 a2 a3 a4 g91 q0 r1 hx hb hml hts hown hA hG hZ (fun H locs ls hP hD hS hl => ?_) _ _ _ hP hD hS hl
  refine s371_paths l z a0 a1 a2 a3 a4 g91 q0 r1 hx hb hml hts hown hA hG hZ (fun H locs ls hP hD hS hl => ?_) _ _ _ hP hD hS hl
  refine s372_paths l z a0 a1 a2 a3 a4 g91 q0 r1 hx hb hml hts hown hA hG hZ (fun H locs ls hP hD hS hl => ?_) _ _ _ hP hD hS hl
  refine s373_paths l z a0 a1 a2 a3 a4 g91 q0 r1 hx hb hml hts hown hA hG hZ (fun H locs ls hP hD hS hl => ?_) _ _ _ hP hD hS hl
  refine s374_paths l z a0 a1 a2 a3 a4 g91 q0 r1 hx hb hml hts hown hA hG hZ (fun H locs ls hP hD hS hl => ?_) _ _ _ hP hD hS hl
  refine s375_paths l z a0 a1 a2 a3 a4 g91 q0 r1 hx hb hml hts hown hA hG hZ (fun H locs ls hP hD hS hl => ?_) _ _ _ hP hD hS hl
  refine s376_paths l z a0 a1 a2 a3 a4 g91 q0 r1 hx hb hml hts hown hA hG hZ (fun H locs ls hP hD hS hl => ?_) _ _ _ hP hD hS hl
  refine s377_paths l z a0 a1 a2 a3 a4 g91 q0 r1 hx hb hml hts hown hA hG hZ (fun H locs ls hP hD hS hl => ?_) _ _ _ hP hD hS hl
  refine s378_paths l z a0 a1 a2 a3 a4 g91 q0 r1 hx hb hml hts hown hA hG hZ (fun H locs ls hP hD hS hl => ?_) _ _ _ hP hD hS hl
  refine s379_paths l z a0 a1 a2 a3 a4 g91 q0 r1 hx hb hml hts hown hA hG hZ (fun H locs ls hP hD hS hl => ?_) _ _ _ hP hD hS hl
  refine s380_paths l z a0 a1 a2 a3 a4 g91 q0 r1 hx hb hml hts hown hA hG hZ (fun H locs ls hP hD hS hl => ?_) _ _ _ hP hD hS hl
  refine s381_paths l z a0 a1 a2 a3 a4 g91 q0 r1 hx hb hml hts hown hA hG hZ (fun H locs ls hP hD hS hl => ?_) _ _ _ hP hD hS hl
  refine s382_paths l z a0 a1 a2 a3 a4 g91 q0 r1 hx hb hml hts hown hA hG hZ (fun H locs ls hP hD hS hl => ?_) _ _ _ hP hD hS hl
  refine s383_paths l z a0 a1 a2 a3 a4 g91 q0 r1 hx hb hml hts hown hA hG hZ (fun H locs ls hP hD hS hl => ?_) _ _ _ hP hD hS hl
  refine s384_paths l z a0 a1 a2 a3 a4 g91 q0 r1 hx hb hml hts hown hA hG hZ (fun H locs ls hP hD hS hl => ?_) _ _ _ hP hD hS hl
  refine s385_paths l z a0 a1 a2 a3 a4 g91 q0 r1 hx hb hml hts hown hA hG hZ (fun H locs ls hP hD hS hl => ?_) _ _ _ hP hD hS hl
  refine s386_paths l z a0 a1 a2 a3 a4 g91 q0 r1 hx hb hml hts hown hA hG hZ (fun H locs ls hP hD hS hl => ?_) _ _ _ hP hD hS hl
  refine s387_paths l z a0 a1 a2 a3 a4 g91 q0 r1 hx hb hml hts hown hA hG hZ (fun H locs ls hP hD hS hl => ?_) _ _ _ hP hD hS hl
  refine s388_paths l z a0 a1 a2 a3 a4 g91 q0 r1 hx hb hml hts hown hA hG hZ (fun H locs ls hP hD hS hl => ?_) _ _ _ hP hD hS hl
  refine s389_paths l z a0 a1 a2 a3 a4 g91 q0 r1 hx hb hml hts hown hA hG hZ (fun H locs ls hP hD hS hl => ?_) _ _ _ hP hD hS hl
  refine lv_iload_n hx hb d_17_9_122 rfl (lv_at hl 0 rfl) ?_
  refine lv_bipush (v := 8) hx hb d_17_9_123 (by decide +kernel) ?_
  refine lv_icmp_ge (tgt := 196) hx hb d_17_9_125 (by decide) (fun _ => ?_) (fun c9 => absurd (by decide +kernel) c9)
  refine lv_iinc (v := 8) (lv' := [(2, .int 8), (3, .int 8), (4, .int 8), (1, .ref q0), (0, .ref a0)]) hx hb d_17_9_196 hl (k := 2) rfl (by decide +kernel) (by decide) rfl (fun ls hl => ?_)
  refine lv_goto (tgt := 114) hx hb d_17_9_199 (by decide) ?_
  refine lv_iload_n hx hb d_17_9_114 rfl (lv_at hl 0 rfl) ?_
  refine lv_bipush (v := 8) hx hb d_17_9_115 (by decide +kernel) ?_
  refine lv_icmp_ge (tgt := 202) hx hb d_17_9_117 (by decide) (fun _ => ?_) (fun c9 => absurd (by decide +kernel) c9)
  refine lv_aload_n hx hb d_17_9_202 rfl (lv_at hl 3 rfl) ?_
  refine W.widen (k := 9) (n := 72) (Nat.le_of_ble_eq_true rfl) (Nat.le_of_ble_eq_true rfl) ?_
  exact W.aret hx hb hr (Or.inr ⟨_, rfl⟩) (Or.inr ⟨_, rfl⟩) (fun t ht hW => qk hP hD hS [9] rfl ((fun k => ([q0] : List Nat).getD k 0), (fun _ _ => none)) rfl rfl rfl ht) hS.2.2 d_17_9_203
set_option maxRecDepth 100000 in
set_option maxHeartbeats 4000000 in
theorem c391_Poll_pathWinners (l : Launch) (z : Zz) (a0 a1 a2 a3 a4 : Nat) : CT l z ⟨"BallothallModel$Poll", "pathWinners", "()I"⟩ prog_17_method_10_code 5 (some .int) [.ref a0] [(a0, .inr (14, [.ref a1, .int 0, .ref a2, .ref a3, .int 0, .ref a4, .null]))] 2 61 9 72 (fun u => some (.int 0)) (fun u => [(a0, .inr (14, [.ref a1, .int 0, .ref a2, .ref a3, .int 0, .ref a4, .ref (u.1 0)]))]) := by
  refine CT.of (own := "BallothallModel$Poll") (by decide +kernel) (Nat.le_of_ble_eq_true rfl) rfl (fun p e s m below meth c A ls hx hb hml hr hts hown hlocks hin hA hG hZ hP hD hS hl => ?_)
  have hl : lv_has ls 5 [(0, .ref a0)] := hl
  refine lv_aload_n hx hb d_17_10_0 rfl (lv_at hl 0 rfl) ?_
  refine kV (As := []) (rest := []) (wr := []) (c390_Poll_paths l z a0 a1 a2 a3 a4) hx hb hml hown hts w_2297 w_2314 w_2295 w_2296 w_36 md_28736b ⟨Nat.le_of_ble_eq_true rfl, Nat.le_of_ble_eq_true rfl⟩ hG hZ hP hD hS hA 0 rfl rfl rfl [0] [] rfl rfl rfl rfl rfl hl.1 rfl (Nat.le_of_ble_eq_true rfl) d_17_10_1 ⟨Nat.le_of_ble_eq_true rfl, Nat.le_of_ble_eq_true rfl⟩ (fun u0 H locs hP hD hS => ?_)
  have hP : va_P z.1 classes [(a0, .inr (14, [.ref a1, .int 0, .ref a2, .ref a3, .int 0, .ref a4, .ref (u0.1 0)]))] H := hP
  have hD : va_D A [(a0, .inr (14, [.ref a1, .int 0, .ref a2, .ref a3, .int 0, .ref a4, .ref (u0.1 0)]))] := hD
  refine W.eq (g2 := F0 m 4 ls [.ref (u0.1 0)]) rfl ?_
  refine lv_astore_n (lv' := [(1, .ref (u0.1 0)), (0, .ref a0)]) hx hb d_17_10_4 rfl hl (by decide) rfl (fun ls hl => ?_)
  refine lv_aload_n hx hb d_17_10_5 rfl (lv_at hl 1 rfl) ?_
  refine va_get (D := z.1) (ci := 14) (v := .int 0) (C := "BallothallModel$Poll") (T := TX14) (N := 7) hx hb hts iX14 hown hG.1 hP 0 rfl rfl 1 (by decide) (hts _ w_2255) (fun _ h9 => h9) rfl d_17_10_6 ?_
  refine lv_istore_n (lv' := [(2, .int 0), (1, .ref (u0.1 0)), (0, .ref a0)]) hx hb d_17_10_9 rfl hl (by decide) rfl (fun ls hl => ?_)
  refine lv_iconst (v := 0) hx hb d_17_10_10 (by decide +kernel) ?_
  refine lv_istore_n (lv' := [(3, .int 0), (2, .int 0), (1, .ref (u0.1 0)), (0, .ref a0)]) hx hb d_17_10_11 rfl hl (by decide) rfl (fun ls hl => ?_)
  refine lv_iload_n hx hb d_17_10_12 rfl (lv_at hl 0 rfl) ?_
  refine lv_bipush (v := 8) hx hb d_17_10_13 (by decide +kernel) ?_
  refine lv_icmp_ge (tgt := 84) hx hb d_17_10_15 (by decide) (fun c9 => absurd c9 (by decide +kernel)) (fun _ => ?_)
  refine lv_iconst (v := 0) hx hb d_17_10_18 (by decide +kernel) ?_
  refine lv_istore (lv' := [(4, .int 0), (3, .int 0), (2, .int 0), (1, .ref (u0.1 0)), (0, .ref a0)]) hx hb d_17_10_19 hl (by decide) rfl (fun ls hl => ?_)
  refine lv_iload hx hb d_17_10_21 (lv_at hl 0 rfl) ?_
  refine lv_bipush (v := 8) hx hb d_17_10_23 (by decide +kernel) ?_
  refine lv_icmp_ge (tgt := 78) hx hb d_17_10_25 (by decide) (fun c9 => absurd c9 (by decide +kernel)) (fun _ => ?_)
  refine lv_iload_n hx hb d_17_10_28 rfl (lv_at hl 2 rfl) ?_
  refine lv_aload_n hx hb d_17_10_29 rfl (lv_at hl 4 rfl) ?_
  refine lv_iload_n hx hb d_17_10_30 rfl (lv_at hl 1 rfl) ?_
  refine kV (As := [.int 0]) (rest := [.int 0]) (wr := []) (c302_Poll_isIn l z a0 a1 a2 a3 a4 (u0.1 0)) hx hb hml hown hts w_2302 w_2299 w_2300 w_2301 w_36 md_2288df ⟨Nat.le_of_ble_eq_true rfl, Nat.le_of_ble_eq_true rfl⟩ hG hZ hP hD hS hA 0 rfl rfl rfl [0] [] rfl rfl rfl rfl rfl hl.1 rfl (Nat.le_of_ble_eq_true rfl) d_17_10_31 ⟨Nat.le_of_ble_eq_true rfl, Nat.le_of_ble_eq_true rfl⟩ (fun u1 H locs hP hD hS => ?_)
  have hP : va_P z.1 classes [(a0, .inr (14, [.ref a1, .int 0, .ref a2, .ref a3, .int 0, .ref a4, .ref (u0.1 0)]))] H := hP
  have hD : va_D A [(a0, .inr (14, [.ref a1, .int 0, .ref a2, .ref a3, .int 0, .ref a4, .ref (u0.1 0)]))] := hD
  refine W.eq (g2 := F0 m 34 ls [.int 0, .int 0]) rfl ?_
  refine lv_if_eq (tgt := 69) hx hb d_17_10_34 (by decide) (fun _ => ?_) (fun c9 => absurd (by decide +kernel) c9)
  refine lv_iconst (v := (-1)) hx hb d_17_10_69 (by decide +kernel) ?_
  refine lv_iand hx hb d_17_10_70 ?_
  refine nrm (x1 := 0) (by decide +kernel) ?_
  refine lv_istore_n (lv' := [(2, .int 0), (4, .int 0), (3, .int 0), (1, .ref (u0.1 0)), (0, .ref a0)]) hx hb d_17_10_71 rfl hl (by decide) rfl (fun ls hl => ?_)
  refine lv_iinc (v := 1) (lv' := [(4, .int 1), (2, .int 0), (3, .int 0), (1, .ref (u0.1 0)), (0, .ref a0)]) hx hb d_17_10_72 hl (k := 1) rfl (by decide +kernel) (by decide) rfl (fun ls hl => ?_)
  refine lv_goto (tgt := 21) hx hb d_17_10_75 (by decide) ?_
  refine lv_iload hx hb d_17_10_21 (lv_at hl 0 rfl) ?_
  refine lv_bipush (v := 8) hx hb d_17_10_23 (by decide +kernel) ?_
  refine lv_icmp_ge (tgt := 78) hx hb d_17_10_25 (by decide) (fun c9 => absurd c9 (by decide +kernel)) (fun _ => ?_)
  refine lv_iload_n hx hb d_17_10_28 rfl (lv_at hl 1 rfl) ?_
  refine lv_aload_n hx hb d_17_10_29 rfl (lv_at hl 4 rfl) ?_
  refine lv_iload_n hx hb d_17_10_30 rfl (lv_at hl 2 rfl) ?_
  refine kV (As := [.int 0]) (rest := [.int 0]) (wr := []) (c302_Poll_isIn l z a0 a1 a2 a3 a4 (u0.1 0)) hx hb hml hown hts w_2302 w_2299 w_2300 w_2301 w_36 md_2288df ⟨Nat.le_of_ble_eq_true rfl, Nat.le_of_ble_eq_true rfl⟩ hG hZ hP hD hS hA 0 rfl rfl rfl [0] [] rfl rfl rfl rfl rfl hl.1 rfl (Nat.le_of_ble_eq_true rfl) d_17_10_31 ⟨Nat.le_of_ble_eq_true rfl, Nat.le_of_ble_eq_true rfl⟩ (fun u2 H locs hP hD hS => ?_)
  have hP : va_P z.1 classes [(a0, .inr (14, [.ref a1, .int 0, .ref a2, .ref a3, .int 0, .ref a4, .ref (u0.1 0)]))] H := hP
  have hD : va_D A [(a0, .inr (14, [.ref a1, .int 0, .ref a2, .ref a3, .int 0, .ref a4, .ref (u0.1 0)]))] := hD
  refine W.eq (g2 := F0 m 34 ls [.int 0, .int 0]) rfl ?_
  refine lv_if_eq (tgt := 69) hx hb d_17_10_34 (by decide) (fun _ => ?_) (fun c9 => absurd (by decide +kernel) c9)
  refine lv_iconst (v := (-1)) hx hb d_17_10_69 (by decide +kernel) ?_
  refine lv_iand hx hb d_17_10_70 ?_
  refine nrm (x1 := 0) (by decide +kernel) ?_
  refine lv_istore_n (lv' := [(2, .int 0), (4, .int 1), (3, .int 0), (1, .ref (u0.1 0)), (0, .ref a0)]) hx hb d_17_10_71 rfl hl (by decide) rfl (fun ls hl => ?_)
  refine lv_iinc (v := 2) (lv' := [(4, .int 2), (2, .int 0), (3, .int 0), (1, .ref (u0.1 0)), (0, .ref a0)]) hx hb d_17_10_72 hl (k := 1) rfl (by decide +kernel) (by decide) rfl (fun ls hl => ?_)
  refine lv_goto (tgt := 21) hx hb d_17_10_75 (by decide) ?_
  refine lv_iload hx hb d_17_10_21 (lv_at hl 0 rfl) ?_
  refine lv_bipush (v := 8) hx hb d_17_10_23 (by decide +kernel) ?_
  refine lv_icmp_ge (tgt := 78) hx hb d_17_10_25 (by decide) (fun c9 => absurd c9 (by decide +kernel)) (fun _ => ?_)
  refine lv_iload_n hx hb d_17_10_28 rfl (lv_at hl 1 rfl) ?_
  refine lv_aload_n hx hb d_17_10_29 rfl (lv_at hl 4 rfl) ?_
  refine lv_iload_n hx hb d_17_10_30 rfl (lv_at hl 2 rfl) ?_
  refine kV (As := [.int 0]) (rest := [.int 0]) (wr := []) (c302_Poll_isIn l z a0 a1 a2 a3 a4 (u0.1 0)) hx hb hml hown hts w_2302 w_2299 w_2300 w_2301 w_36 md_2288df ⟨Nat.le_of_ble_eq_true rfl, Nat.le_of_ble_eq_true rfl⟩ hG hZ hP hD hS hA 0 rfl rfl rfl [0] [] rfl rfl rfl rfl rfl hl.1 rfl (Nat.le_of_ble_eq_true rfl) d_17_10_31 ⟨Nat.le_of_ble_eq_true rfl, Nat.le_of_ble_eq_true rfl⟩ (fun u3 H locs hP hD hS => ?_)
  have hP : va_P z.1 classes [(a0, .inr (14, [.ref a1, .int 0, .ref a2, .ref a3, .int 0, .ref a4, .ref (u0.1 0)]))] H := hP
  have hD : va_D A [(a0, .inr (14, [.ref a1, .int 0, .ref a2, .ref a3, .int 0, .ref a4, .ref (u0.1 0)]))] := hD
  refine W.eq (g2 := F0 m 34 ls [.int 0, .int 0]) rfl ?_
  refine lv_if_eq (tgt := 69) hx hb d_17_10_34 (by decide) (fun _ => ?_) (fun c9 => absurd (by decide +kernel) c9)
  refine lv_iconst (v := (-1)) hx hb d_17_10_69 (by decide +kernel) ?_
  refine lv_iand hx hb d_17_10_70 ?_
  refine nrm (x1 := 0) (by decide +kernel) ?_
  refine lv_istore_n (lv' := [(2, .int 0), (4, .int 2), (3, .int 0), (1, .ref (u0.1 0)), (0, .ref a0)]) hx hb d_17_10_71 rfl hl (by decide) rfl (fun ls hl => ?_)
  refine lv_iinc (v := 3) (lv' := [(4, .int 3), (2, .int 0), (3, .int 0), (1, .ref (u0.1 0)), (0, .ref a0)]) hx hb d_17_10_72 hl (k := 1) rfl (by decide +kernel) (by decide) rfl (fun ls hl => ?_)
  refine lv_goto (tgt := 21) hx hb d_17_10_75 (by decide) ?_
  refine lv_iload hx hb d_17_10_21 (lv_at hl 0 rfl) ?_
  refine lv_bipush (v := 8) hx hb d_17_10_23 (by decide +kernel) ?_
  refine lv_icmp_ge (tgt := 78) hx hb d_17_10_25 (by decide) (fun c9 => absurd c9 (by decide +kernel)) (fun _ => ?_)
  refine lv_iload_n hx hb d_17_10_28 rfl (lv_at hl 1 rfl) ?_
  refine lv_aload_n hx hb d_17_10_29 rfl (lv_at hl 4 rfl) ?_
  refine lv_iload_n hx hb d_17_10_30 rfl (lv_at hl 2 rfl) ?_
  refine kV (As := [.int 0]) (rest := [.int 0]) (wr := []) (c302_Poll_isIn l z a0 a1 a2 a3 a4 (u0.1 0)) hx hb hml hown hts w_2302 w_2299 w_2300 w_2301 w_36 md_2288df ⟨Nat.le_of_ble_eq_true rfl, Nat.le_of_ble_eq_true rfl⟩ hG hZ hP hD hS hA 0 rfl rfl rfl [0] [] rfl rfl rfl rfl rfl hl.1 rfl (Nat.le_of_ble_eq_true rfl) d_17_10_31 ⟨Nat.le_of_ble_eq_true rfl, Nat.le_of_ble_eq_true rfl⟩ (fun u4 H locs hP hD hS => ?_)
  have hP : va_P z.1 classes [(a0, .inr (14, [.ref a1, .int 0, .ref a2, .ref a3, .int 0, .ref a4, .ref (u0.1 0)]))] H := hP
  have hD : va_D A [(a0, .inr (14, [.ref a1, .int 0, .ref a2, .ref a3, .int 0, .ref a4, .ref (u0.1 0)]))] := hD
  refine W.eq (g2 := F0 m 34 ls [.int 0, .int 0]) rfl ?_
  refine lv_if_eq (tgt := 69) hx hb d_17_10_34 (by decide) (fun _ => ?_) (fun c9 => absurd (by decide +kernel) c9)
  refine lv_iconst (v := (-1)) hx hb d_17_10_69 (by decide +kernel) ?_
  refine lv_iand hx hb d_17_10_70 ?_
  refine nrm (x1 := 0) (by decide +kernel) ?_
  refine lv_istore_n (lv' := [(2, .int 0), (4, .int 3), (3, .int 0), (1, .ref (u0.1 0)), (0, .ref a0)]) hx hb d_17_10_71 rfl hl (by decide) rfl (fun ls hl => ?_)
  refine lv_iinc (v := 4) (lv' := [(4, .int 4), (2, .int 0), (3, .int 0), (1, .ref (u0.1 0)), (0, .ref a0)]) hx hb d_17_10_72 hl (k := 1) rfl (by decide +kernel) (by decide) rfl (fun ls hl => ?_)
  refine lv_goto (tgt := 21) hx hb d_17_10_75 (by decide) ?_
  refine lv_iload hx hb d_17_10_21 (lv_at hl 0 rfl) ?_
  refine lv_bipush (v := 8) hx hb d_17_10_23 (by decide +kernel) ?_
  refine lv_icmp_ge (tgt := 78) hx hb d_17_10_25 (by decide) (fun c9 => absurd c9 (by decide +kernel)) (fun _ => ?_)
  refine lv_iload_n hx hb d_17_10_28 rfl (lv_at hl 1 rfl) ?_
  refine lv_aload_n hx hb d_17_10_29 rfl (lv_at hl 4 rfl) ?_
  refine lv_iload_n hx hb d_17_10_30 rfl (lv_at hl 2 rfl) ?_
  refine kV (As := [.int 0]) (rest := [.int 0]) (wr := []) (c302_Poll_isIn l z a0 a1 a2 a3 a4 (u0.1 0)) hx hb hml hown hts w_2302 w_2299 w_2300 w_2301 w_36 md_2288df ⟨Nat.le_of_ble_eq_true rfl, Nat.le_of_ble_eq_true rfl⟩ hG hZ hP hD hS hA 0 rfl rfl rfl [0] [] rfl rfl rfl rfl rfl hl.1 rfl (Nat.le_of_ble_eq_true rfl) d_17_10_31 ⟨Nat.le_of_ble_eq_true rfl, Nat.le_of_ble_eq_true rfl⟩ (fun u5 H locs hP hD hS => ?_)
  have hP : va_P z.1 classes [(a0, .inr (14, [.ref a1, .int 0, .ref a2, .ref a3, .int 0, .ref a4, .ref (u0.1 0)]))] H := hP
  have hD : va_D A [(a0, .inr (14, [.ref a1, .int 0, .ref a2, .ref a3, .int 0, .ref a4, .ref (u0.1 0)]))] := hD
  refine W.eq (g2 := F0 m 34 ls [.int 0, .int 0]) rfl ?_
  refine lv_if_eq (tgt := 69) hx hb d_17_10_34 (by decide) (fun _ => ?_) (fun c9 => absurd (by decide +kernel) c9)
  refine lv_iconst (v := (-1)) hx hb d_17_10_69 (by decide +kernel) ?_
  refine lv_iand hx hb d_17_10_70 ?_
  refine nrm (x1 := 0) (by decide +kernel) ?_
  refine lv_istore_n (lv' := [(2, .int 0), (4, .int 4), (3, .int 0), (1, .ref (u0.1 0)), (0, .ref a0)]) hx hb d_17_10_71 rfl hl (by decide) rfl (fun ls hl => ?_)
  refine lv_iinc (v := 5) (lv' := [(4, .int 5), (2, .int 0), (3, .int 0), (1, .ref (u0.1 0)), (0, .ref a0)]) hx hb d_17_10_72 hl (k := 1) rfl (by decide +kernel) (by decide) rfl (fun ls hl => ?_)
  refine lv_goto (tgt := 21) hx hb d_17_10_75 (by decide) ?_
  refine lv_iload hx hb d_17_10_21 (lv_at hl 0 rfl) ?_
  refine lv_bipush (v := 8) hx hb d_17_10_23 (by decide +kernel) ?_
  refine lv_icmp_ge (tgt := 78) hx hb d_17_10_25 (by decide) (fun c9 => absurd c9 (by decide +kernel)) (fun _ => ?_)
  refine lv_iload_n hx hb d_17_10_28 rfl (lv_at hl 1 rfl) ?_
  refine lv_aload_n hx hb d_17_10_29 rfl (lv_at hl 4 rfl) ?_
  refine lv_iload_n hx hb d_17_10_30 rfl (lv_at hl 2 rfl) ?_
  refine kV (As := [.int 0]) (rest := [.int 0]) (wr := []) (c302_Poll_isIn l z a0 a1 a2 a3 a4 (u0.1 0)) hx hb hml hown hts w_2302 w_2299 w_2300 w_2301 w_36 md_2288df ⟨Nat.le_of_ble_eq_true rfl, Nat.le_of_ble_eq_true rfl⟩ hG hZ hP hD hS hA 0 rfl rfl rfl [0] [] rfl rfl rfl rfl rfl hl.1 rfl (Nat.le_of_ble_eq_true rfl) d_17_10_31 ⟨Nat.le_of_ble_eq_true rfl, Nat.le_of_ble_eq_true rfl⟩ (fun u6 H locs hP hD hS => ?_)
  have hP : va_P z.1 classes [(a0, .inr (14, [.ref a1, .int 0, .ref a2, .ref a3, .int 0, .ref a4, .ref (u0.1 0)]))] H := hP
  have hD : va_D A [(a0, .inr (14, [.ref a1, .int 0, .ref a2, .ref a3, .int 0, .ref a4, .ref (u0.1 0)]))] := hD
  refine W.eq (g2 := F0 m 34 ls [.int 0, .int 0]) rfl ?_
  refine lv_if_eq (tgt := 69) hx hb d_17_10_34 (by decide) (fun _ => ?_) (fun c9 => absurd (by decide +kernel) c9)
  refine lv_iconst (v := (-1)) hx hb d_17_10_69 (by decide +kernel) ?_
  refine lv_iand hx hb d_17_10_70 ?_
  refine nrm (x1 := 0) (by decide +kernel) ?_
  refine lv_istore_n (lv' := [(2, .int 0), (4, .int 5), (3, .int 0), (1, .ref (u0.1 0)), (0, .ref a0)]) hx hb d_17_10_71 rfl hl (by decide) rfl (fun ls hl => ?_)
  refine lv_iinc (v := 6) (lv' := [(4, .int 6), (2, .int 0), (3, .int 0), (1, .ref (u0.1 0)), (0, .ref a0)]) hx hb d_17_10_72 hl (k := 1) rfl (by decide +kernel) (by decide) rfl (fun ls hl => ?_)
  refine lv_goto (tgt := 21) hx hb d_17_10_75 (by decide) ?_
  refine lv_iload hx hb d_17_10_21 (lv_at hl 0 rfl) ?_
  refine lv_bipush (v := 8) hx hb d_17_10_23 (by decide +kernel) ?_
  refine lv_icmp_ge (tgt := 78) hx hb d_17_10_25 (by decide) (fun c9 => absurd c9 (by decide +kernel)) (fun _ => ?_)
  refine lv_iload_n hx hb d_17_10_28 rfl (lv_at hl 1 rfl) ?_
  refine lv_aload_n hx hb d_17_10_29 rfl (lv_at hl 4 rfl) ?_
  refine lv_iload_n hx hb d_17_10_30 rfl (lv_at hl 2 rfl) ?_
  refine kV (As := [.int 0]) (rest := [.int 0]) (wr := []) (c302_Poll_isIn l z a0 a1 a2 a3 a4 (u0.1 0)) hx hb hml hown hts w_2302 w_2299 w_2300 w_2301 w_36 md_2288df ⟨Nat.le_of_ble_eq_true rfl, Nat.le_of_ble_eq_true rfl⟩ hG hZ hP hD hS hA 0 rfl rfl rfl [0] [] rfl rfl rfl rfl rfl hl.1 rfl (Nat.le_of_ble_eq_true rfl) d_17_10_31 ⟨Nat.le_of_ble_eq_true rfl, Nat.le_of_ble_eq_true rfl⟩ (fun u7 H locs hP hD hS => ?_)
  have hP : va_P z.1 classes [(a0, .inr (14, [.ref a1, .int 0, .ref a2, .ref a3, .int 0, .ref a4, .ref (u0.1 0)]))] H := hP
  have hD : va_D A [(a0, .inr (14, [.ref a1, .int 0, .ref a2, .ref a3, .int 0, .ref a4, .ref (u0.1 0)]))] := hD
  refine W.eq (g2 := F0 m 34 ls [.int 0, .int 0]) rfl ?_
  refine lv_if_eq (tgt := 69) hx hb d_17_10_34 (by decide) (fun _ => ?_) (fun c9 => absurd (by decide +kernel) c9)
  refine lv_iconst (v := (-1)) hx hb d_17_10_69 (by decide +kernel) ?_
  refine lv_iand hx hb d_17_10_70 ?_
  refine nrm (x1 := 0) (by decide +kernel) ?_
  refine lv_istore_n (lv' := [(2, .int 0), (4, .int 6), (3, .int 0), (1, .ref (u0.1 0)), (0, .ref a0)]) hx hb d_17_10_71 rfl hl (by decide) rfl (fun ls hl => ?_)
  refine lv_iinc (v := 7) (lv' := [(4, .int 7), (2, .int 0), (3, .int 0), (1, .ref (u0.1 0)), (0, .ref a0)]) hx hb d_17_10_72 hl (k := 1) rfl (by decide +kernel) (by decide) rfl (fun ls hl => ?_)
  refine lv_goto (tgt := 21) hx hb d_17_10_75 (by decide) ?_
  refine lv_iload hx hb d_17_10_21 (lv_at hl 0 rfl) ?_
  refine lv_bipush (v := 8) hx hb d_17_10_23 (by decide +kernel) ?_
  refine lv_icmp_ge (tgt := 78) hx hb d_17_10_25 (by decide) (fun c9 => absurd c9 (by decide +kernel)) (fun _ => ?_)
  refine lv_iload_n hx hb d_17_10_28 rfl (lv_at hl 1 rfl) ?_
  refine lv_aload_n hx hb d_17_10_29 rfl (lv_at hl 4 rfl) ?_
  refine lv_iload_n hx hb d_17_10_30 rfl (lv_at hl 2 rfl) ?_
  refine kV (As := [.int 0]) (rest := [.int 0]) (wr := []) (c302_Poll_isIn l z a0 a1 a2 a3 a4 (u0.1 0)) hx hb hml hown hts w_2302 w_2299 w_2300 w_2301 w_36 md_2288df ⟨Nat.le_of_ble_eq_true rfl, Nat.le_of_ble_eq_true rfl⟩ hG hZ hP hD hS hA 0 rfl rfl rfl [0] [] rfl rfl rfl rfl rfl hl.1 rfl (Nat.le_of_ble_eq_true rfl) d_17_10_31 ⟨Nat.le_of_ble_eq_true rfl, Nat.le_of_ble_eq_true rfl⟩ (fun u8 H locs hP hD hS => ?_)
  have hP : va_P z.1 classes [(a0, .inr (14, [.ref a1, .int 0, .ref a2, .ref a3, .int 0, .ref a4, .ref (u0.1 0)]))] H := hP
  have hD : va_D A [(a0, .inr (14, [.ref a1, .int 0, .ref a2, .ref a3, .int 0, .ref a4, .ref (u0.1 0)]))] := hD
  refine W.eq (g2 := F0 m 34 ls [.int 0, .int 0]) rfl ?_
  refine lv_if_eq (tgt := 69) hx hb d_17_10_34 (by decide) (fun _ => ?_) (fun c9 => absurd (by decide +kernel) c9)
  refine lv_iconst (v := (-1)) hx hb d_17_10_69 (by decide +kernel) ?_
  refine lv_iand hx hb d_17_10_70 ?_
  refine nrm (x1 := 0) (by decide +kernel) ?_
  refine lv_istore_n (lv' := [(2, .int 0), (4, .int 7), (3, .int 0), (1, .ref (u0.1 0)), (0, .ref a0)]) hx hb d_17_10_71 rfl hl (by decide) rfl (fun ls hl => ?_)
  refine lv_iinc (v := 8) (lv' := [(4, .int 8), (2, .int 0), (3, .int 0), (1, .ref (u0.1 0)), (0, .ref a0)]) hx hb d_17_10_72 hl (k := 1) rfl (by decide +kernel) (by decide) rfl (fun ls hl => ?_)
  refine lv_goto (tgt := 21) hx hb d_17_10_75 (by decide) ?_
  refine lv_iload hx hb d_17_10_21 (lv_at hl 0 rfl) ?_
  refine lv_bipush (v := 8) hx hb d_17_10_23 (by decide +kernel) ?_
  refine lv_icmp_ge (tgt := 78) hx hb d_17_10_25 (by decide) (fun _ => ?_) (fun c9 => absurd (by decide +kernel) c9)
  refine lv_iinc (v := 1) (lv' := [(3, .int 1), (4, .int 8), (2, .int 0), (1, .ref (u0.1 0)), (0, .ref a0)]) hx hb d_17_10_78 hl (k := 2) rfl (by decide +kernel) (by decide) rfl (fun ls hl => ?_)
  refine lv_goto (tgt := 12) hx hb d_17_10_81 (by decide) ?_
  refine lv_iload_n hx hb d_17_10_12 rfl (lv_at hl 0 rfl) ?_
  refine lv_bipush (v := 8) hx hb d_17_10_13 (by decide +kernel) ?_
  refine lv_icmp_ge (tgt := 84) hx hb d_17_10_15 (by decide) (fun c9 => absurd c9 (by decide +kernel)) (fun _ => ?_)
  refine lv_iconst (v := 0) hx hb d_17_10_18 (by decide +kernel) ?_
  refine lv_istore (lv' := [(4, .int 0), (3, .int 1), (2, .int 0), (1, .ref (u0.1 0)), (0, .ref a0)]) hx hb d_17_10_19 hl (by decide) rfl (fun ls hl => ?_)
  refine lv_iload hx hb d_17_10_21 (lv_at hl 0 rfl) ?_
  refine lv_bipush (v := 8) hx hb d_17_10_23 (by decide +kernel) ?_
  refine lv_icmp_ge (tgt := 78) hx hb d_17_10_25 (by decide) (fun c9 => absurd c9 (by decide +kernel)) (fun _ => ?_)
  refine lv_iload_n hx hb d_17_10_28 rfl (lv_at hl 2 rfl) ?_
  refine lv_aload_n hx hb d_17_10_29 rfl (lv_at hl 4 rfl) ?_
  refine lv_iload_n hx hb d_17_10_30 rfl (lv_at hl 1 rfl) ?_
  refine kV (As := [.int 1]) (rest := [.int 0]) (wr := []) (c303_Poll_isIn l z a0 a1 a2 a3 a4 (u0.1 0)) hx hb hml hown hts w_2302 w_2299 w_2300 w_2301 w_36 md_2288df ⟨Nat.le_of_ble_eq_true rfl, Nat.le_of_ble_eq_true rfl⟩ hG hZ hP hD hS hA 0 rfl rfl rfl [0] [] rfl rfl rfl rfl rfl hl.1 rfl (Nat.le_of_ble_eq_true rfl) d_17_10_31 ⟨Nat.le_of_ble_eq_true rfl, Nat.le_of_ble_eq_true rfl⟩ (fun u9 H locs hP hD hS => ?_)
  have hP : va_P z.1 classes [(a0, .inr (14, [.ref a1, .int 0, .ref a2, .ref a3, .int 0, .ref a4, .ref (u0.1 0)]))] H := hP
  have hD : va_D A [(a0, .inr (14, [.ref a1, .int 0, .ref a2, .ref a3, .int 0, .ref a4, .ref (u0.1 0)]))] := hD
  refine W.eq (g2 := F0 m 34 ls [.int 0, .int 0]) rfl ?_
  refine lv_if_eq (tgt := 69) hx hb d_17_10_34 (by decide) (fun _ => ?_) (fun c9 => absurd (by decide +kernel) c9)
  refine lv_iconst (v := (-1)) hx hb d_17_10_69 (by decide +kernel) ?_
  refine lv_iand hx hb d_17_10_70 ?_
  refine nrm (x1 := 0) (by decide +kernel) ?_
  refine lv_istore_n (lv' := [(2, .int 0), (4, .int 0), (3, .int 1), (1, .ref (u0.1 0)), (0, .ref a0)]) hx hb d_17_10_71 rfl hl (by decide) rfl (fun ls hl => ?_)
  refine lv_iinc (v := 1) (lv' := [(4, .int 1), (2, .int 0), (3, .int 1), (1, .ref (u0.1 0)), (0, .ref a0)]) hx hb d_17_10_72 hl (k := 1) rfl (by decide +kernel) (by decide) rfl (fun ls hl => ?_)
  refine lv_goto (tgt := 21) hx hb d_17_10_75 (by decide) ?_
  refine lv_iload hx hb d_17_10_21 (lv_at hl 0 rfl) ?_
  refine lv_bipush (v := 8) hx hb d_17_10_23 (by decide +kernel) ?_
  refine lv_icmp_ge (tgt := 78) hx hb d_17_10_25 (by decide) (fun c9 => absurd c9 (by decide +kernel)) (fun _ => ?_)
  refine lv_iload_n hx hb d_17_10_28 rfl (lv_at hl 1 rfl) ?_
  refine lv_aload_n hx hb d_17_10_29 rfl (lv_at hl 4 rfl) ?_
  refine lv_iload_n hx hb d_17_10_30 rfl (lv_at hl 2 rfl) ?_
  refine kV (As := [.int 1]) (rest := [.int 0]) (wr := []) (c303_Poll_isIn l z a0 a1 a2 a3 a4 (u0.1 0)) hx hb hml hown hts w_2302 w_2299 w_2300 w_2301 w_36 md_2288df ⟨Nat.le_of_ble_eq_true rfl, Nat.le_of_ble_eq_true rfl⟩ hG hZ hP hD hS hA 0 rfl rfl rfl [0] [] rfl rfl rfl rfl rfl hl.1 rfl (Nat.le_of_ble_eq_true rfl) d_17_10_31 ⟨Nat.le_of_ble_eq_true rfl, Nat.le_of_ble_eq_true rfl⟩ (fun u10 H locs hP hD hS => ?_)
  have hP : va_P z.1 classes [(a0, .inr (14, [.ref a1, .int 0, .ref a2, .ref a3, .int 0, .ref a4, .ref (u0.1 0)]))] H := hP
  have hD : va_D A [(a0, .inr (14, [.ref a1, .int 0, .ref a2, .ref a3, .int 0, .ref a4, .ref (u0.1 0)]))] := hD
  refine W.eq (g2 := F0 m 34 ls [.int 0, .int 0]) rfl ?_
  refine lv_if_eq (tgt := 69) hx hb d_17_10_34 (by decide) (fun _ => ?_) (fun c9 => absurd (by decide +kernel) c9)
  refine lv_iconst (v := (-1)) hx hb d_17_10_69 (by decide +kernel) ?_
  refine lv_iand hx hb d_17_10_70 ?_
  refine nrm (x1 := 0) (by decide +kernel) ?_
  refine lv_istore_n (lv' := [(2, .int 0), (4, .int 1), (3, .int 1), (1, .ref (u0.1 0)), (0, .ref a0)]) hx hb d_17_10_71 rfl hl (by decide) rfl (fun ls hl => ?_)
  refine lv_iinc (v := 2) (lv' := [(4, .int 2), (2, .int 0), (3, .int 1), (1, .ref (u0.1 0)), (0, .ref a0)]) hx hb d_17_10_72 hl (k := 1) rfl (by decide +kernel) (by decide) rfl (fun ls hl => ?_)
  refine lv_goto (tgt := 21) hx hb d_17_10_75 (by decide) ?_
  refine lv_iload hx hb d_17_10_21 (lv_at hl 0 rfl) ?_
  refine lv_bipush (v := 8) hx hb d_17_10_23 (by decide +kernel) ?_
  refine lv_icmp_ge (tgt := 78) hx hb d_17_10_25 (by decide) (fun c9 => absurd c9 (by decide +kernel)) (fun _ => ?_)
  refine lv_iload_n hx hb d_17_10_28 rfl (lv_at hl 1 rfl) ?_
  refine lv_aload_n hx hb d_17_10_29 rfl (lv_at hl 4 rfl) ?_
  refine lv_iload_n hx hb d_17_10_30 rfl (lv_at hl 2 rfl) ?_
  refine kV (As := [.int 1]) (rest := [.int 0]) (wr := []) (c303_Poll_isIn l z a0 a1 a2 a3 a4 (u0.1 0)) hx hb hml hown hts w_2302 w_2299 w_2300 w_2301 w_36 md_2288df ⟨Nat.le_of_ble_eq_true rfl, Nat.le_of_ble_eq_true rfl⟩ hG hZ hP hD hS hA 0 rfl rfl rfl [0] [] rfl rfl rfl rfl rfl hl.1 rfl (Nat.le_of_ble_eq_true rfl) d_17_10_31 ⟨Nat.le_of_ble_eq_true rfl, Nat.le_of_ble_eq_true rfl⟩ (fun u11 H locs hP hD hS => ?_)
  have hP : va_P z.1 classes [(a0, .inr (14, [.ref a1, .int 0, .ref a2, .ref a3, .int 0, .ref a4, .ref (u0.1 0)]))] H := hP
  have hD : va_D A [(a0, .inr (14, [.ref a1, .int 0, .ref a2, .ref a3, .int 0, .ref a4, .ref (u0.1 0)]))] := hD
  refine W.eq (g2 := F0 m 34 ls [.int 0, .int 0]) rfl ?_
  refine lv_if_eq (tgt := 69) hx hb d_17_10_34 (by decide) (fun _ => ?_) (fun c9 => absurd (by decide +kernel) c9)
  refine lv_iconst (v := (-1)) hx hb d_17_10_69 (by decide +kernel) ?_
  refine lv_iand hx hb d_17_10_70 ?_
  refine nrm (x1 := 0) (by decide +kernel) ?_
  refine lv_istore_n (lv' := [(2, .int 0), (4, .int 2), (3, .int 1), (1, .ref (u0.1 0)), (0, .ref a0)]) hx hb d_17_10_71 rfl hl (by decide) rfl (fun ls hl => ?_)
  refine lv_iinc (v := 3) (lv' := [(4, .int 3), (2, .int 0), (3, .int 1), (1, .ref (u0.1 0)), (0, .ref a0)]) hx hb d_17_10_72 hl (k := 1) rfl (by decide +kernel) (by decide) rfl (fun ls hl => ?_)
  refine lv_goto (tgt := 21) hx hb d_17_10_75 (by decide) ?_
  refine lv_iload hx hb d_17_10_21 (lv_at hl 0 rfl) ?_
  refine lv_bipush (v := 8) hx hb d_17_10_23 (by decide +kernel) ?_
  refine lv_icmp_ge (tgt := 78) hx hb d_17_10_25 (by decide) (fun c9 => absurd c9 (by decide +kernel)) (fun _ => ?_)
  refine lv_iload_n hx hb d_17_10_28 rfl (lv_at hl 1 rfl) ?_
  refine lv_aload_n hx hb d_17_10_29 rfl (lv_at hl 4 rfl) ?_
  refine lv_iload_n hx hb d_17_10_30 rfl (lv_at hl 2 rfl) ?_
  refine kV (As := [.int 1]) (rest := [.int 0]) (wr := []) (c303_Poll_isIn l z a0 a1 a2 a3 a4 (u0.1 0)) hx hb hml hown hts w_2302 w_2299 w_2300 w_2301 w_36 md_2288df ⟨Nat.le_of_ble_eq_true rfl, Nat.le_of_ble_eq_true rfl⟩ hG hZ hP hD hS hA 0 rfl rfl rfl [0] [] rfl rfl rfl rfl rfl hl.1 rfl (Nat.le_of_ble_eq_true rfl) d_17_10_31 ⟨Nat.le_of_ble_eq_true rfl, Nat.le_of_ble_eq_true rfl⟩ (fun u12 H locs hP hD hS => ?_)
  have hP : va_P z.1 classes [(a0, .inr (14, [.ref a1, .int 0, .ref a2, .ref a3, .int 0, .ref a4, .ref (u0.1 0)]))] H := hP
  have hD : va_D A [(a0, .inr (14, [.ref a1, .int 0, .ref a2, .ref a3, .int 0, .ref a4, .ref (u0.1 0)]))] := hD
  refine W.eq (g2 := F0 m 34 ls [.int 0, .int 0]) rfl ?_
  refine lv_if_eq (tgt := 69) hx hb d_17_10_34 (by decide) (fun _ => ?_) (fun c9 => absurd (by decide +kernel) c9)
  refine lv_iconst (v := (-1)) hx hb d_17_10_69 (by decide +kernel) ?_
  refine lv_iand hx hb d_17_10_70 ?_
  refine nrm (x1 := 0) (by decide +kernel) ?_
  refine lv_istore_n (lv' := [(2, .int 0), (4, .int 3), (3, .int 1), (1, .ref (u0.1 0)), (0, .ref a0)]) hx hb d_17_10_71 rfl hl (by decide) rfl (fun ls hl => ?_)
  refine lv_iinc (v := 4) (lv' := [(4, .int 4), (2, .int 0), (3, .int 1), (1, .ref (u0.1 0)), (0, .ref a0)]) hx hb d_17_10_72 hl (k := 1) rfl (by decide +kernel) (by decide) rfl (fun ls hl => ?_)
  refine lv_goto (tgt := 21) hx hb d_17_10_75 (by decide) ?_
  refine lv_iload hx hb d_17_10_21 (lv_at hl 0 rfl) ?_
  refine lv_bipush (v := 8) hx hb d_17_10_23 (by decide +kernel) ?_
  refine lv_icmp_ge (tgt := 78) hx hb d_17_10_25 (by decide) (fun c9 => absurd c9 (by decide +kernel)) (fun _ => ?_)
  refine lv_iload_n hx hb d_17_10_28 rfl (lv_at hl 1 rfl) ?_
  refine lv_aload_n hx hb d_17_10_29 rfl (lv_at hl 4 rfl) ?_
  refine lv_iload_n hx hb d_17_10_30 rfl (lv_at hl 2 rfl) ?_
  refine kV (As := [.int 1]) (rest := [.int 0]) (wr := []) (c303_Poll_isIn l z a0 a1 a2 a3 a4 (u0.1 0)) hx hb hml hown hts w_2302 w_2299 w_2300 w_2301 w_36 md_2288df ⟨Nat.le_of_ble_eq_true rfl, Nat.le_of_ble_eq_true rfl⟩ hG hZ hP hD hS hA 0 rfl rfl rfl [0] [] rfl rfl rfl rfl rfl hl.1 rfl (Nat.le_of_ble_eq_true rfl) d_17_10_31 ⟨Nat.le_of_ble_eq_true rfl, Nat.le_of_ble_eq_true rfl⟩ (fun u13 H locs hP hD hS => ?_)
  have hP : va_P z.1 classes [(a0, .inr (14, [.ref a1, .int 0, .ref a2, .ref a3, .int 0, .ref a4, .ref (u0.1 0)]))] H := hP
  have hD : va_D A [(a0, .inr (14, [.ref a1, .int 0, .ref a2, .ref a3, .int 0, .ref a4, .ref (u0.1 0)]))] := hD
  refine W.eq (g2 := F0 m 34 ls [.int 0, .int 0]) rfl ?_
  refine lv_if_eq (tgt := 69) hx hb d_17_10_34 (by decide) (fun _ => ?_) (fun c9 => absurd (by decide +kernel) c9)
  refine lv_iconst (v := (-1)) hx hb d_17_10_69 (by decide +kernel) ?_
  refine lv_iand hx hb d_17_10_70 ?_
  refine nrm (x1 := 0) (by decide +kernel) ?_
  refine lv_istore_n (lv' := [(2, .int 0), (4, .int 4), (3, .int 1), (1, .ref (u0.1 0)), (0, .ref a0)]) hx hb d_17_10_71 rfl hl (by decide) rfl (fun ls hl => ?_)
  refine lv_iinc (v := 5) (lv' := [(4, .int 5), (2, .int 0), (3, .int 1), (1, .ref (u0.1 0)), (0, .ref a0)]) hx hb d_17_10_72 hl (k := 1) rfl (by decide +kernel) (by decide) rfl (fun ls hl => ?_)
  refine lv_goto (tgt := 21) hx hb d_17_10_75 (by decide) ?_
  refine lv_iload hx hb d_17_10_21 (lv_at hl 0 rfl) ?_
  refine lv_bipush (v := 8) hx hb d_17_10_23 (by decide +kernel) ?_
  refine lv_icmp_ge (tgt := 78) hx hb d_17_10_25 (by decide) (fun c9 => absurd c9 (by decide +kernel)) (fun _ => ?_)
  refine lv_iload_n hx hb d_17_10_28 rfl (lv_at hl 1 rfl) ?_
  refine lv_aload_n hx hb d_17_10_29 rfl (lv_at hl 4 rfl) ?_
  refine lv_iload_n hx hb d_17_10_30 rfl (lv_at hl 2 rfl) ?_
  refine kV (As := [.int 1]) (rest := [.int 0]) (wr := []) (c303_Poll_isIn l z a0 a1 a2 a3 a4 (u0.1 0)) hx hb hml hown hts w_2302 w_2299 w_2300 w_2301 w_36 md_2288df ⟨Nat.le_of_ble_eq_true rfl, Nat.le_of_ble_eq_true rfl⟩ hG hZ hP hD hS hA 0 rfl rfl rfl [0] [] rfl rfl rfl rfl rfl hl.1 rfl (Nat.le_of_ble_eq_true rfl) d_17_10_31 ⟨Nat.le_of_ble_eq_true rfl, Nat.le_of_ble_eq_true rfl⟩ (fun u14 H locs hP hD hS => ?_)
  have hP : va_P z.1 classes [(a0, .inr (14, [.ref a1, .int 0, .ref a2, .ref a3, .int 0, .ref a4, .ref (u0.1 0)]))] H := hP
  have hD : va_D A [(a0, .inr (14, [.ref a1, .int 0, .ref a2, .ref a3, .int 0, .ref a4, .ref (u0.1 0)]))] := hD
  refine W.eq (g2 := F0 m 34 ls [.int 0, .int 0]) rfl ?_
  refine lv_if_eq (tgt := 69) hx hb d_17_10_34 (by decide) (fun _ => ?_) (fun c9 => absurd (by decide +kernel) c9)
  refine lv_iconst (v := (-1)) hx hb d_17_10_69 (by decide +kernel) ?_
  refine lv_iand hx hb d_17_10_70 ?_
  refine nrm (x1 := 0) (by decide +kernel) ?_
  refine lv_istore_n (lv' := [(2, .int 0), (4, .int 5), (3, .int 1), (1, .ref (u0.1 0)), (0, .ref a0)]) hx hb d_17_10_71 rfl hl (by decide) rfl (fun ls hl => ?_)
  refine lv_iinc (v := 6) (lv' := [(4, .int 6), (2, .int 0), (3, .int 1), (1, .ref (u0.1 0)), (0, .ref a0)]) hx hb d_17_10_72 hl (k := 1) rfl (by decide +kernel) (by decide) rfl (fun ls hl => ?_)
  refine lv_goto (tgt := 21) hx hb d_17_10_75 (by decide) ?_
  refine lv_iload hx hb d_17_10_21 (lv_at hl 0 rfl) ?_
  refine lv_bipush (v := 8) hx hb d_17_10_23 (by decide +kernel) ?_
  refine lv_icmp_ge (tgt := 78) hx hb d_17_10_25 (by decide) (fun c9 => absurd c9 (by decide +kernel)) (fun _ => ?_)
  refine lv_iload_n hx hb d_17_10_28 rfl (lv_at hl 1 rfl) ?_
  refine lv_aload_n hx hb d_17_10_29 rfl (lv_at hl 4 rfl) ?_
  refine lv_iload_n hx hb d_17_10_30 rfl (lv_at hl 2 rfl) ?_
  refine kV (As := [.int 1]) (rest := [.int 0]) (wr := []) (c303_Poll_isIn l z a0 a1 a2 a3 a4 (u0.1 0)) hx hb hml hown hts w_2302 w_2299 w_2300 w_2301 w_36 md_2288df ⟨Nat.le_of_ble_eq_true rfl, Nat.le_of_ble_eq_true rfl⟩ hG hZ hP hD hS hA 0 rfl rfl rfl [0] [] rfl rfl rfl rfl rfl hl.1 rfl (Nat.le_of_ble_eq_true rfl) d_17_10_31 ⟨Nat.le_of_ble_eq_true rfl, Nat.le_of_ble_eq_true rfl⟩ (fun u15 H locs hP hD hS => ?_)
  have hP : va_P z.1 classes [(a0, .inr (14, [.ref a1, .int 0, .ref a2, .ref a3, .int 0, .ref a4, .ref (u0.1 0)]))] H := hP
  have hD : va_D A [(a0, .inr (14, [.ref a1, .int 0, .ref a2, .ref a3, .int 0, .ref a4, .ref (u0.1 0)]))] := hD
  refine W.eq (g2 := F0 m 34 ls [.int 0, .int 0]) rfl ?_
  refine lv_if_eq (tgt := 69) hx hb d_17_10_34 (by decide) (fun _ => ?_) (fun c9 => absurd (by decide +kernel) c9)
  refine lv_iconst (v := (-1)) hx hb d_17_10_69 (by decide +kernel) ?_
  refine lv_iand hx hb d_17_10_70 ?_
  refine nrm (x1 := 0) (by decide +kernel) ?_
  refine lv_istore_n (lv' := [(2, .int 0), (4, .int 6), (3, .int 1), (1, .ref (u0.1 0)), (0, .ref a0)]) hx hb d_17_10_71 rfl hl (by decide) rfl (fun ls hl => ?_)
  refine lv_iinc (v := 7) (lv' := [(4, .int 7), (2, .int 0), (3, .int 1), (1, .ref (u0.1 0)), (0, .ref a0)]) hx hb d_17_10_72 hl (k := 1) rfl (by decide +kernel) (by decide) rfl (fun ls hl => ?_)
  refine lv_goto (tgt := 21) hx hb d_17_10_75 (by decide) ?_
  refine lv_iload hx hb d_17_10_21 (lv_at hl 0 rfl) ?_
  refine lv_bipush (v := 8) hx hb d_17_10_23 (by decide +kernel) ?_
  refine lv_icmp_ge (tgt := 78) hx hb d_17_10_25 (by decide) (fun c9 => absurd c9 (by decide +kernel)) (fun _ => ?_)
  refine lv_iload_n hx hb d_17_10_28 rfl (lv_at hl 1 rfl) ?_
  refine lv_aload_n hx hb d_17_10_29 rfl (lv_at hl 4 rfl) ?_
  refine lv_iload_n hx hb d_17_10_30 rfl (lv_at hl 2 rfl) ?_
  refine kV (As := [.int 1]) (rest := [.int 0]) (wr := []) (c303_Poll_isIn l z a0 a1 a2 a3 a4 (u0.1 0)) hx hb hml hown hts w_2302 w_2299 w_2300 w_2301 w_36 md_2288df ⟨Nat.le_of_ble_eq_true rfl, Nat.le_of_ble_eq_true rfl⟩ hG hZ hP hD hS hA 0 rfl rfl rfl [0] [] rfl rfl rfl rfl rfl hl.1 rfl (Nat.le_of_ble_eq_true rfl) d_17_10_31 ⟨Nat.le_of_ble_eq_true rfl, Nat.le_of_ble_eq_true rfl⟩ (fun u16 H locs hP hD hS => ?_)
  have hP : va_P z.1 classes [(a0, .inr (14, [.ref a1, .int 0, .ref a2, .ref a3, .int 0, .ref a4, .ref (u0.1 0)]))] H := hP
  have hD : va_D A [(a0, .inr (14, [.ref a1, .int 0, .ref a2, .ref a3, .int 0, .ref a4, .ref (u0.1 0)]))] := hD
  refine W.eq (g2 := F0 m 34 ls [.int 0, .int 0]) rfl ?_
  refine lv_if_eq (tgt := 69) hx hb d_17_10_34 (by decide) (fun _ => ?_) (fun c9 => absurd (by decide +kernel) c9)
  refine lv_iconst (v := (-1)) hx hb d_17_10_69 (by decide +kernel) ?_
  refine lv_iand hx hb d_17_10_70 ?_
  refine nrm (x1 := 0) (by decide +kernel) ?_
  refine lv_istore_n (lv' := [(2, .int 0), (4, .int 7), (3, .int 1), (1, .ref (u0.1 0)), (0, .ref a0)]) hx hb d_17_10_71 rfl hl (by decide) rfl (fun ls hl => ?_)
  refine lv_iinc (v := 8) (lv' := [(4, .int 8), (2, .int 0), (3, .int 1), (1, .ref (u0.1 0)), (0, .ref a0)]) hx hb d_17_10_72 hl (k := 1) rfl (by decide +kernel) (by decide) rfl (fun ls hl => ?_)
  refine lv_goto (tgt := 21) hx hb d_17_10_75 (by decide) ?_
  refine lv_iload hx hb d_17_10_21 (lv_at hl 0 rfl) ?_
  refine lv_bipush (v := 8) hx hb d_17_10_23 (by decide +kernel) ?_
  refine lv_icmp_ge (tgt := 78) hx hb d_17_10_25 (by decide) (fun _ => ?_) (fun c9 => absurd (by decide +kernel) c9)
  refine lv_iinc (v := 2) (lv' := [(3, .int 2), (4, .int 8), (2, .int 0), (1, .ref (u0.1 0)), (0, .ref a0)]) hx hb d_17_10_78 hl (k := 2) rfl (by decide +kernel) (by decide) rfl (fun ls hl => ?_)
  refine lv_goto (tgt := 12) hx hb d_17_10_81 (by decide) ?_
  refine lv_iload_n hx hb d_17_10_12 rfl (lv_at hl 0 rfl) ?_
  refine lv_bipush (v := 8) hx hb d_17_10_13 (by decide +kernel) ?_
  refine lv_icmp_ge (tgt := 84) hx hb d_17_10_15 (by decide) (fun c9 => absurd c9 (by decide +kernel)) (fun _ => ?_)
  refine lv_iconst (v := 0) hx hb d_17_10_18 (by decide +kernel) ?_
  refine lv_istore (lv' := [(4, .int 0), (3, .int 2), (2, .int 0), (1, .ref (u0.1 0)), (0, .ref a0)]) hx hb d_17_10_19 hl (by decide) rfl (fun ls hl => ?_)
  refine lv_iload hx hb d_17_10_21 (lv_at hl 0 rfl) ?_
  refine lv_bipush (v := 8) hx hb d_17_10_23 (by decide +kernel) ?_
  refine lv_icmp_ge (tgt := 78) hx hb d_17_10_25 (by decide) (fun c9 => absurd c9 (by decide +kernel)) (fun _ => ?_)
  refine lv_iload_n hx hb d_17_10_28 rfl (lv_at hl 2 rfl) ?_
  refine lv_aload_n hx hb d_17_10_29 rfl (lv_at hl 4 rfl) ?_
  refine lv_iload_n hx hb d_17_10_30 rfl (lv_at hl 1 rfl) ?_
  refine kV (As := [.int 2]) (rest := [.int 0]) (wr := []) (c304_Poll_isIn l z a0 a1 a2 a3 a4 (u0.1 0)) hx hb hml hown hts w_2302 w_2299 w_2300 w_2301 w_36 md_2288df ⟨Nat.le_of_ble_eq_true rfl, Nat.le_of_ble_eq_true rfl⟩ hG hZ hP hD hS hA 0 rfl rfl rfl [0] [] rfl rfl rfl rfl rfl hl.1 rfl (Nat.le_of_ble_eq_true rfl) d_17_10_31 ⟨Nat.le_of_ble_eq_true rfl, Nat.le_of_ble_eq_true rfl⟩ (fun u17 H locs hP hD hS => ?_)
  have hP : va_P z.1 classes [(a0, .inr (14, [.ref a1, .int 0, .ref a2, .ref a3, .int 0, .ref a4, .ref (u0.1 0)]))] H := hP
  have hD : va_D A [(a0, .inr (14, [.ref a1, .int 0, .ref a2, .ref a3, .int 0, .ref a4, .ref (u0.1 0)]))] := hD
  refine W.eq (g2 := F0 m 34 ls [.int 0, .int 0]) rfl ?_
  refine lv_if_eq (tgt := 69) hx hb d_17_10_34 (by decide) (fun _ => ?_) (fun c9 => absurd (by decide +kernel) c9)
  refine lv_iconst (v := (-1)) hx hb d_17_10_69 (by decide +kernel) ?_
  refine lv_iand hx hb d_17_10_70 ?_
  refine nrm (x1 := 0) (by decide +kernel) ?_
  refine lv_istore_n (lv' := [(2, .int 0), (4, .int 0), (3, .int 2), (1, .ref (u0.1 0)), (0, .ref a0)]) hx hb d_17_10_71 rfl hl (by decide) rfl (fun ls hl => ?_)
  refine lv_iinc (v := 1) (lv' := [(4, .int 1), (2, .int 0), (3, .int 2), (1, .ref (u0.1 0)), (0, .ref a0)]) hx hb d_17_10_72 hl (k := 1) rfl (by decide +kernel) (by decide) rfl (fun ls hl => ?_)
  refine lv_goto (tgt := 21) hx hb d_17_10_75 (by decide) ?_
  refine lv_iload hx hb d_17_10_21 (lv_at hl 0 rfl) ?_
  refine lv_bipush (v := 8) hx hb d_17_10_23 (by decide +kernel) ?_
  refine lv_icmp_ge (tgt := 78) hx hb d_17_10_25 (by decide) (fun c9 => absurd c9 (by decide +kernel)) (fun _ => ?_)
  refine lv_iload_n hx hb d_17_10_28 rfl (lv_at hl 1 rfl) ?_
  refine lv_aload_n hx hb d_17_10_29 rfl (lv_at hl 4 rfl) ?_
  refine lv_iload_n hx hb d_17_10_30 rfl (lv_at hl 2 rfl) ?_
  refine kV (As := [.int 2]) (rest := [.int 0]) (wr := []) (c304_Poll_isIn l z a0 a1 a2 a3 a4 (u0.1 0)) hx hb hml hown hts w_2302 w_2299 w_2300 w_2301 w_36 md_2288df ⟨Nat.le_of_ble_eq_true rfl, Nat.le_of_ble_eq_true rfl⟩ hG hZ hP hD hS hA 0 rfl rfl rfl [0] [] rfl rfl rfl rfl rfl hl.1 rfl (Nat.le_of_ble_eq_true rfl) d_17_10_31 ⟨Nat.le_of_ble_eq_true rfl, Nat.le_of_ble_eq_true rfl⟩ (fun u18 H locs hP hD hS => ?_)
  have hP : va_P z.1 classes [(a0, .inr (14, [.ref a1, .int 0, .ref a2, .ref a3, .int 0, .ref a4, .ref (u0.1 0)]))] H := hP
  have hD : va_D A [(a0, .inr (14, [.ref a1, .int 0, .ref a2, .ref a3, .int 0, .ref a4, .ref (u0.1 0)]))] := hD
  refine W.eq (g2 := F0 m 34 ls [.int 0, .int 0]) rfl ?_
  refine lv_if_eq (tgt := 69) hx hb d_17_10_34 (by decide) (fun _ => ?_) (fun c9 => absurd (by decide +kernel) c9)
  refine lv_iconst (v := (-1)) hx hb d_17_10_69 (by decide +kernel) ?_
  refine lv_iand hx hb d_17_10_70 ?_
  refine nrm (x1 := 0) (by decide +kernel) ?_
  refine lv_istore_n (lv' := [(2, .int 0), (4, .int 1), (3, .int 2), (1, .ref (u0.1 0)), (0, .ref a0)]) hx hb d_17_10_71 rfl hl (by decide) rfl (fun ls hl => ?_)
  refine lv_iinc (v := 2) (lv' := [(4, .int 2), (2, .int 0), (3, .int 2), (1, .ref (u0.1 0)), (0, .ref a0)]) hx hb d_17_10_72 hl (k := 1) rfl (by decide +kernel) (by decide) rfl (fun ls hl => ?_)
  refine lv_goto (tgt := 21) hx hb d_17_10_75 (by decide) ?_
  refine lv_iload hx hb d_17_10_21 (lv_at hl 0 rfl) ?_
  refine lv_bipush (v := 8) hx hb d_17_10_23 (by decide +kernel) ?_
  refine lv_icmp_ge (tgt := 78) hx hb d_17_10_25 (by decide) (fun c9 => absurd c9 (by decide +kernel)) (fun _ => ?_)
  refine lv_iload_n hx hb d_17_10_28 rfl (lv_at hl 1 rfl) ?_
  refine lv_aload_n hx hb d_17_10_29 rfl (lv_at hl 4 rfl) ?_
  refine lv_iload_n hx hb d_17_10_30 rfl (lv_at hl 2 rfl) ?_
  refine kV (As := [.int 2]) (rest := [.int 0]) (wr := []) (c304_Poll_isIn l z a0 a1 a2 a3 a4 (u0.1 0)) hx hb hml hown hts w_2302 w_2299 w_2300 w_2301 w_36 md_2288df ⟨Nat.le_of_ble_eq_true rfl, Nat.le_of_ble_eq_true rfl⟩ hG hZ hP hD hS hA 0 rfl rfl rfl [0] [] rfl rfl rfl rfl rfl hl.1 rfl (Nat.le_of_ble_eq_true rfl) d_17_10_31 ⟨Nat.le_of_ble_eq_true rfl, Nat.le_of_ble_eq_true rfl⟩ (fun u19 H locs hP hD hS => ?_)
  have hP : va_P z.1 classes [(a0, .inr (14, [.ref a1, .int 0, .ref a2, .ref a3, .int 0, .ref a4, .ref (u0.1 0)]))] H := hP
  have hD : va_D A [(a0, .inr (14, [.ref a1, .int 0, .ref a2, .ref a3, .int 0, .ref a4, .ref (u0.1 0)]))] := hD
  refine W.eq (g2 := F0 m 34 ls [.int 0, .int 0]) rfl ?_
  refine lv_if_eq (tgt := 69) hx hb d_17_10_34 (by decide) (fun _ => ?_) (fun c9 => absurd (by decide +kernel) c9)
  refine lv_iconst (v := (-1)) hx hb d_17_10_69 (by decide +kernel) ?_
  refine lv_iand hx hb d_17_10_70 ?_
  refine nrm (x1 := 0) (by decide +kernel) ?_
  refine lv_istore_n (lv' := [(2, .int 0), (4, .int 2), (3, .int 2), (1, .ref (u0.1 0)), (0, .ref a0)]) hx hb d_17_10_71 rfl hl (by decide) rfl (fun ls hl => ?_)
  refine lv_iinc (v := 3) (lv' := [(4, .int 3), (2, .int 0), (3, .int 2), (1, .ref (u0.1 0)), (0, .ref a0)]) hx hb d_17_10_72 hl (k := 1) rfl (by decide +kernel) (by decide) rfl (fun ls hl => ?_)
  refine lv_goto (tgt := 21) hx hb d_17_10_75 (by decide) ?_
  refine lv_iload hx hb d_17_10_21 (lv_at hl 0 rfl) ?_
  refine lv_bipush (v := 8) hx hb d_17_10_23 (by decide +kernel) ?_
  refine lv_icmp_ge (tgt := 78) hx hb d_17_10_25 (by decide) (fun c9 => absurd c9 (by decide +kernel)) (fun _ => ?_)
  refine lv_iload_n hx hb d_17_10_28 rfl (lv_at hl 1 rfl) ?_
  refine lv_aload_n hx hb d_17_10_29 rfl (lv_at hl 4 rfl) ?_
  refine lv_iload_n hx hb d_17_10_30 rfl (lv_at hl 2 rfl) ?_
  refine kV (As := [.int 2]) (rest := [.int 0]) (wr := []) (c304_Poll_isIn l z a0 a1 a2 a3 a4 (u0.1 0)) hx hb hml hown hts w_2302 w_2299 w_2300 w_2301 w_36 md_2288df ⟨Nat.le_of_ble_eq_true rfl, Nat.le_of_ble_eq_true rfl⟩ hG hZ hP hD hS hA 0 rfl rfl rfl [0] [] rfl rfl rfl rfl rfl hl.1 rfl (Nat.le_of_ble_eq_true rfl) d_17_10_31 ⟨Nat.le_of_ble_eq_true rfl, Nat.le_of_ble_eq_true rfl⟩ (fun u20 H locs hP hD hS => ?_)
  have hP : va_P z.1 classes [(a0, .inr (14, [.ref a1, .int 0, .ref a2, .ref a3, .int 0, .ref a4, .ref (u0.1 0)]))] H := hP
  have hD : va_D A [(a0, .inr (14, [.ref a1, .int 0, .ref a2, .ref a3, .int 0, .ref a4, .ref (u0.1 0)]))] := hD
  refine W.eq (g2 := F0 m 34 ls [.int 0, .int 0]) rfl ?_
  refine lv_if_eq (tgt := 69) hx hb d_17_10_34 (by decide) (fun _ => ?_) (fun c9 => absurd (by decide +kernel) c9)
  refine lv_iconst (v := (-1)) hx hb d_17_10_69 (by decide +kernel) ?_
  refine lv_iand hx hb d_17_10_70 ?_
  refine nrm (x1 := 0) (by decide +kernel) ?_
  refine lv_istore_n (lv' := [(2, .int 0), (4, .int 3), (3, .int 2), (1, .ref (u0.1 0)), (0, .ref a0)]) hx hb d_17_10_71 rfl hl (by decide) rfl (fun ls hl => ?_)
  refine lv_iinc (v := 4) (lv' := [(4, .int 4), (2, .int 0), (3, .int 2), (1, .ref (u0.1 0)), (0, .ref a0)]) hx hb d_17_10_72 hl (k := 1) rfl (by decide +kernel) (by decide) rfl (fun ls hl => ?_)
  refine lv_goto (tgt := 21) hx hb d_17_10_75 (by decide) ?_
  refine lv_iload hx hb d_17_10_21 (lv_at hl 0 rfl) ?_
  refine lv_bipush (v := 8) hx hb d_17_10_23 (by decide +kernel) ?_
  refine lv_icmp_ge (tgt := 78) hx hb d_17_10_25 (by decide) (fun c9 => absurd c9 (by decide +kernel)) (fun _ => ?_)
  refine lv_iload_n hx hb d_17_10_28 rfl (lv_at hl 1 rfl) ?_
  refine lv_aload_n hx hb d_17_10_29 rfl (lv_at hl 4 rfl) ?_
  refine lv_iload_n hx hb d_17_10_30 rfl (lv_at hl 2 rfl) ?_
  refine kV (As := [.int 2]) (rest := [.int 0]) (wr := []) (c304_Poll_isIn l z a0 a1 a2 a3 a4 (u0.1 0)) hx hb hml hown hts w_2302 w_2299 w_2300 w_2301 w_36 md_2288df ⟨Nat.le_of_ble_eq_true rfl, Nat.le_of_ble_eq_true rfl⟩ hG hZ hP hD hS hA 0 rfl rfl rfl [0] [] rfl rfl rfl rfl rfl hl.1 rfl (Nat.le_of_ble_eq_true rfl) d_17_10_31 ⟨Nat.le_of_ble_eq_true rfl, Nat.le_of_ble_eq_true rfl⟩ (fun u21 H locs hP hD hS => ?_)
  have hP : va_P z.1 classes [(a0, .inr (14, [.ref a1, .int 0, .ref a2, .ref a3, .int 0, .ref a4, .ref (u0.1 0)]))] H := hP
  have hD : va_D A [(a0, .inr (14, [.ref a1, .int 0, .ref a2, .ref a3, .int 0, .ref a4, .ref (u0.1 0)]))] := hD
  refine W.eq (g2 := F0 m 34 ls [.int 0, .int 0]) rfl ?_
  refine lv_if_eq (tgt := 69) hx hb d_17_10_34 (by decide) (fun _ => ?_) (fun c9 => absurd (by decide +kernel) c9)
  refine lv_iconst (v := (-1)) hx hb d_17_10_69 (by decide +kernel) ?_
  refine lv_iand hx hb d_17_10_70 ?_
  refine nrm (x1 := 0) (by decide +kernel) ?_
  refine lv_istore_n (lv' := [(2, .int 0), (4, .int 4), (3, .int 2), (1, .ref (u0.1 0)), (0, .ref a0)]) hx hb d_17_10_71 rfl hl (by decide) rfl (fun ls hl => ?_)
  refine lv_iinc (v := 5) (lv' := [(4, .int 5), (2, .int 0), (3, .int 2), (1, .ref (u0.1 0)), (0, .ref a0)]) hx hb d_17_10_72 hl (k := 1) rfl (by decide +kernel) (by decide) rfl (fun ls hl => ?_)
  refine lv_goto (tgt := 21) hx hb d_17_10_75 (by decide) ?_
  refine lv_iload hx hb d_17_10_21 (lv_at hl 0 rfl) ?_
  refine lv_bipush (v := 8) hx hb d_17_10_23 (by decide +kernel) ?_
  refine lv_icmp_ge (tgt := 78) hx hb d_17_10_25 (by decide) (fun c9 => absurd c9 (by decide +kernel)) (fun _ => ?_)
  refine lv_iload_n hx hb d_17_10_28 rfl (lv_at hl 1 rfl) ?_
  refine lv_aload_n hx hb d_17_10_29 rfl (lv_at hl 4 rfl) ?_
  refine lv_iload_n hx hb d_17_10_30 rfl (lv_at hl 2 rfl) ?_
  refine kV (As := [.int 2]) (rest := [.int 0]) (wr := []) (c304_Poll_isIn l z a0 a1 a2 a3 a4 (u0.1 0)) hx hb hml hown hts w_2302 w_2299 w_2300 w_2301 w_36 md_2288df ⟨Nat.le_of_ble_eq_true rfl, Nat.le_of_ble_eq_true rfl⟩ hG hZ hP hD hS hA 0 rfl rfl rfl [0] [] rfl rfl rfl rfl rfl hl.1 rfl (Nat.le_of_ble_eq_true rfl) d_17_10_31 ⟨Nat.le_of_ble_eq_true rfl, Nat.le_of_ble_eq_true rfl⟩ (fun u22 H locs hP hD hS => ?_)
  have hP : va_P z.1 classes [(a0, .inr (14, [.ref a1, .int 0, .ref a2, .ref a3, .int 0, .ref a4, .ref (u0.1 0)]))] H := hP
  have hD : va_D A [(a0, .inr (14, [.ref a1, .int 0, .ref a2, .ref a3, .int 0, .ref a4, .ref (u0.1 0)]))] := hD
  refine W.eq (g2 := F0 m 34 ls [.int 0, .int 0]) rfl ?_
  refine lv_if_eq (tgt := 69) hx hb d_17_10_34 (by decide) (fun _ => ?_) (fun c9 => absurd (by decide +kernel) c9)
  refine lv_iconst (v := (-1)) hx hb d_17_10_69 (by decide +kernel) ?_
  refine lv_iand hx hb d_17_10_70 ?_
  refine nrm (x1 := 0) (by decide +kernel) ?_
  refine lv_istore_n (lv' := [(2, .int 0), (4, .int 5), (3, .int 2), (1, .ref (u0.1 0)), (0, .ref a0)]) hx hb d_17_10_71 rfl hl (by decide) rfl (fun ls hl => ?_)
  refine lv_iinc (v := 6) (lv' := [(4, .int 6), (2, .int 0), (3, .int 2), (1, .ref (u0.1 0)), (0, .ref a0)]) hx hb d_17_10_72 hl (k := 1) rfl (by decide +kernel) (by decide) rfl (fun ls hl => ?_)
  refine lv_goto (tgt := 21) hx hb d_17_10_75 (by decide) ?_
  refine lv_iload hx hb d_17_10_21 (lv_at hl 0 rfl) ?_
  refine lv_bipush (v := 8) hx hb d_17_10_23 (by decide +kernel) ?_
  refine lv_icmp_ge (tgt := 78) hx hb d_17_10_25 (by decide) (fun c9 => absurd c9 (by decide +kernel)) (fun _ => ?_)
  refine lv_iload_n hx hb d_17_10_28 rfl (lv_at hl 1 rfl) ?_
  refine lv_aload_n hx hb d_17_10_29 rfl (lv_at hl 4 rfl) ?_
  refine lv_iload_n hx hb d_17_10_30 rfl (lv_at hl 2 rfl) ?_
  refine kV (As := [.int 2]) (rest := [.int 0]) (wr := []) (c304_Poll_isIn l z a0 a1 a2 a3 a4 (u0.1 0)) hx hb hml hown hts w_2302 w_2299 w_2300 w_2301 w_36 md_2288df ⟨Nat.le_of_ble_eq_true rfl, Nat.le_of_ble_eq_true rfl⟩ hG hZ hP hD hS hA 0 rfl rfl rfl [0] [] rfl rfl rfl rfl rfl hl.1 rfl (Nat.le_of_ble_eq_true rfl) d_17_10_31 ⟨Nat.le_of_ble_eq_true rfl, Nat.le_of_ble_eq_true rfl⟩ (fun u23 H locs hP hD hS => ?_)
  have hP : va_P z.1 classes [(a0, .inr (14, [.ref a1, .int 0, .ref a2, .ref a3, .int 0, .ref a4, .ref (u0.1 0)]))] H := hP
  have hD : va_D A [(a0, .inr (14, [.ref a1, .int 0, .ref a2, .ref a3, .int 0, .ref a4, .ref (u0.1 0)]))] := hD
  refine W.eq (g2 := F0 m 34 ls [.int 0, .int 0]) rfl ?_
  refine lv_if_eq (tgt := 69) hx hb d_17_10_34 (by decide) (fun _ => ?_) (fun c9 => absurd (by decide +kernel) c9)
  refine lv_iconst (v := (-1)) hx hb d_17_10_69 (by decide +kernel) ?_
  refine lv_iand hx hb d_17_10_70 ?_
  refine nrm (x1 := 0) (by decide +kernel) ?_
  refine lv_istore_n (lv' := [(2, .int 0), (4, .int 6), (3, .int 2), (1, .ref (u0.1 0)), (0, .ref a0)]) hx hb d_17_10_71 rfl hl (by decide) rfl (fun ls hl => ?_)
  refine lv_iinc (v := 7) (lv' := [(4, .int 7), (2, .int 0), (3, .int 2), (1, .ref (u0.1 0)), (0, .ref a0)]) hx hb d_17_10_72 hl (k := 1) rfl (by decide +kernel) (by decide) rfl (fun ls hl => ?_)
  refine lv_goto (tgt := 21) hx hb d_17_10_75 (by decide) ?_
  refine lv_iload hx hb d_17_10_21 (lv_at hl 0 rfl) ?_
  refine lv_bipush (v := 8) hx hb d_17_10_23 (by decide +kernel) ?_
  refine lv_icmp_ge (tgt := 78) hx hb d_17_10_25 (by decide) (fun c9 => absurd c9 (by decide +kernel)) (fun _ => ?_)
  refine lv_iload_n hx hb d_17_10_28 rfl (lv_at hl 1 rfl) ?_
  refine lv_aload_n hx hb d_17_10_29 rfl (lv_at hl 4 rfl) ?_
  refine lv_iload_n hx hb d_17_10_30 rfl (lv_at hl 2 rfl) ?_
  refine kV (As := [.int 2]) (rest := [.int 0]) (wr := []) (c304_Poll_isIn l z a0 a1 a2 a3 a4 (u0.1 0)) hx hb hml hown hts w_2302 w_2299 w_2300 w_2301 w_36 md_2288df ⟨Nat.le_of_ble_eq_true rfl, Nat.le_of_ble_eq_true rfl⟩ hG hZ hP hD hS hA 0 rfl rfl rfl [0] [] rfl rfl rfl rfl rfl hl.1 rfl (Nat.le_of_ble_eq_true rfl) d_17_10_31 ⟨Nat.le_of_ble_eq_true rfl, Nat.le_of_ble_eq_true rfl⟩ (fun u24 H locs hP hD hS => ?_)
  have hP : va_P z.1 classes [(a0, .inr (14, [.ref a1, .int 0, .ref a2, .ref a3, .int 0, .ref a4, .ref (u0.1 0)]))] H := hP
  have hD : va_D A [(a0, .inr (14, [.ref a1, .int 0, .ref a2, .ref a3, .int 0, .ref a4, .ref (u0.1 0)]))] := hD
  refine W.eq (g2 := F0 m 34 ls [.int 0, .int 0]) rfl ?_
  refine lv_if_eq (tgt := 69) hx hb d_17_10_34 (by decide) (fun _ => ?_) (fun c9 => absurd (by decide +kernel) c9)
  refine lv_iconst (v := (-1)) hx hb d_17_10_69 (by decide +kernel) ?_
  refine lv_iand hx hb d_17_10_70 ?_
  refine nrm (x1 := 0) (by decide +kernel) ?_
  refine lv_istore_n (lv' := [(2, .int 0), (4, .int 7), (3, .int 2), (1, .ref (u0.1 0)), (0, .ref a0)]) hx hb d_17_10_71 rfl hl (by decide) rfl (fun ls hl => ?_)
  refine lv_iinc (v := 8) (lv' := [(4, .int 8), (2, .int 0), (3, .int 2), (1, .ref (u0.1 0)), (0, .ref a0)]) hx hb d_17_10_72 hl (k := 1) rfl (by decide +kernel) (by decide) rfl (fun ls hl => ?_)
  refine lv_goto (tgt := 21) hx hb d_17_10_75 (by decide) ?_
  refine lv_iload hx hb d_17_10_21 (lv_at hl 0 rfl) ?_
  refine lv_bipush (v := 8) hx hb d_17_10_23 (by decide +kernel) ?_
  refine lv_icmp_ge (tgt := 78) hx hb d_17_10_25 (by decide) (fun _ => ?_) (fun c9 => absurd (by decide +kernel) c9)
  refine lv_iinc (v := 3) (lv' := [(3, .int 3), (4, .int 8), (2, .int 0), (1, .ref (u0.1 0)), (0, .ref a0)]) hx hb d_17_10_78 hl (k := 2) rfl (by decide +kernel) (by decide) rfl (fun ls hl => ?_)
  refine lv_goto (tgt := 12) hx hb d_17_10_81 (by decide) ?_
  refine lv_iload_n hx hb d_17_10_12 rfl (lv_at hl 0 rfl) ?_
  refine lv_bipush (v := 8) hx hb d_17_10_13 (by decide +kernel) ?_
  refine lv_icmp_ge (tgt := 84) hx hb d_17_10_15 (by decide) (fun c9 => absurd c9 (by decide +kernel)) (fun _ => ?_)
  refine lv_iconst (v := 0) hx hb d_17_10_18 (by decide +kernel) ?_
  refine lv_istore (lv' := [(4, .int 0), (3, .int 3), (2, .int 0), (1, .ref (u0.1 0)), (0, .ref a0)]) hx hb d_17_10_19 hl (by decide) rfl (fun ls hl => ?_)
  refine lv_iload hx hb d_17_10_21 (lv_at hl 0 rfl) ?_
  refine lv_bipush (v := 8) hx hb d_17_10_23 (by decide +kernel) ?_
  refine lv_icmp_ge (tgt := 78) hx hb d_17_10_25 (by decide) (fun c9 => absurd c9 (by decide +kernel)) (fun _ => ?_)
  refine lv_iload_n hx hb d_17_10_28 rfl (lv_at hl 2 rfl) ?_
  refine lv_aload_n hx hb d_17_10_29 rfl (lv_at hl 4 rfl) ?_
  refine lv_iload_n hx hb d_17_10_30 rfl (lv_at hl 1 rfl) ?_
  refine kV (As := [.int 3]) (rest := [.int 0]) (wr := []) (c305_Poll_isIn l z a0 a1 a2 a3 a4 (u0.1 0)) hx hb hml hown hts w_2302 w_2299 w_2300 w_2301 w_36 md_2288df ⟨Nat.le_of_ble_eq_true rfl, Nat.le_of_ble_eq_true rfl⟩ hG hZ hP hD hS hA 0 rfl rfl rfl [0] [] rfl rfl rfl rfl rfl hl.1 rfl (Nat.le_of_ble_eq_true rfl) d_17_10_31 ⟨Nat.le_of_ble_eq_true rfl, Nat.le_of_ble_eq_true rfl⟩ (fun u25 H locs hP hD hS => ?_)
  have hP : va_P z.1 classes [(a0, .inr (14, [.ref a1, .int 0, .ref a2, .ref a3, .int 0, .ref a4, .ref (u0.1 0)]))] H := hP
  have hD : va_D A [(a0, .inr (14, [.ref a1, .int 0, .ref a2, .ref a3, .int 0, .ref a4, .ref (u0.1 0)]))] := hD
  refine W.eq (g2 := F0 m 34 ls [.int 0, .int 0]) rfl ?_
  refine lv_if_eq (tgt := 69) hx hb d_17_10_34 (by decide) (fun _ => ?_) (fun c9 => absurd (by decide +kernel) c9)
  refine lv_iconst (v := (-1)) hx hb d_17_10_69 (by decide +kernel) ?_
  refine lv_iand hx hb d_17_10_70 ?_
  refine nrm (x1 := 0) (by decide +kernel) ?_
  refine lv_istore_n (lv' := [(2, .int 0), (4, .int 0), (3, .int 3), (1, .ref (u0.1 0)), (0, .ref a0)]) hx hb d_17_10_71 rfl hl (by decide) rfl (fun ls hl => ?_)
  refine lv_iinc (v := 1) (lv' := [(4, .int 1), (2, .int 0), (3, .int 3), (1, .ref (u0.1 0)), (0, .ref a0)]) hx hb d_17_10_72 hl (k := 1) rfl (by decide +kernel) (by decide) rfl (fun ls hl => ?_)
  refine lv_goto (tgt := 21) hx hb d_17_10_75 (by decide) ?_
  refine lv_iload hx hb d_17_10_21 (lv_at hl 0 rfl) ?_
  refine lv_bipush (v := 8) hx hb d_17_10_23 (by decide +kernel) ?_
  refine lv_icmp_ge (tgt := 78) hx hb d_17_10_25 (by decide) (fun c9 => absurd c9 (by decide +kernel)) (fun _ => ?_)
  refine lv_iload_n hx hb d_17_10_28 rfl (lv_at hl 1 rfl) ?_
  refine lv_aload_n hx hb d_17_10_29 rfl (lv_at hl 4 rfl) ?_
  refine lv_iload_n hx hb d_17_10_30 rfl (lv_at hl 2 rfl) ?_
  refine kV (As := [.int 3]) (rest := [.int 0]) (wr := []) (c305_Poll_isIn l z a0 a1 a2 a3 a4 (u0.1 0)) hx hb hml hown hts w_2302 w_2299 w_2300 w_2301 w_36 md_2288df ⟨Nat.le_of_ble_eq_true rfl, Nat.le_of_ble_eq_true rfl⟩ hG hZ hP hD hS hA 0 rfl rfl rfl [0] [] rfl rfl rfl rfl rfl hl.1 rfl (Nat.le_of_ble_eq_true rfl) d_17_10_31 ⟨Nat.le_of_ble_eq_true rfl, Nat.le_of_ble_eq_true rfl⟩ (fun u26 H locs hP hD hS => ?_)
  have hP : va_P z.1 classes [(a0, .inr (14, [.ref a1, .int 0, .ref a2, .ref a3, .int 0, .ref a4, .ref (u0.1 0)]))] H := hP
  have hD : va_D A [(a0, .inr (14, [.ref a1, .int 0, .ref a2, .ref a3, .int 0, .ref a4, .ref (u0.1 0)]))] := hD
  refine W.eq (g2 := F0 m 34 ls [.int 0, .int 0]) rfl ?_
  refine lv_if_eq (tgt := 69) hx hb d_17_10_34 (by decide) (fun _ => ?_) (fun c9 => absurd (by decide +kernel) c9)
  refine lv_iconst (v := (-1)) hx hb d_17_10_69 (by decide +kernel) ?_
  refine lv_iand hx hb d_17_10_70 ?_
  refine nrm (x1 := 0) (by decide +kernel) ?_
  refine lv_istore_n (lv' := [(2, .int 0), (4, .int 1), (3, .int 3), (1, .ref (u0.1 0)), (0, .ref a0)]) hx hb d_17_10_71 rfl hl (by decide) rfl (fun ls hl => ?_)
  refine lv_iinc (v := 2) (lv' := [(4, .int 2), (2, .int 0), (3, .int 3), (1, .ref (u0.1 0)), (0, .ref a0)]) hx hb d_17_10_72 hl (k := 1) rfl (by decide +kernel) (by decide) rfl (fun ls hl => ?_)
  refine lv_goto (tgt := 21) hx hb d_17_10_75 (by decide) ?_
  refine lv_iload hx hb d_17_10_21 (lv_at hl 0 rfl) ?_
  refine lv_bipush (v := 8) hx hb d_17_10_23 (by decide +kernel) ?_
  refine lv_icmp_ge (tgt := 78) hx hb d_17_10_25 (by decide) (fun c9 => absurd c9 (by decide +kernel)) (fun _ => ?_)
  refine lv_iload_n hx hb d_17_10_28 rfl (lv_at hl 1 rfl) ?_
  refine lv_aload_n hx hb d_17_10_29 rfl (lv_at hl 4 rfl) ?_
  refine lv_iload_n hx hb d_17_10_30 rfl (lv_at hl 2 rfl) ?_
  refine kV (As := [.int 3]) (rest := [.int 0]) (wr := []) (c305_Poll_isIn l z a0 a1 a2 a3 a4 (u0.1 0)) hx hb hml hown hts w_2302 w_2299 w_2300 w_2301 w_36 md_2288df ⟨Nat.le_of_ble_eq_true rfl, Nat.le_of_ble_eq_true rfl⟩ hG hZ hP hD hS hA 0 rfl rfl rfl [0] [] rfl rfl rfl rfl rfl hl.1 rfl (Nat.le_of_ble_eq_true rfl) d_17_10_31 ⟨Nat.le_of_ble_eq_true rfl, Nat.le_of_ble_eq_true rfl⟩ (fun u27 H locs hP hD hS => ?_)
  have hP : va_P z.1 classes [(a0, .inr (14, [.ref a1, .int 0, .ref a2, .ref a3, .int 0, .ref a4, .ref (u0.1 0)]))] H := hP
  have hD : va_D A [(a0, .inr (14, [.ref a1, .int 0, .ref a2, .ref a3, .int 0, .ref a4, .ref (u0.1 0)]))] := hD
  refine W.eq (g2 := F0 m 34 ls [.int 0, .int 0]) rfl ?_
  refine lv_if_eq (tgt := 69) hx hb d_17_10_34 (by decide) (fun _ => ?_) (fun c9 => absurd (by decide +kernel) c9)
  refine lv_iconst (v := (-1)) hx hb d_17_10_69 (by decide +kernel) ?_
  refine lv_iand hx hb d_17_10_70 ?_
  refine nrm (x1 := 0) (by decide +kernel) ?_
  refine lv_istore_n (lv' := [(2, .int 0), (4, .int 2), (3, .int 3), (1, .ref (u0.1 0)), (0, .ref a0)]) hx hb d_17_10_71 rfl hl (by decide) rfl (fun ls hl => ?_)
  refine lv_iinc (v := 3) (lv' := [(4, .int 3), (2, .int 0), (3, .int 3), (1, .ref (u0.1 0)), (0, .ref a0)]) hx hb d_17_10_72 hl (k := 1) rfl (by decide +kernel) (by decide) rfl (fun ls hl => ?_)
  refine lv_goto (tgt := 21) hx hb d_17_10_75 (by decide) ?_
  refine lv_iload hx hb d_17_10_21 (lv_at hl 0 rfl) ?_
  refine lv_bipush (v := 8) hx hb d_17_10_23 (by decide +kernel) ?_
  refine lv_icmp_ge (tgt := 78) hx hb d_17_10_25 (by decide) (fun c9 => absurd c9 (by decide +kernel)) (fun _ => ?_)
  refine lv_iload_n hx hb d_17_10_28 rfl (lv_at hl 1 rfl) ?_
  refine lv_aload_n hx hb d_17_10_29 rfl (lv_at hl 4 rfl) ?_
  refine lv_iload_n hx hb d_17_10_30 rfl (lv_at hl 2 rfl) ?_
  refine kV (As := [.int 3]) (rest := [.int 0]) (wr := []) (c305_Poll_isIn l z a0 a1 a2 a3 a4 (u0.1 0)) hx hb hml hown hts w_2302 w_2299 w_2300 w_2301 w_36 md_2288df ⟨Nat.le_of_ble_eq_true rfl, Nat.le_of_ble_eq_true rfl⟩ hG hZ hP hD hS hA 0 rfl rfl rfl [0] [] rfl rfl rfl rfl rfl hl.1 rfl (Nat.le_of_ble_eq_true rfl) d_17_10_31 ⟨Nat.le_of_ble_eq_true rfl, Nat.le_of_ble_eq_true rfl⟩ (fun u28 H locs hP hD hS => ?_)
  have hP : va_P z.1 classes [(a0, .inr (14, [.ref a1, .int 0, .ref a2, .ref a3, .int 0, .ref a4, .ref (u0.1 0)]))] H := hP
  have hD : va_D A [(a0, .inr (14, [.ref a1, .int 0, .ref a2, .ref a3, .int 0, .ref a4, .ref (u0.1 0)]))] := hD
  refine W.eq (g2 := F0 m 34 ls [.int 0, .int 0]) rfl ?_
  refine lv_if_eq (tgt := 69) hx hb d_17_10_34 (by decide) (fun _ => ?_) (fun c9 => absurd (by decide +kernel) c9)
  refine lv_iconst (v := (-1)) hx hb d_17_10_69 (by decide +kernel) ?_
  refine lv_iand hx hb d_17_10_70 ?_
  refine nrm (x1 := 0) (by decide +kernel) ?_
  refine lv_istore_n (lv' := [(2, .int 0), (4, .int 3), (3, .int 3), (1, .ref (u0.1 0)), (0, .ref a0)]) hx hb d_17_10_71 rfl hl (by decide) rfl (fun ls hl => ?_)
  refine lv_iinc (v := 4) (lv' := [(4, .int 4), (2, .int 0), (3, .int 3), (1, .ref (u0.1 0)), (0, .ref a0)]) hx hb d_17_10_72 hl (k := 1) rfl (by decide +kernel) (by decide) rfl (fun ls hl => ?_)
  refine lv_goto (tgt := 21) hx hb d_17_10_75 (by decide) ?_
  refine lv_iload hx hb d_17_10_21 (lv_at hl 0 rfl) ?_
  refine lv_bipush (v := 8) hx hb d_17_10_23 (by decide +kernel) ?_
  refine lv_icmp_ge (tgt := 78) hx hb d_17_10_25 (by decide) (fun c9 => absurd c9 (by decide +kernel)) (fun _ => ?_)
  refine lv_iload_n hx hb d_17_10_28 rfl (lv_at hl 1 rfl) ?_
  refine lv_aload_n hx hb d_17_10_29 rfl (lv_at hl 4 rfl) ?_
  refine lv_iload_n hx hb d_17_10_30 rfl (lv_at hl 2 rfl) ?_
  refine kV (As := [.int 3]) (rest := [.int 0]) (wr := []) (c305_Poll_isIn l z a0 a1 a2 a3 a4 (u0.1 0)) hx hb hml hown hts w_2302 w_2299 w_2300 w_2301 w_36 md_2288df ⟨Nat.le_of_ble_eq_true rfl, Nat.le_of_ble_eq_true rfl⟩ hG hZ hP hD hS hA 0 rfl rfl rfl [0] [] rfl rfl rfl rfl rfl hl.1 rfl (Nat.le_of_ble_eq_true rfl) d_17_10_31 ⟨Nat.le_of_ble_eq_true rfl, Nat.le_of_ble_eq_true rfl⟩ (fun u29 H locs hP hD hS => ?_)
  have hP : va_P z.1 classes [(a0, .inr (14, [.ref a1, .int 0, .ref a2, .ref a3, .int 0, .ref a4, .ref (u0.1 0)]))] H := hP
  have hD : va_D A [(a0, .inr (14, [.ref a1, .int 0, .ref a2, .ref a3, .int 0, .ref a4, .ref (u0.1 0)]))] := hD
  refine W.eq (g2 := F0 m 34 ls [.int 0, .int 0]) rfl ?_
  refine lv_if_eq (tgt := 69) hx hb d_17_10_34 (by decide) (fun _ => ?_) (fun c9 => absurd (by decide +kernel) c9)
  refine lv_iconst (v := (-1)) hx hb d_17_10_69 (by decide +kernel) ?_
  refine lv_iand hx hb d_17_10_70 ?_
  refine nrm (x1 := 0) (by decide +kernel) ?_
  refine lv_istore_n (lv' := [(2, .int 0), (4, .int 4), (3, .int 3), (1, .ref (u0.1 0)), (0, .ref a0)]) hx hb d_17_10_71 rfl hl (by decide) rfl (fun ls hl => ?_)
  refine lv_iinc (v := 5) (lv' := [(4, .int 5), (2, .int 0), (3, .int 3), (1, .ref (u0.1 0)), (0, .ref a0)]) hx hb d_17_10_72 hl (k := 1) rfl (by decide +kernel) (by decide) rfl (fun ls hl => ?_)
  refine lv_goto (tgt := 21) hx hb d_17_10_75 (by decide) ?_
  refine lv_iload hx hb d_17_10_21 (lv_at hl 0 rfl) ?_
  refine lv_bipush (v := 8) hx hb d_17_10_23 (by decide +kernel) ?_
  refine lv_icmp_ge (tgt := 78) hx hb d_17_10_25 (by decide) (fun c9 => absurd c9 (by decide +kernel)) (fun _ => ?_)
  refine lv_iload_n hx hb d_17_10_28 rfl (lv_at hl 1 rfl) ?_
  refine lv_aload_n hx hb d_17_10_29 rfl (lv_at hl 4 rfl) ?_
  refine lv_iload_n hx hb d_17_10_30 rfl (lv_at hl 2 rfl) ?_
  refine kV (As := [.int 3]) (rest := [.int 0]) (wr := []) (c305_Poll_isIn l z a0 a1 a2 a3 a4 (u0.1 0)) hx hb hml hown hts w_2302 w_2299 w_2300 w_2301 w_36 md_2288df ⟨Nat.le_of_ble_eq_true rfl, Nat.le_of_ble_eq_true rfl⟩ hG hZ hP hD hS hA 0 rfl rfl rfl [0] [] rfl rfl rfl rfl rfl hl.1 rfl (Nat.le_of_ble_eq_true rfl) d_17_10_31 ⟨Nat.le_of_ble_eq_true rfl, Nat.le_of_ble_eq_true rfl⟩ (fun u30 H locs hP hD hS => ?_)
  have hP : va_P z.1 classes [(a0, .inr (14, [.ref a1, .int 0, .ref a2, .ref a3, .int 0, .ref a4, .ref (u0.1 0)]))] H := hP
  have hD : va_D A [(a0, .inr (14, [.ref a1, .int 0, .ref a2, .ref a3, .int 0, .ref a4, .ref (u0.1 0)]))] := hD
  refine W.eq (g2 := F0 m 34 ls [.int 0, .int 0]) rfl ?_
  refine lv_if_eq (tgt := 69) hx hb d_17_10_34 (by decide) (fun _ => ?_) (fun c9 => absurd (by decide +kernel) c9)
  refine lv_iconst (v := (-1)) hx hb d_17_10_69 (by decide +kernel) ?_
  refine lv_iand hx hb d_17_10_70 ?_
  refine nrm (x1 := 0) (by decide +kernel) ?_
  refine lv_istore_n (lv' := [(2, .int 0), (4, .int 5), (3, .int 3), (1, .ref (u0.1 0)), (0, .ref a0)]) hx hb d_17_10_71 rfl hl (by decide) rfl (fun ls hl => ?_)
  refine lv_iinc (v := 6) (lv' := [(4, .int 6), (2, .int 0), (3, .int 3), (1, .ref (u0.1 0)), (0, .ref a0)]) hx hb d_17_10_72 hl (k := 1) rfl (by decide +kernel) (by decide) rfl (fun ls hl => ?_)
  refine lv_goto (tgt := 21) hx hb d_17_10_75 (by decide) ?_
  refine lv_iload hx hb d_17_10_21 (lv_at hl 0 rfl) ?_
  refine lv_bipush (v := 8) hx hb d_17_10_23 (by decide +kernel) ?_
  refine lv_icmp_ge (tgt := 78) hx hb d_17_10_25 (by decide) (fun c9 => absurd c9 (by decide +kernel)) (fun _ => ?_)
  refine lv_iload_n hx hb d_17_10_28 rfl (lv_at hl 1 rfl) ?_
  refine lv_aload_n hx hb d_17_10_29 rfl (lv_at hl 4 rfl) ?_
  refine lv_iload_n hx hb d_17_10_30 rfl (lv_at hl 2 rfl) ?_
  refine kV (As := [.int 3]) (rest := [.int 0]) (wr := []) (c305_Poll_isIn l z a0 a1 a2 a3 a4 (u0.1 0)) hx hb hml hown hts w_2302 w_2299 w_2300 w_2301 w_36 md_2288df ⟨Nat.le_of_ble_eq_true rfl, Nat.le_of_ble_eq_true rfl⟩ hG hZ hP hD hS hA 0 rfl rfl rfl [0] [] rfl rfl rfl rfl rfl hl.1 rfl (Nat.le_of_ble_eq_true rfl) d_17_10_31 ⟨Nat.le_of_ble_eq_true rfl, Nat.le_of_ble_eq_true rfl⟩ (fun u31 H locs hP hD hS => ?_)
  have hP : va_P z.1 classes [(a0, .inr (14, [.ref a1, .int 0, .ref a2, .ref a3, .int 0, .ref a4, .ref (u0.1 0)]))] H := hP
  have hD : va_D A [(a0, .inr (14, [.ref a1, .int 0, .ref a2, .ref a3, .int 0, .ref a4, .ref (u0.1 0)]))] := hD
  refine W.eq (g2 := F0 m 34 ls [.int 0, .int 0]) rfl ?_
  refine lv_if_eq (tgt := 69) hx hb d_17_10_34 (by decide) (fun _ => ?_) (fun c9 => absurd (by decide +kernel) c9)
  refine lv_iconst (v := (-1)) hx hb d_17_10_69 (by decide +kernel) ?_
  refine lv_iand hx hb d_17_10_70 ?_
  refine nrm (x1 := 0) (by decide +kernel) ?_
  refine lv_istore_n (lv' := [(2, .int 0), (4, .int 6), (3, .int 3), (1, .ref (u0.1 0)), (0, .ref a0)]) hx hb d_17_10_71 rfl hl (by decide) rfl (fun ls hl => ?_)
  refine lv_iinc (v := 7) (lv' := [(4, .int 7), (2, .int 0), (3, .int 3), (1, .ref (u0.1 0)), (0, .ref a0)]) hx hb d_17_10_72 hl (k := 1) rfl (by decide +kernel) (by decide) rfl (fun ls hl => ?_)
  refine lv_goto (tgt := 21) hx hb d_17_10_75 (by decide) ?_
  refine lv_iload hx hb d_17_10_21 (lv_at hl 0 rfl) ?_
  refine lv_bipush (v := 8) hx hb d_17_10_23 (by decide +kernel) ?_
  refine lv_icmp_ge (tgt := 78) hx hb d_17_10_25 (by decide) (fun c9 => absurd c9 (by decide +kernel)) (fun _ => ?_)
  refine lv_iload_n hx hb d_17_10_28 rfl (lv_at hl 1 rfl) ?_
  refine lv_aload_n hx hb d_17_10_29 rfl (lv_at hl 4 rfl) ?_
  refine lv_iload_n hx hb d_17_10_30 rfl (lv_at hl 2 rfl) ?_
  refine kV (As := [.int 3]) (rest := [.int 0]) (wr := []) (c305_Poll_isIn l z a0 a1 a2 a3 a4 (u0.1 0)) hx hb hml hown hts w_2302 w_2299 w_2300 w_2301 w_36 md_2288df ⟨Nat.le_of_ble_eq_true rfl, Nat.le_of_ble_eq_true rfl⟩ hG hZ hP hD hS hA 0 rfl rfl rfl [0] [] rfl rfl rfl rfl rfl hl.1 rfl (Nat.le_of_ble_eq_true rfl) d_17_10_31 ⟨Nat.le_of_ble_eq_true rfl, Nat.le_of_ble_eq_true rfl⟩ (fun u32 H locs hP hD hS => ?_)
  have hP : va_P z.1 classes [(a0, .inr (14, [.ref a1, .int 0, .ref a2, .ref a3, .int 0, .ref a4, .ref (u0.1 0)]))] H := hP
  have hD : va_D A [(a0, .inr (14, [.ref a1, .int 0, .ref a2, .ref a3, .int 0, .ref a4, .ref (u0.1 0)]))] := hD
  refine W.eq (g2 := F0 m 34 ls [.int 0, .int 0]) rfl ?_
  refine lv_if_eq (tgt := 69) hx hb d_17_10_34 (by decide) (fun _ => ?_) (fun c9 => absurd (by decide +kernel) c9)
  refine lv_iconst (v := (-1)) hx hb d_17_10_69 (by decide +kernel) ?_
  refine lv_iand hx hb d_17_10_70 ?_
  refine nrm (x1 := 0) (by decide +kernel) ?_
  refine lv_istore_n (lv' := [(2, .int 0), (4, .int 7), (3, .int 3), (1, .ref (u0.1 0)), (0, .ref a0)]) hx hb d_17_10_71 rfl hl (by decide) rfl (fun ls hl => ?_)
  refine lv_iinc (v := 8) (lv' := [(4, .int 8), (2, .int 0), (3, .int 3), (1, .ref (u0.1 0)), (0, .ref a0)]) hx hb d_17_10_72 hl (k := 1) rfl (by decide +kernel) (by decide) rfl (fun ls hl => ?_)
  refine lv_goto (tgt := 21) hx hb d_17_10_75 (by decide) ?_
  refine lv_iload hx hb d_17_10_21 (lv_at hl 0 rfl) ?_
  refine lv_bipush (v := 8) hx hb d_17_10_23 (by decide +kernel) ?_
  refine lv_icmp_ge (tgt := 78) hx hb d_17_10_25 (by decide) (fun _ => ?_) (fun c9 => absurd (by decide +kernel) c9)
  refine lv_iinc (v := 4) (lv' := [(3, .int 4), (4, .int 8), (2, .int 0), (1, .ref (u0.1 0)), (0, .ref a0)]) hx hb d_17_10_78 hl (k := 2) rfl (by decide +kernel) (by decide) rfl (fun ls hl => ?_)
  refine lv_goto (tgt := 12) hx hb d_17_10_81 (by decide) ?_
  refine lv_iload_n hx hb d_17_10_12 rfl (lv_at hl 0 rfl) ?_
  refine lv_bipush (v := 8) hx hb d_17_10_13 (by decide +kernel) ?_
  refine lv_icmp_ge (tgt := 84) hx hb d_17_10_15 (by decide) (fun c9 => absurd c9 (by decide +kernel)) (fun _ => ?_)
  refine lv_iconst (v := 0) hx hb d_17_10_18 (by decide +kernel) ?_
  refine lv_istore (lv' := [(4, .int 0), (3, .int 4), (2, .int 0), (1, .ref (u0.1 0)), (0, .ref a0)]) hx hb d_17_10_19 hl (by decide) rfl (fun ls hl => ?_)
  refine lv_iload hx hb d_17_10_21 (lv_at hl 0 rfl) ?_
  refine lv_bipush (v := 8) hx hb d_17_10_23 (by decide +kernel) ?_
  refine lv_icmp_ge (tgt := 78) hx hb d_17_10_25 (by decide) (fun c9 => absurd c9 (by decide +kernel)) (fun _ => ?_)
  refine lv_iload_n hx hb d_17_10_28 rfl (lv_at hl 2 rfl) ?_
  refine lv_aload_n hx hb d_17_10_29 rfl (lv_at hl 4 rfl) ?_
  refine lv_iload_n hx hb d_17_10_30 rfl (lv_at hl 1 rfl) ?_
  refine kV (As := [.int 4]) (rest := [.int 0]) (wr := []) (c306_Poll_isIn l z a0 a1 a2 a3 a4 (u0.1 0)) hx hb hml hown hts w_2302 w_2299 w_2300 w_2301 w_36 md_2288df ⟨Nat.le_of_ble_eq_true rfl, Nat.le_of_ble_eq_true rfl⟩ hG hZ hP hD hS hA 0 rfl rfl rfl [0] [] rfl rfl rfl rfl rfl hl.1 rfl (Nat.le_of_ble_eq_true rfl) d_17_10_31 ⟨Nat.le_of_ble_eq_true rfl, Nat.le_of_ble_eq_true rfl⟩ (fun u33 H locs hP hD hS => ?_)
  have hP : va_P z.1 classes [(a0, .inr (14, [.ref a1, .int 0, .ref a2, .ref a3, .int 0, .ref a4, .ref (u0.1 0)]))] H := hP
  have hD : va_D A [(a0, .inr (14, [.ref a1, .int 0, .ref a2, .ref a3, .int 0, .ref a4, .ref (u0.1 0)]))] := hD
  refine W.eq (g2 := F0 m 34 ls [.int 0, .int 0]) rfl ?_
  refine lv_if_eq (tgt := 69) hx hb d_17_10_34 (by decide) (fun _ => ?_) (fun c9 => absurd (by decide +kernel) c9)
  refine lv_iconst (v := (-1)) hx hb d_17_10_69 (by decide +kernel) ?_
  refine lv_iand hx hb d_17_10_70 ?_
  refine nrm (x1 := 0) (by decide +kernel) ?_
  refine lv_istore_n (lv' := [(2, .int 0), (4, .int 0), (3, .int 4), (1, .ref (u0.1 0)), (0, .ref a0)]) hx hb d_17_10_71 rfl hl (by decide) rfl (fun ls hl => ?_)
  refine lv_iinc (v := 1) (lv' := [(4, .int 1), (2, .int 0), (3, .int 4), (1, .ref (u0.1 0)), (0, .ref a0)]) hx hb d_17_10_72 hl (k := 1) rfl (by decide +kernel) (by decide) rfl (fun ls hl => ?_)
  refine lv_goto (tgt := 21) hx hb d_17_10_75 (by decide) ?_
  refine lv_iload hx hb d_17_10_21 (lv_at hl 0 rfl) ?_
  refine lv_bipush (v := 8) hx hb d_17_10_23 (by decide +kernel) ?_
  refine lv_icmp_ge (tgt := 78) hx hb d_17_10_25 (by decide) (fun c9 => absurd c9 (by decide +kernel)) (fun _ => ?_)
  refine lv_iload_n hx hb d_17_10_28 rfl (lv_at hl 1 rfl) ?_
  refine lv_aload_n hx hb d_17_10_29 rfl (lv_at hl 4 rfl) ?_
  refine lv_iload_n hx hb d_17_10_30 rfl (lv_at hl 2 rfl) ?_
  refine kV (As := [.int 4]) (rest := [.int 0]) (wr := []) (c306_Poll_isIn l z a0 a1 a2 a3 a4 (u0.1 0)) hx hb hml hown hts w_2302 w_2299 w_2300 w_2301 w_36 md_2288df ⟨Nat.le_of_ble_eq_true rfl, Nat.le_of_ble_eq_true rfl⟩ hG hZ hP hD hS hA 0 rfl rfl rfl [0] [] rfl rfl rfl rfl rfl hl.1 rfl (Nat.le_of_ble_eq_true rfl) d_17_10_31 ⟨Nat.le_of_ble_eq_true rfl, Nat.le_of_ble_eq_true rfl⟩ (fun u34 H locs hP hD hS => ?_)
  have hP : va_P z.1 classes [(a0, .inr (14, [.ref a1, .int 0, .ref a2, .ref a3, .int 0, .ref a4, .ref (u0.1 0)]))] H := hP
  have hD : va_D A [(a0, .inr (14, [.ref a1, .int 0, .ref a2, .ref a3, .int 0, .ref a4, .ref (u0.1 0)]))] := hD
  refine W.eq (g2 := F0 m 34 ls [.int 0, .int 0]) rfl ?_
  refine lv_if_eq (tgt := 69) hx hb d_17_10_34 (by decide) (fun _ => ?_) (fun c9 => absurd (by decide +kernel) c9)
  refine lv_iconst (v := (-1)) hx hb d_17_10_69 (by decide +kernel) ?_
  refine lv_iand hx hb d_17_10_70 ?_
  refine nrm (x1 := 0) (by decide +kernel) ?_
  refine lv_istore_n (lv' := [(2, .int 0), (4, .int 1), (3, .int 4), (1, .ref (u0.1 0)), (0, .ref a0)]) hx hb d_17_10_71 rfl hl (by decide) rfl (fun ls hl => ?_)
  refine lv_iinc (v := 2) (lv' := [(4, .int 2), (2, .int 0), (3, .int 4), (1, .ref (u0.1 0)), (0, .ref a0)]) hx hb d_17_10_72 hl (k := 1) rfl (by decide +kernel) (by decide) rfl (fun ls hl => ?_)
  refine lv_goto (tgt := 21) hx hb d_17_10_75 (by decide) ?_
  refine lv_iload hx hb d_17_10_21 (lv_at hl 0 rfl) ?_
  refine lv_bipush (v := 8) hx hb d_17_10_23 (by decide +kernel) ?_
  refine lv_icmp_ge (tgt := 78) hx hb d_17_10_25 (by decide) (fun c9 => absurd c9 (by decide +kernel)) (fun _ => ?_)
  refine lv_iload_n hx hb d_17_10_28 rfl (lv_at hl 1 rfl) ?_
  refine lv_aload_n hx hb d_17_10_29 rfl (lv_at hl 4 rfl) ?_
  refine lv_iload_n hx hb d_17_10_30 rfl (lv_at hl 2 rfl) ?_
  refine kV (As := [.int 4]) (rest := [.int 0]) (wr := []) (c306_Poll_isIn l z a0 a1 a2 a3 a4 (u0.1 0)) hx hb hml hown hts w_2302 w_2299 w_2300 w_2301 w_36 md_2288df ⟨Nat.le_of_ble_eq_true rfl, Nat.le_of_ble_eq_true rfl⟩ hG hZ hP hD hS hA 0 rfl rfl rfl [0] [] rfl rfl rfl rfl rfl hl.1 rfl (Nat.le_of_ble_eq_true rfl) d_17_10_31 ⟨Nat.le_of_ble_eq_true rfl, Nat.le_of_ble_eq_true rfl⟩ (fun u35 H locs hP hD hS => ?_)
  have hP : va_P z.1 classes [(a0, .inr (14, [.ref a1, .int 0, .ref a2, .ref a3, .int 0, .ref a4, .ref (u0.1 0)]))] H := hP
  have hD : va_D A [(a0, .inr (14, [.ref a1, .int 0, .ref a2, .ref a3, .int 0, .ref a4, .ref (u0.1 0)]))] := hD
  refine W.eq (g2 := F0 m 34 ls [.int 0, .int 0]) rfl ?_
  refine lv_if_eq (tgt := 69) hx hb d_17_10_34 (by decide) (fun _ => ?_) (fun c9 => absurd (by decide +kernel) c9)
  refine lv_iconst (v := (-1)) hx hb d_17_10_69 (by decide +kernel) ?_
  refine lv_iand hx hb d_17_10_70 ?_
  refine nrm (x1 := 0) (by decide +kernel) ?_
  refine lv_istore_n (lv' := [(2, .int 0), (4, .int 2), (3, .int 4), (1, .ref (u0.1 0)), (0, .ref a0)]) hx hb d_17_10_71 rfl hl (by decide) rfl (fun ls hl => ?_)
  refine lv_iinc (v := 3) (lv' := [(4, .int 3), (2, .int 0), (3, .int 4), (1, .ref (u0.1 0)), (0, .ref a0)]) hx hb d_17_10_72 hl (k := 1) rfl (by decide +kernel) (by decide) rfl (fun ls hl => ?_)
  refine lv_goto (tgt := 21) hx hb d_17_10_75 (by decide) ?_
  refine lv_iload hx hb d_17_10_21 (lv_at hl 0 rfl) ?_
  refine lv_bipush (v := 8) hx hb d_17_10_23 (by decide +kernel) ?_
  refine lv_icmp_ge (tgt := 78) hx hb d_17_10_25 (by decide) (fun c9 => absurd c9 (by decide +kernel)) (fun _ => ?_)
  refine lv_iload_n hx hb d_17_10_28 rfl (lv_at hl 1 rfl) ?_
  refine lv_aload_n hx hb d_17_10_29 rfl (lv_at hl 4 rfl) ?_
  refine lv_iload_n hx hb d_17_10_30 rfl (lv_at hl 2 rfl) ?_
  refine kV (As := [.int 4]) (rest := [.int 0]) (wr := []) (c306_Poll_isIn l z a0 a1 a2 a3 a4 (u0.1 0)) hx hb hml hown hts w_2302 w_2299 w_2300 w_2301 w_36 md_2288df ⟨Nat.le_of_ble_eq_true rfl, Nat.le_of_ble_eq_true rfl⟩ hG hZ hP hD hS hA 0 rfl rfl rfl [0] [] rfl rfl rfl rfl rfl hl.1 rfl (Nat.le_of_ble_eq_true rfl) d_17_10_31 ⟨Nat.le_of_ble_eq_true rfl, Nat.le_of_ble_eq_true rfl⟩ (fun u36 H locs hP hD hS => ?_)
  have hP : va_P z.1 classes [(a0, .inr (14, [.ref a1, .int 0, .ref a2, .ref a3, .int 0, .ref a4, .ref (u0.1 0)]))] H := hP
  have hD : va_D A [(a0, .inr (14, [.ref a1, .int 0, .ref a2, .ref a3, .int 0, .ref a4, .ref (u0.1 0)]))] := hD
  refine W.eq (g2 := F0 m 34 ls [.int 0, .int 0]) rfl ?_
  refine lv_if_eq (tgt := 69) hx hb d_17_10_34 (by decide) (fun _ => ?_) (fun c9 => absurd (by decide +kernel) c9)
  refine lv_iconst (v := (-1)) hx hb d_17_10_69 (by decide +kernel) ?_
  refine lv_iand hx hb d_17_10_70 ?_
  refine nrm (x1 := 0) (by decide +kernel) ?_
  refine lv_istore_n (lv' := [(2, .int 0), (4, .int 3), (3, .int 4), (1, .ref (u0.1 0)), (0, .ref a0)]) hx hb d_17_10_71 rfl hl (by decide) rfl (fun ls hl => ?_)
  refine lv_iinc (v := 4) (lv' := [(4, .int 4), (2, .int 0), (3, .int 4), (1, .ref (u0.1 0)), (0, .ref a0)]) hx hb d_17_10_72 hl (k := 1) rfl (by decide +kernel) (by decide) rfl (fun ls hl => ?_)
  refine lv_goto (tgt := 21) hx hb d_17_10_75 (by decide) ?_
  refine lv_iload hx hb d_17_10_21 (lv_at hl 0 rfl) ?_
  refine lv_bipush (v := 8) hx hb d_17_10_23 (by decide +kernel) ?_
  refine lv_icmp_ge (tgt := 78) hx hb d_17_10_25 (by decide) (fun c9 => absurd c9 (by decide +kernel)) (fun _ => ?_)
  refine lv_iload_n hx hb d_17_10_28 rfl (lv_at hl 1 rfl) ?_
  refine lv_aload_n hx hb d_17_10_29 rfl (lv_at hl 4 rfl) ?_
  refine lv_iload_n hx hb d_17_10_30 rfl (lv_at hl 2 rfl) ?_
  refine kV (As := [.int 4]) (rest := [.int 0]) (wr := []) (c306_Poll_isIn l z a0 a1 a2 a3 a4 (u0.1 0)) hx hb hml hown hts w_2302 w_2299 w_2300 w_2301 w_36 md_2288df ⟨Nat.le_of_ble_eq_true rfl, Nat.le_of_ble_eq_true rfl⟩ hG hZ hP hD hS hA 0 rfl rfl rfl [0] [] rfl rfl rfl rfl rfl hl.1 rfl (Nat.le_of_ble_eq_true rfl) d_17_10_31 ⟨Nat.le_of_ble_eq_true rfl, Nat.le_of_ble_eq_true rfl⟩ (fun u37 H locs hP hD hS => ?_)
  have hP : va_P z.1 classes [(a0, .inr (14, [.ref a1, .int 0, .ref a2, .ref a3, .int 0, .ref a4, .ref (u0.1 0)]))] H := hP
  have hD : va_D A [(a0, .inr (14, [.ref a1, .int 0, .ref a2, .ref a3, .int 0, .ref a4, .ref (u0.1 0)]))] := hD
  refine W.eq (g2 := F0 m 34 ls [.int 0, .int 0]) rfl ?_
  refine lv_if_eq (tgt := 69) hx hb d_17_10_34 (by decide) (fun _ => ?_) (fun c9 => absurd (by decide +kernel) c9)
  refine lv_iconst (v := (-1)) hx hb d_17_10_69 (by decide +kernel) ?_
  refine lv_iand hx hb d_17_10_70 ?_
  refine nrm (x1 := 0) (by decide +kernel) ?_
  refine lv_istore_n (lv' := [(2, .int 0), (4, .int 4), (3, .int 4), (1, .ref (u0.1 0)), (0, .ref a0)]) hx hb d_17_10_71 rfl hl (by decide) rfl (fun ls hl => ?_)
  refine lv_iinc (v := 5) (lv' := [(4, .int 5), (2, .int 0), (3, .int 4), (1, .ref (u0.1 0)), (0, .ref a0)]) hx hb d_17_10_72 hl (k := 1) rfl (by decide +kernel) (by decide) rfl (fun ls hl => ?_)
  refine lv_goto (tgt := 21) hx hb d_17_10_75 (by decide) ?_
  refine lv_iload hx hb d_17_10_21 (lv_at hl 0 rfl) ?_
  refine lv_bipush (v := 8) hx hb d_17_10_23 (by decide +kernel) ?_
  refine lv_icmp_ge (tgt := 78) hx hb d_17_10_25 (by decide) (fun c9 => absurd c9 (by decide +kernel)) (fun _ => ?_)
  refine lv_iload_n hx hb d_17_10_28 rfl (lv_at hl 1 rfl) ?_
  refine lv_aload_n hx hb d_17_10_29 rfl (lv_at hl 4 rfl) ?_
  refine lv_iload_n hx hb d_17_10_30 rfl (lv_at hl 2 rfl) ?_
  refine kV (As := [.int 4]) (rest := [.int 0]) (wr := []) (c306_Poll_isIn l z a0 a1 a2 a3 a4 (u0.1 0)) hx hb hml hown hts w_2302 w_2299 w_2300 w_2301 w_36 md_2288df ⟨Nat.le_of_ble_eq_true rfl, Nat.le_of_ble_eq_true rfl⟩ hG hZ hP hD hS hA 0 rfl rfl rfl [0] [] rfl rfl rfl rfl rfl hl.1 rfl (Nat.le_of_ble_eq_true rfl) d_17_10_31 ⟨Nat.le_of_ble_eq_true rfl, Nat.le_of_ble_eq_true rfl⟩ (fun u38 H locs hP hD hS => ?_)
  have hP : va_P z.1 classes [(a0, .inr (14, [.ref a1, .int 0, .ref a2, .ref a3, .int 0, .ref a4, .ref (u0.1 0)]))] H := hP
  have hD : va_D A [(a0, .inr (14, [.ref a1, .int 0, .ref a2, .ref a3, .int 0, .ref a4, .ref (u0.1 0)]))] := hD
  refine W.eq (g2 := F0 m 34 ls [.int 0, .int 0]) rfl ?_
  refine lv_if_eq (tgt := 69) hx hb d_17_10_34 (by decide) (fun _ => ?_) (fun c9 => absurd (by decide +kernel) c9)
  refine lv_iconst (v := (-1)) hx hb d_17_10_69 (by decide +kernel) ?_
  refine lv_iand hx hb d_17_10_70 ?_
  refine nrm (x1 := 0) (by decide +kernel) ?_
  refine lv_istore_n (lv' := [(2, .int 0), (4, .int 5), (3, .int 4), (1, .ref (u0.1 0)), (0, .ref a0)]) hx hb d_17_10_71 rfl hl (by decide) rfl (fun ls hl => ?_)
  refine lv_iinc (v := 6) (lv' := [(4, .int 6), (2, .int 0), (3, .int 4), (1, .ref (u0.1 0)), (0, .ref a0)]) hx hb d_17_10_72 hl (k := 1) rfl (by decide +kernel) (by decide) rfl (fun ls hl => ?_)
  refine lv_goto (tgt := 21) hx hb d_17_10_75 (by decide) ?_
  refine lv_iload hx hb d_17_10_21 (lv_at hl 0 rfl) ?_
  refine lv_bipush (v := 8) hx hb d_17_10_23 (by decide +kernel) ?_
  refine lv_icmp_ge (tgt := 78) hx hb d_17_10_25 (by decide) (fun c9 => absurd c9 (by decide +kernel)) (fun _ => ?_)
  refine lv_iload_n hx hb d_17_10_28 rfl (lv_at hl 1 rfl) ?_
  refine lv_aload_n hx hb d_17_10_29 rfl (lv_at hl 4 rfl) ?_
  refine lv_iload_n hx hb d_17_10_30 rfl (lv_at hl 2 rfl) ?_
  refine kV (As := [.int 4]) (rest := [.int 0]) (wr := []) (c306_Poll_isIn l z a0 a1 a2 a3 a4 (u0.1 0)) hx hb hml hown hts w_2302 w_2299 w_2300 w_2301 w_36 md_2288df ⟨Nat.le_of_ble_eq_true rfl, Nat.le_of_ble_eq_true rfl⟩ hG hZ hP hD hS hA 0 rfl rfl rfl [0] [] rfl rfl rfl rfl rfl hl.1 rfl (Nat.le_of_ble_eq_true rfl) d_17_10_31 ⟨Nat.le_of_ble_eq_true rfl, Nat.le_of_ble_eq_true rfl⟩ (fun u39 H locs hP hD hS => ?_)
  have hP : va_P z.1 classes [(a0, .inr (14, [.ref a1, .int 0, .ref a2, .ref a3, .int 0, .ref a4, .ref (u0.1 0)]))] H := hP
  have hD : va_D A [(a0, .inr (14, [.ref a1, .int 0, .ref a2, .ref a3, .int 0, .ref a4, .ref (u0.1 0)]))] := hD
  refine W.eq (g2 := F0 m 34 ls [.int 0, .int 0]) rfl ?_
  refine lv_if_eq (tgt := 69) hx hb d_17_10_34 (by decide) (fun _ => ?_) (fun c9 => absurd (by decide +kernel) c9)
  refine lv_iconst (v := (-1)) hx hb d_17_10_69 (by decide +kernel) ?_
  refine lv_iand hx hb d_17_10_70 ?_
  refine nrm (x1 := 0) (by decide +kernel) ?_
  refine lv_istore_n (lv' := [(2, .int 0), (4, .int 6), (3, .int 4), (1, .ref (u0.1 0)), (0, .ref a0)]) hx hb d_17_10_71 rfl hl (by decide) rfl (fun ls hl => ?_)
  refine lv_iinc (v := 7) (lv' := [(4, .int 7), (2, .int 0), (3, .int 4), (1, .ref (u0.1 0)), (0, .ref a0)]) hx hb d_17_10_72 hl (k := 1) rfl (by decide +kernel) (by decide) rfl (fun ls hl => ?_)
  refine lv_goto (tgt := 21) hx hb d_17_10_75 (by decide) ?_
  refine lv_iload hx hb d_17_10_21 (lv_at hl 0 rfl) ?_
  refine lv_bipush (v := 8) hx hb d_17_10_23 (by decide +kernel) ?_
  refine lv_icmp_ge (tgt := 78) hx hb d_17_10_25 (by decide) (fun c9 => absurd c9 (by decide +kernel)) (fun _ => ?_)
  refine lv_iload_n hx hb d_17_10_28 rfl (lv_at hl 1 rfl) ?_
  refine lv_aload_n hx hb d_17_10_29 rfl (lv_at hl 4 rfl) ?_
  refine lv_iload_n hx hb d_17_10_30 rfl (lv_at hl 2 rfl) ?_
  refine kV (As := [.int 4]) (rest := [.int 0]) (wr := []) (c306_Poll_isIn l z a0 a1 a2 a3 a4 (u0.1 0)) hx hb hml hown hts w_2302 w_2299 w_2300 w_2301 w_36 md_2288df ⟨Nat.le_of_ble_eq_true rfl, Nat.le_of_ble_eq_true rfl⟩ hG hZ hP hD hS hA 0 rfl rfl rfl [0] [] rfl rfl rfl rfl rfl hl.1 rfl (Nat.le_of_ble_eq_true rfl) d_17_10_31 ⟨Nat.le_of_ble_eq_true rfl, Nat.le_of_ble_eq_true rfl⟩ (fun u40 H locs hP hD hS => ?_)
  have hP : va_P z.1 classes [(a0, .inr (14, [.ref a1, .int 0, .ref a2, .ref a3, .int 0, .ref a4, .ref (u0.1 0)]))] H := hP
  have hD : va_D A [(a0, .inr (14, [.ref a1, .int 0, .ref a2, .ref a3, .int 0, .ref a4, .ref (u0.1 0)]))] := hD
  refine W.eq (g2 := F0 m 34 ls [.int 0, .int 0]) rfl ?_
  refine lv_if_eq (tgt := 69) hx hb d_17_10_34 (by decide) (fun _ => ?_) (fun c9 => absurd (by decide +kernel) c9)
  refine lv_iconst (v := (-1)) hx hb d_17_10_69 (by decide +kernel) ?_
  refine lv_iand hx hb d_17_10_70 ?_
  refine nrm (x1 := 0) (by decide +kernel) ?_
  refine lv_istore_n (lv' := [(2, .int 0), (4, .int 7), (3, .int 4), (1, .ref (u0.1 0)), (0, .ref a0)]) hx hb d_17_10_71 rfl hl (by decide) rfl (fun ls hl => ?_)
  refine lv_iinc (v := 8) (lv' := [(4, .int 8), (2, .int 0), (3, .int 4), (1, .ref (u0.1 0)), (0, .ref a0)]) hx hb d_17_10_72 hl (k := 1) rfl (by decide +kernel) (by decide) rfl (fun ls hl => ?_)
  refine lv_goto (tgt := 21) hx hb d_17_10_75 (by decide) ?_
  refine lv_iload hx hb d_17_10_21 (lv_at hl 0 rfl) ?_
  refine lv_bipush (v := 8) hx hb d_17_10_23 (by decide +kernel) ?_
  refine lv_icmp_ge (tgt := 78) hx hb d_17_10_25 (by decide) (fun _ => ?_) (fun c9 => absurd (by decide +kernel) c9)
  refine lv_iinc (v := 5) (lv' := [(3, .int 5), (4, .int 8), (2, .int 0), (1, .ref (u0.1 0)), (0, .ref a0)]) hx hb d_17_10_78 hl (k := 2) rfl (by decide +kernel) (by decide) rfl (fun ls hl => ?_)
  refine lv_goto (tgt := 12) hx hb d_17_10_81 (by decide) ?_
  refine lv_iload_n hx hb d_17_10_12 rfl (lv_at hl 0 rfl) ?_
  refine lv_bipush (v := 8) hx hb d_17_10_13 (by decide +kernel) ?_
  refine lv_icmp_ge (tgt := 84) hx hb d_17_10_15 (by decide) (fun c9 => absurd c9 (by decide +kernel)) (fun _ => ?_)
  refine lv_iconst (v := 0) hx hb d_17_10_18 (by decide +kernel) ?_
  refine lv_istore (lv' := [(4, .int 0), (3, .int 5), (2, .int 0), (1, .ref (u0.1 0)), (0, .ref a0)]) hx hb d_17_10_19 hl (by decide) rfl (fun ls hl => ?_)
  refine lv_iload hx hb d_17_10_21 (lv_at hl 0 rfl) ?_
  refine lv_bipush (v := 8) hx hb d_17_10_23 (by decide +kernel) ?_
  refine lv_icmp_ge (tgt := 78) hx hb d_17_10_25 (by decide) (fun c9 => absurd c9 (by decide +kernel)) (fun _ => ?_)
  refine lv_iload_n hx hb d_17_10_28 rfl (lv_at hl 2 rfl) ?_
  refine lv_aload_n hx hb d_17_10_29 rfl (lv_at hl 4 rfl) ?_
  refine lv_iload_n hx hb d_17_10_30 rfl (lv_at hl 1 rfl) ?_
  refine kV (As := [.int 5]) (rest := [.int 0]) (wr := []) (c307_Poll_isIn l z a0 a1 a2 a3 a4 (u0.1 0)) hx hb hml hown hts w_2302 w_2299 w_2300 w_2301 w_36 md_2288df ⟨Nat.le_of_ble_eq_true rfl, Nat.le_of_ble_eq_true rfl⟩ hG hZ hP hD hS hA 0 rfl rfl rfl [0] [] rfl rfl rfl rfl rfl hl.1 rfl (Nat.le_of_ble_eq_true rfl) d_17_10_31 ⟨Nat.le_of_ble_eq_true rfl, Nat.le_of_ble_eq_true rfl⟩ (fun u41 H locs hP hD hS => ?_)
  have hP : va_P z.1 classes [(a0, .inr (14, [.ref a1, .int 0, .ref a2, .ref a3, .int 0, .ref a4, .ref (u0.1 0)]))] H := hP
  have hD : va_D A [(a0, .inr (14, [.ref a1, .int 0, .ref a2, .ref a3, .int 0, .ref a4, .ref (u0.1 0)]))] := hD
  refine W.eq (g2 := F0 m 34 ls [.int 0, .int 0]) rfl ?_
  refine lv_if_eq (tgt := 69) hx hb d_17_10_34 (by decide) (fun _ => ?_) (fun c9 => absurd (by decide +kernel) c9)
  refine lv_iconst (v := (-1)) hx hb d_17_10_69 (by decide +kernel) ?_
  refine lv_iand hx hb d_17_10_70 ?_
  refine nrm (x1 := 0) (by decide +kernel) ?_
  refine lv_istore_n (lv' := [(2, .int 0), (4, .int 0), (3, .int 5), (1, .ref (u0.1 0)), (0, .ref a0)]) hx hb d_17_10_71 rfl hl (by decide) rfl (fun ls hl => ?_)
  refine lv_iinc (v := 1) (lv' := [(4, .int 1), (2, .int 0), (3, .int 5), (1, .ref (u0.1 0)), (0, .ref a0)]) hx hb d_17_10_72 hl (k := 1) rfl (by decide +kernel) (by decide) rfl (fun ls hl => ?_)
  refine lv_goto (tgt := 21) hx hb d_17_10_75 (by decide) ?_
  refine lv_iload hx hb d_17_10_21 (lv_at hl 0 rfl) ?_
  refine lv_bipush (v := 8) hx hb d_17_10_23 (by decide +kernel) ?_
  refine lv_icmp_ge (tgt := 78) hx hb d_17_10_25 (by decide) (fun c9 => absurd c9 (by decide +kernel)) (fun _ => ?_)
  refine lv_iload_n hx hb d_17_10_28 rfl (lv_at hl 1 rfl) ?_
  refine lv_aload_n hx hb d_17_10_29 rfl (lv_at hl 4 rfl) ?_
  refine lv_iload_n hx hb d_17_10_30 rfl (lv_at hl 2 rfl) ?_
  refine kV (As := [.int 5]) (rest := [.int 0]) (wr := []) (c307_Poll_isIn l z a0 a1 a2 a3 a4 (u0.1 0)) hx hb hml hown hts w_2302 w_2299 w_2300 w_2301 w_36 md_2288df ⟨Nat.le_of_ble_eq_true rfl, Nat.le_of_ble_eq_true rfl⟩ hG hZ hP hD hS hA 0 rfl rfl rfl [0] [] rfl rfl rfl rfl rfl hl.1 rfl (Nat.le_of_ble_eq_true rfl) d_17_10_31 ⟨Nat.le_of_ble_eq_true rfl, Nat.le_of_ble_eq_true rfl⟩ (fun u42 H locs hP hD hS => ?_)
  have hP : va_P z.1 classes [(a0, .inr (14, [.ref a1, .int 0, .ref a2, .ref a3, .int 0, .ref a4, .ref (u0.1 0)]))] H := hP
  have hD : va_D A [(a0, .inr (14, [.ref a1, .int 0, .ref a2, .ref a3, .int 0, .ref a4, .ref (u0.1 0)]))] := hD
  refine W.eq (g2 := F0 m 34 ls [.int 0, .int 0]) rfl ?_
  refine lv_if_eq (tgt := 69) hx hb d_17_10_34 (by decide) (fun _ => ?_) (fun c9 => absurd (by decide +kernel) c9)
  refine lv_iconst (v := (-1)) hx hb d_17_10_69 (by decide +kernel) ?_
  refine lv_iand hx hb d_17_10_70 ?_
  refine nrm (x1 := 0) (by decide +kernel) ?_
  refine lv_istore_n (lv' := [(2, .int 0), (4, .int 1), (3, .int 5), (1, .ref (u0.1 0)), (0, .ref a0)]) hx hb d_17_10_71 rfl hl (by decide) rfl (fun ls hl => ?_)
  refine lv_iinc (v := 2) (lv' := [(4, .int 2), (2, .int 0), (3, .int 5), (1, .ref (u0.1 0)), (0, .ref a0)]) hx hb d_17_10_72 hl (k := 1) rfl (by decide +kernel) (by decide) rfl (fun ls hl => ?_)
  refine lv_goto (tgt := 21) hx hb d_17_10_75 (by decide) ?_
  refine lv_iload hx hb d_17_10_21 (lv_at hl 0 rfl) ?_
  refine lv_bipush (v := 8) hx hb d_17_10_23 (by decide +kernel) ?_
  refine lv_icmp_ge (tgt := 78) hx hb d_17_10_25 (by decide) (fun c9 => absurd c9 (by decide +kernel)) (fun _ => ?_)
  refine lv_iload_n hx hb d_17_10_28 rfl (lv_at hl 1 rfl) ?_
  refine lv_aload_n hx hb d_17_10_29 rfl (lv_at hl 4 rfl) ?_
  refine lv_iload_n hx hb d_17_10_30 rfl (lv_at hl 2 rfl) ?_
  refine kV (As := [.int 5]) (rest := [.int 0]) (wr := []) (c307_Poll_isIn l z a0 a1 a2 a3 a4 (u0.1 0)) hx hb hml hown hts w_2302 w_2299 w_2300 w_2301 w_36 md_2288df ⟨Nat.le_of_ble_eq_true rfl, Nat.le_of_ble_eq_true rfl⟩ hG hZ hP hD hS hA 0 rfl rfl rfl [0] [] rfl rfl rfl rfl rfl hl.1 rfl (Nat.le_of_ble_eq_true rfl) d_17_10_31 ⟨Nat.le_of_ble_eq_true rfl, Nat.le_of_ble_eq_true rfl⟩ (fun u43 H locs hP hD hS => ?_)
  have hP : va_P z.1 classes [(a0, .inr (14, [.ref a1, .int 0, .ref a2, .ref a3, .int 0, .ref a4, .ref (u0.1 0)]))] H := hP
  have hD : va_D A [(a0, .inr (14, [.ref a1, .int 0, .ref a2, .ref a3, .int 0, .ref a4, .ref (u0.1 0)]))] := hD
  refine W.eq (g2 := F0 m 34 ls [.int 0, .int 0]) rfl ?_
  refine lv_if_eq (tgt := 69) hx hb d_17_10_34 (by decide) (fun _ => ?_) (fun c9 => absurd (by decide +kernel) c9)
  refine lv_iconst (v := (-1)) hx hb d_17_10_69 (by decide +kernel) ?_
  refine lv_iand hx hb d_17_10_70 ?_
  refine nrm (x1 := 0) (by decide +kernel) ?_
  refine lv_istore_n (lv' := [(2, .int 0), (4, .int 2), (3, .int 5), (1, .ref (u0.1 0)), (0, .ref a0)]) hx hb d_17_10_71 rfl hl (by decide) rfl (fun ls hl => ?_)
  refine lv_iinc (v := 3) (lv' := [(4, .int 3), (2, .int 0), (3, .int 5), (1, .ref (u0.1 0)), (0, .ref a0)]) hx hb d_17_10_72 hl (k := 1) rfl (by decide +kernel) (by decide) rfl (fun ls hl => ?_)
  refine lv_goto (tgt := 21) hx hb d_17_10_75 (by decide) ?_
  refine lv_iload hx hb d_17_10_21 (lv_at hl 0 rfl) ?_
  refine lv_bipush (v := 8) hx hb d_17_10_23 (by decide +kernel) ?_
  refine lv_icmp_ge (tgt := 78) hx hb d_17_10_25 (by decide) (fun c9 => absurd c9 (by decide +kernel)) (fun _ => ?_)
  refine lv_iload_n hx hb d_17_10_28 rfl (lv_at hl 1 rfl) ?_
  refine lv_aload_n hx hb d_17_10_29 rfl (lv_at hl 4 rfl) ?_
  refine lv_iload_n hx hb d_17_10_30 rfl (lv_at hl 2 rfl) ?_
  refine kV (As := [.int 5]) (rest := [.int 0]) (wr := []) (c307_Poll_isIn l z a0 a1 a2 a3 a4 (u0.1 0)) hx hb hml hown hts w_2302 w_2299 w_2300 w_2301 w_36 md_2288df ⟨Nat.le_of_ble_eq_true rfl, Nat.le_of_ble_eq_true rfl⟩ hG hZ hP hD hS hA 0 rfl rfl rfl [0] [] rfl rfl rfl rfl rfl hl.1 rfl (Nat.le_of_ble_eq_true rfl) d_17_10_31 ⟨Nat.le_of_ble_eq_true rfl, Nat.le_of_ble_eq_true rfl⟩ (fun u44 H locs hP hD hS => ?_)
  have hP : va_P z.1 classes [(a0, .inr (14, [.ref a1, .int 0, .ref a2, .ref a3, .int 0, .ref a4, .ref (u0.1 0)]))] H := hP
  have hD : va_D A [(a0, .inr (14, [.ref a1, .int 0, .ref a2, .ref a3, .int 0, .ref a4, .ref (u0.1 0)]))] := hD
  refine W.eq (g2 := F0 m 34 ls [.int 0, .int 0]) rfl ?_
  refine lv_if_eq (tgt := 69) hx hb d_17_10_34 (by decide) (fun _ => ?_) (fun c9 => absurd (by decide +kernel) c9)
  refine lv_iconst (v := (-1)) hx hb d_17_10_69 (by decide +kernel) ?_
  refine lv_iand hx hb d_17_10_70 ?_
  refine nrm (x1 := 0) (by decide +kernel) ?_
  refine lv_istore_n (lv' := [(2, .int 0), (4, .int 3), (3, .int 5), (1, .ref (u0.1 0)), (0, .ref a0)]) hx hb d_17_10_71 rfl hl (by decide) rfl (fun ls hl => ?_)
  refine lv_iinc (v := 4) (lv' := [(4, .int 4), (2, .int 0), (3, .int 5), (1, .ref (u0.1 0)), (0, .ref a0)]) hx hb d_17_10_72 hl (k := 1) rfl (by decide +kernel) (by decide) rfl (fun ls hl => ?_)
  refine lv_goto (tgt := 21) hx hb d_17_10_75 (by decide) ?_
  refine lv_iload hx hb d_17_10_21 (lv_at hl 0 rfl) ?_
  refine lv_bipush (v := 8) hx hb d_17_10_23 (by decide +kernel) ?_
  refine lv_icmp_ge (tgt := 78) hx hb d_17_10_25 (by decide) (fun c9 => absurd c9 (by decide +kernel)) (fun _ => ?_)
  refine lv_iload_n hx hb d_17_10_28 rfl (lv_at hl 1 rfl) ?_
  refine lv_aload_n hx hb d_17_10_29 rfl (lv_at hl 4 rfl) ?_
  refine lv_iload_n hx hb d_17_10_30 rfl (lv_at hl 2 rfl) ?_
  refine kV (As := [.int 5]) (rest := [.int 0]) (wr := []) (c307_Poll_isIn l z a0 a1 a2 a3 a4 (u0.1 0)) hx hb hml hown hts w_2302 w_2299 w_2300 w_2301 w_36 md_2288df ⟨Nat.le_of_ble_eq_true rfl, Nat.le_of_ble_eq_true rfl⟩ hG hZ hP hD hS hA 0 rfl rfl rfl [0] [] rfl rfl rfl rfl rfl hl.1 rfl (Nat.le_of_ble_eq_true rfl) d_17_10_31 ⟨Nat.le_of_ble_eq_true rfl, Nat.le_of_ble_eq_true rfl⟩ (fun u45 H locs hP hD hS => ?_)
  have hP : va_P z.1 classes [(a0, .inr (14, [.ref a1, .int 0, .ref a2, .ref a3, .int 0, .ref a4, .ref (u0.1 0)]))] H := hP
  have hD : va_D A [(a0, .inr (14, [.ref a1, .int 0, .ref a2, .ref a3, .int 0, .ref a4, .ref (u0.1 0)]))] := hD
  refine W.eq (g2 := F0 m 34 ls [.int 0, .int 0]) rfl ?_
  refine lv_if_eq (tgt := 69) hx hb d_17_10_34 (by decide) (fun _ => ?_) (fun c9 => absurd (by decide +kernel) c9)
  refine lv_iconst (v := (-1)) hx hb d_17_10_69 (by decide +kernel) ?_
  refine lv_iand hx hb d_17_10_70 ?_
  refine nrm (x1 := 0) (by decide +kernel) ?_
  refine lv_istore_n (lv' := [(2, .int 0), (4, .int 4), (3, .int 5), (1, .ref (u0.1 0)), (0, .ref a0)]) hx hb d_17_10_71 rfl hl (by decide) rfl (fun ls hl => ?_)
  refine lv_iinc (v := 5) (lv' := [(4, .int 5), (2, .int 0), (3, .int 5), (1, .ref (u0.1 0)), (0, .ref a0)]) hx hb d_17_10_72 hl (k := 1) rfl (by decide +kernel) (by decide) rfl (fun ls hl => ?_)
  refine lv_goto (tgt := 21) hx hb d_17_10_75 (by decide) ?_
  refine lv_iload hx hb d_17_10_21 (lv_at hl 0 rfl) ?_
  refine lv_bipush (v := 8) hx hb d_17_10_23 (by decide +kernel) ?_
  refine lv_icmp_ge (tgt := 78) hx hb d_17_10_25 (by decide) (fun c9 => absurd c9 (by decide +kernel)) (fun _ => ?_)
  refine lv_iload_n hx hb d_17_10_28 rfl (lv_at hl 1 rfl) ?_
  refine lv_aload_n hx hb d_17_10_29 rfl (lv_at hl 4 rfl) ?_
  refine lv_iload_n hx hb d_17_10_30 rfl (lv_at hl 2 rfl) ?_
  refine kV (As := [.int 5]) (rest := [.int 0]) (wr := []) (c307_Poll_isIn l z a0 a1 a2 a3 a4 (u0.1 0)) hx hb hml hown hts w_2302 w_2299 w_2300 w_2301 w_36 md_2288df ⟨Nat.le_of_ble_eq_true rfl, Nat.le_of_ble_eq_true rfl⟩ hG hZ hP hD hS hA 0 rfl rfl rfl [0] [] rfl rfl rfl rfl rfl hl.1 rfl (Nat.le_of_ble_eq_true rfl) d_17_10_31 ⟨Nat.le_of_ble_eq_true rfl, Nat.le_of_ble_eq_true rfl⟩ (fun u46 H locs hP hD hS => ?_)
  have hP : va_P z.1 classes [(a0, .inr (14, [.ref a1, .int 0, .ref a2, .ref a3, .int 0, .ref a4, .ref (u0.1 0)]))] H := hP
  have hD : va_D A [(a0, .inr (14, [.ref a1, .int 0, .ref a2, .ref a3, .int 0, .ref a4, .ref (u0.1 0)]))] := hD
  refine W.eq (g2 := F0 m 34 ls [.int 0, .int 0]) rfl ?_
  refine lv_if_eq (tgt := 69) hx hb d_17_10_34 (by decide) (fun _ => ?_) (fun c9 => absurd (by decide +kernel) c9)
  refine lv_iconst (v := (-1)) hx hb d_17_10_69 (by decide +kernel) ?_
  refine lv_iand hx hb d_17_10_70 ?_
  refine nrm (x1 := 0) (by decide +kernel) ?_
  refine lv_istore_n (lv' := [(2, .int 0), (4, .int 5), (3, .int 5), (1, .ref (u0.1 0)), (0, .ref a0)]) hx hb d_17_10_71 rfl hl (by decide) rfl (fun ls hl => ?_)
  refine lv_iinc (v := 6) (lv' := [(4, .int 6), (2, .int 0), (3, .int 5), (1, .ref (u0.1 0)), (0, .ref a0)]) hx hb d_17_10_72 hl (k := 1) rfl (by decide +kernel) (by decide) rfl (fun ls hl => ?_)
  refine lv_goto (tgt := 21) hx hb d_17_10_75 (by decide) ?_
  refine lv_iload hx hb d_17_10_21 (lv_at hl 0 rfl) ?_
  refine lv_bipush (v := 8) hx hb d_17_10_23 (by decide +kernel) ?_
  refine lv_icmp_ge (tgt := 78) hx hb d_17_10_25 (by decide) (fun c9 => absurd c9 (by decide +kernel)) (fun _ => ?_)
  refine lv_iload_n hx hb d_17_10_28 rfl (lv_at hl 1 rfl) ?_
  refine lv_aload_n hx hb d_17_10_29 rfl (lv_at hl 4 rfl) ?_
  refine lv_iload_n hx hb d_17_10_30 rfl (lv_at hl 2 rfl) ?_
  refine kV (As := [.int 5]) (rest := [.int 0]) (wr := []) (c307_Poll_isIn l z a0 a1 a2 a3 a4 (u0.1 0)) hx hb hml hown hts w_2302 w_2299 w_2300 w_2301 w_36 md_2288df ⟨Nat.le_of_ble_eq_true rfl, Nat.le_of_ble_eq_true rfl⟩ hG hZ hP hD hS hA 0 rfl rfl rfl [0] [] rfl rfl rfl rfl rfl hl.1 rfl (Nat.le_of_ble_eq_true rfl) d_17_10_31 ⟨Nat.le_of_ble_eq_true rfl, Nat.le_of_ble_eq_true rfl⟩ (fun u47 H locs hP hD hS => ?_)
  have hP : va_P z.1 classes [(a0, .inr (14, [.ref a1, .int 0, .ref a2, .ref a3, .int 0, .ref a4, .ref (u0.1 0)]))] H := hP
  have hD : va_D A [(a0, .inr (14, [.ref a1, .int 0, .ref a2, .ref a3, .int 0, .ref a4, .ref (u0.1 0)]))] := hD
  refine W.eq (g2 := F0 m 34 ls [.int 0, .int 0]) rfl ?_
  refine lv_if_eq (tgt := 69) hx hb d_17_10_34 (by decide) (fun _ => ?_) (fun c9 => absurd (by decide +kernel) c9)
  refine lv_iconst (v := (-1)) hx hb d_17_10_69 (by decide +kernel) ?_
  refine lv_iand hx hb d_17_10_70 ?_
  refine nrm (x1 := 0) (by decide +kernel) ?_
  refine lv_istore_n (lv' := [(2, .int 0), (4, .int 6), (3, .int 5), (1, .ref (u0.1 0)), (0, .ref a0)]) hx hb d_17_10_71 rfl hl (by decide) rfl (fun ls hl => ?_)
  refine lv_iinc (v := 7) (lv' := [(4, .int 7), (2, .int 0), (3, .int 5), (1, .ref (u0.1 0)), (0, .ref a0)]) hx hb d_17_10_72 hl (k := 1) rfl (by decide +kernel) (by decide) rfl (fun ls hl => ?_)
  refine lv_goto (tgt := 21) hx hb d_17_10_75 (by decide) ?_
  refine lv_iload hx hb d_17_10_21 (lv_at hl 0 rfl) ?_
  refine lv_bipush (v := 8) hx hb d_17_10_23 (by decide +kernel) ?_
  refine lv_icmp_ge (tgt := 78) hx hb d_17_10_25 (by decide) (fun c9 => absurd c9 (by decide +kernel)) (fun _ => ?_)
  refine lv_iload_n hx hb d_17_10_28 rfl (lv_at hl 1 rfl) ?_
  refine lv_aload_n hx hb d_17_10_29 rfl (lv_at hl 4 rfl) ?_
  refine lv_iload_n hx hb d_17_10_30 rfl (lv_at hl 2 rfl) ?_
  refine kV (As := [.int 5]) (rest := [.int 0]) (wr := []) (c307_Poll_isIn l z a0 a1 a2 a3 a4 (u0.1 0)) hx hb hml hown hts w_2302 w_2299 w_2300 w_2301 w_36 md_2288df ⟨Nat.le_of_ble_eq_true rfl, Nat.le_of_ble_eq_true rfl⟩ hG hZ hP hD hS hA 0 rfl rfl rfl [0] [] rfl rfl rfl rfl rfl hl.1 rfl (Nat.le_of_ble_eq_true rfl) d_17_10_31 ⟨Nat.le_of_ble_eq_true rfl, Nat.le_of_ble_eq_true rfl⟩ (fun u48 H locs hP hD hS => ?_)
  have hP : va_P z.1 classes [(a0, .inr (14, [.ref a1, .int 0, .ref a2, .ref a3, .int 0, .ref a4, .ref (u0.1 0)]))] H := hP
  have hD : va_D A [(a0, .inr (14, [.ref a1, .int 0, .ref a2, .ref a3, .int 0, .ref a4, .ref (u0.1 0)]))] := hD
  refine W.eq (g2 := F0 m 34 ls [.int 0, .int 0]) rfl ?_
  refine lv_if_eq (tgt := 69) hx hb d_17_10_34 (by decide) (fun _ => ?_) (fun c9 => absurd (by decide +kernel) c9)
  refine lv_iconst (v := (-1)) hx hb d_17_10_69 (by decide +kernel) ?_
  refine lv_iand hx hb d_17_10_70 ?_
  refine nrm (x1 := 0) (by decide +kernel) ?_
  refine lv_istore_n (lv' := [(2, .int 0), (4, .int 7), (3, .int 5), (1, .ref (u0.1 0)), (0, .ref a0)]) hx hb d_17_10_71 rfl hl (by decide) rfl (fun ls hl => ?_)
  refine lv_iinc (v := 8) (lv' := [(4, .int 8), (2, .int 0), (3, .int 5), (1, .ref (u0.1 0)), (0, .ref a0)]) hx hb d_17_10_72 hl (k := 1) rfl (by decide +kernel) (by decide) rfl (fun ls hl => ?_)
  refine lv_goto (tgt := 21) hx hb d_17_10_75 (by decide) ?_
  refine lv_iload hx hb d_17_10_21 (lv_at hl 0 rfl) ?_
  refine lv_bipush (v := 8) hx hb d_17_10_23 (by decide +kernel) ?_
  refine lv_icmp_ge (tgt := 78) hx hb d_17_10_25 (by decide) (fun _ => ?_) (fun c9 => absurd (by decide +kernel) c9)
  refine lv_iinc (v := 6) (lv' := [(3, .int 6), (4, .int 8), (2, .int 0), (1, .ref (u0.1 0)), (0, .ref a0)]) hx hb d_17_10_78 hl (k := 2) rfl (by decide +kernel) (by decide) rfl (fun ls hl => ?_)
  refine lv_goto (tgt := 12) hx hb d_17_10_81 (by decide) ?_
  refine lv_iload_n hx hb d_17_10_12 rfl (lv_at hl 0 rfl) ?_
  refine lv_bipush (v := 8) hx hb d_17_10_13 (by decide +kernel) ?_
  refine lv_icmp_ge (tgt := 84) hx hb d_17_10_15 (by decide) (fun c9 => absurd c9 (by decide +kernel)) (fun _ => ?_)
  refine lv_iconst (v := 0) hx hb d_17_10_18 (by decide +kernel) ?_
  refine lv_istore (lv' := [(4, .int 0), (3, .int 6), (2, .int 0), (1, .ref (u0.1 0)), (0, .ref a0)]) hx hb d_17_10_19 hl (by decide) rfl (fun ls hl => ?_)
  refine lv_iload hx hb d_17_10_21 (lv_at hl 0 rfl) ?_
  refine lv_bipush (v := 8) hx hb d_17_10_23 (by decide +kernel) ?_
  refine lv_icmp_ge (tgt := 78) hx hb d_17_10_25 (by decide) (fun c9 => absurd c9 (by decide +kernel)) (fun _ => ?_)
  refine lv_iload_n hx hb d_17_10_28 rfl (lv_at hl 2 rfl) ?_
  refine lv_aload_n hx hb d_17_10_29 rfl (lv_at hl 4 rfl) ?_
  refine lv_iload_n hx hb d_17_10_30 rfl (lv_at hl 1 rfl) ?_
  refine kV (As := [.int 6]) (rest := [.int 0]) (wr := []) (c308_Poll_isIn l z a0 a1 a2 a3 a4 (u0.1 0)) hx hb hml hown hts w_2302 w_2299 w_2300 w_2301 w_36 md_2288df ⟨Nat.le_of_ble_eq_true rfl, Nat.le_of_ble_eq_true rfl⟩ hG hZ hP hD hS hA 0 rfl rfl rfl [0] [] rfl rfl rfl rfl rfl hl.1 rfl (Nat.le_of_ble_eq_true rfl) d_17_10_31 ⟨Nat.le_of_ble_eq_true rfl, Nat.le_of_ble_eq_true rfl⟩ (fun u49 H locs hP hD hS => ?_)
  have hP : va_P z.1 classes [(a0, .inr (14, [.ref a1, .int 0, .ref a2, .ref a3, .int 0, .ref a4, .ref (u0.1 0)]))] H := hP
  have hD : va_D A [(a0, .inr (14, [.ref a1, .int 0, .ref a2, .ref a3, .int 0, .ref a4, .ref (u0.1 0)]))] := hD
  refine W.eq (g2 := F0 m 34 ls [.int 0, .int 0]) rfl ?_
  refine lv_if_eq (tgt := 69) hx hb d_17_10_34 (by decide) (fun _ => ?_) (fun c9 => absurd (by decide +kernel) c9)
  refine lv_iconst (v := (-1)) hx hb d_17_10_69 (by decide +kernel) ?_
  refine lv_iand hx hb d_17_10_70 ?_
  refine nrm (x1 := 0) (by decide +kernel) ?_
  refine lv_istore_n (lv' := [(2, .int 0), (4, .int 0), (3, .int 6), (1, .ref (u0.1 0)), (0, .ref a0)]) hx hb d_17_10_71 rfl hl (by decide) rfl (fun ls hl => ?_)
  refine lv_iinc (v := 1) (lv' := [(4, .int 1), (2, .int 0), (3, .int 6), (1, .ref (u0.1 0)), (0, .ref a0)]) hx hb d_17_10_72 hl (k := 1) rfl (by decide +kernel) (by decide) rfl (fun ls hl => ?_)
  refine lv_goto (tgt := 21) hx hb d_17_10_75 (by decide) ?_
  refine lv_iload hx hb d_17_10_21 (lv_at hl 0 rfl) ?_
  refine lv_bipush (v := 8) hx hb d_17_10_23 (by decide +kernel) ?_
  refine lv_icmp_ge (tgt := 78) hx hb d_17_10_25 (by decide) (fun c9 => absurd c9 (by decide +kernel)) (fun _ => ?_)
  refine lv_iload_n hx hb d_17_10_28 rfl (lv_at hl 1 rfl) ?_
  refine lv_aload_n hx hb d_17_10_29 rfl (lv_at hl 4 rfl) ?_
  refine lv_iload_n hx hb d_17_10_30 rfl (lv_at hl 2 rfl) ?_
  refine kV (As := [.int 6]) (rest := [.int 0]) (wr := []) (c308_Poll_isIn l z a0 a1 a2 a3 a4 (u0.1 0)) hx hb hml hown hts w_2302 w_2299 w_2300 w_2301 w_36 md_2288df ⟨Nat.le_of_ble_eq_true rfl, Nat.le_of_ble_eq_true rfl⟩ hG hZ hP hD hS hA 0 rfl rfl rfl [0] [] rfl rfl rfl rfl rfl hl.1 rfl (Nat.le_of_ble_eq_true rfl) d_17_10_31 ⟨Nat.le_of_ble_eq_true rfl, Nat.le_of_ble_eq_true rfl⟩ (fun u50 H locs hP hD hS => ?_)
  have hP : va_P z.1 classes [(a0, .inr (14, [.ref a1, .int 0, .ref a2, .ref a3, .int 0, .ref a4, .ref (u0.1 0)]))] H := hP
  have hD : va_D A [(a0, .inr (14, [.ref a1, .int 0, .ref a2, .ref a3, .int 0, .ref a4, .ref (u0.1 0)]))] := hD
  refine W.eq (g2 := F0 m 34 ls [.int 0, .int 0]) rfl ?_
  refine lv_if_eq (tgt := 69) hx hb d_17_10_34 (by decide) (fun _ => ?_) (fun c9 => absurd (by decide +kernel) c9)
  refine lv_iconst (v := (-1)) hx hb d_17_10_69 (by decide +kernel) ?_
  refine lv_iand hx hb d_17_10_70 ?_
  refine nrm (x1 := 0) (by decide +kernel) ?_
  refine lv_istore_n (lv' := [(2, .int 0), (4, .int 1), (3, .int 6), (1, .ref (u0.1 0)), (0, .ref a0)]) hx hb d_17_10_71 rfl hl (by decide) rfl (fun ls hl => ?_)
  refine lv_iinc (v := 2) (lv' := [(4, .int 2), (2, .int 0), (3, .int 6), (1, .ref (u0.1 0)), (0, .ref a0)]) hx hb d_17_10_72 hl (k := 1) rfl (by decide +kernel) (by decide) rfl (fun ls hl => ?_)
  refine lv_goto (tgt := 21) hx hb d_17_10_75 (by decide) ?_
  refine lv_iload hx hb d_17_10_21 (lv_at hl 0 rfl) ?_
  refine lv_bipush (v := 8) hx hb d_17_10_23 (by decide +kernel) ?_
  refine lv_icmp_ge (tgt := 78) hx hb d_17_10_25 (by decide) (fun c9 => absurd c9 (by decide +kernel)) (fun _ => ?_)
  refine lv_iload_n hx hb d_17_10_28 rfl (lv_at hl 1 rfl) ?_
  refine lv_aload_n hx hb d_17_10_29 rfl (lv_at hl 4 rfl) ?_
  refine lv_iload_n hx hb d_17_10_30 rfl (lv_at hl 2 rfl) ?_
  refine kV (As := [.int 6]) (rest := [.int 0]) (wr := []) (c308_Poll_isIn l z a0 a1 a2 a3 a4 (u0.1 0)) hx hb hml hown hts w_2302 w_2299 w_2300 w_2301 w_36 md_2288df ⟨Nat.le_of_ble_eq_true rfl, Nat.le_of_ble_eq_true rfl⟩ hG hZ hP hD hS hA 0 rfl rfl rfl [0] [] rfl rfl rfl rfl rfl hl.1 rfl (Nat.le_of_ble_eq_true rfl) d_17_10_31 ⟨Nat.le_of_ble_eq_true rfl, Nat.le_of_ble_eq_true rfl⟩ (fun u51 H locs hP hD hS => ?_)
  have hP : va_P z.1 classes [(a0, .inr (14, [.ref a1, .int 0, .ref a2, .ref a3, .int 0, .ref a4, .ref (u0.1 0)]))] H := hP
  have hD : va_D A [(a0, .inr (14, [.ref a1, .int 0, .ref a2, .ref a3, .int 0, .ref a4, .ref (u0.1 0)]))] := hD
  refine W.eq (g2 := F0 m 34 ls [.int 0, .int 0]) rfl ?_
  refine lv_if_eq (tgt := 69) hx hb d_17_10_34 (by decide) (fun _ => ?_) (fun c9 => absurd (by decide +kernel) c9)
  refine lv_iconst (v := (-1)) hx hb d_17_10_69 (by decide +kernel) ?_
  refine lv_iand hx hb d_17_10_70 ?_
  refine nrm (x1 := 0) (by decide +kernel) ?_
  refine lv_istore_n (lv' := [(2, .int 0), (4, .int 2), (3, .int 6), (1, .ref (u0.1 0)), (0, .ref a0)]) hx hb d_17_10_71 rfl hl (by decide) rfl (fun ls hl => ?_)
  refine lv_iinc (v := 3) (lv' := [(4, .int 3), (2, .int 0), (3, .int 6), (1, .ref (u0.1 0)), (0, .ref a0)]) hx hb d_17_10_72 hl (k := 1) rfl (by decide +kernel) (by decide) rfl (fun ls hl => ?_)
  refine lv_goto (tgt := 21) hx hb d_17_10_75 (by decide) ?_
  refine lv_iload hx hb d_17_10_21 (lv_at hl 0 rfl) ?_
  refine lv_bipush (v := 8) hx hb d_17_10_23 (by decide +kernel) ?_
  refine lv_icmp_ge (tgt := 78) hx hb d_17_10_25 (by decide) (fun c9 => absurd c9 (by decide +kernel)) (fun _ => ?_)
  refine lv_iload_n hx hb d_17_10_28 rfl (lv_at hl 1 rfl) ?_
  refine lv_aload_n hx hb d_17_10_29 rfl (lv_at hl 4 rfl) ?_
  refine lv_iload_n hx hb d_17_10_30 rfl (lv_at hl 2 rfl) ?_
  refine kV (As := [.int 6]) (rest := [.int 0]) (wr := []) (c308_Poll_isIn l z a0 a1 a2 a3 a4 (u0.1 0)) hx hb hml hown hts w_2302 w_2299 w_2300 w_2301 w_36 md_2288df ⟨Nat.le_of_ble_eq_true rfl, Nat.le_of_ble_eq_true rfl⟩ hG hZ hP hD hS hA 0 rfl rfl rfl [0] [] rfl rfl rfl rfl rfl hl.1 rfl (Nat.le_of_ble_eq_true rfl) d_17_10_31 ⟨Nat.le_of_ble_eq_true rfl, Nat.le_of_ble_eq_true rfl⟩ (fun u52 H locs hP hD hS => ?_)
  have hP : va_P z.1 classes [(a0, .inr (14, [.ref a1, .int 0, .ref a2, .ref a3, .int 0, .ref a4, .ref (u0.1 0)]))] H := hP
  have hD : va_D A [(a0, .inr (14, [.ref a1, .int 0, .ref a2, .ref a3, .int 0, .ref a4, .ref (u0.1 0)]))] := hD
  refine W.eq (g2 := F0 m 34 ls [.int 0, .int 0]) rfl ?_
  refine lv_if_eq (tgt := 69) hx hb d_17_10_34 (by decide) (fun _ => ?_) (fun c9 => absurd (by decide +kernel) c9)
  refine lv_iconst (v := (-1)) hx hb d_17_10_69 (by decide +kernel) ?_
  refine lv_iand hx hb d_17_10_70 ?_
  refine nrm (x1 := 0) (by decide +kernel) ?_
  refine lv_istore_n (lv' := [(2, .int 0), (4, .int 3), (3, .int 6), (1, .ref (u0.1 0)), (0, .ref a0)]) hx hb d_17_10_71 rfl hl (by decide) rfl (fun ls hl => ?_)
  refine lv_iinc (v := 4) (lv' := [(4, .int 4), (2, .int 0), (3, .int 6), (1, .ref (u0.1 0)), (0, .ref a0)]) hx hb d_17_10_72 hl (k := 1) rfl (by decide +kernel) (by decide) rfl (fun ls hl => ?_)
  refine lv_goto (tgt := 21) hx hb d_17_10_75 (by decide) ?_
  refine lv_iload hx hb d_17_10_21 (lv_at hl 0 rfl) ?_
  refine lv_bipush (v := 8) hx hb d_17_10_23 (by decide +kernel) ?_
  refine lv_icmp_ge (tgt := 78) hx hb d_17_10_25 (by decide) (fun c9 => absurd c9 (by decide +kernel)) (fun _ => ?_)
  refine lv_iload_n hx hb d_17_10_28 rfl (lv_at hl 1 rfl) ?_
  refine lv_aload_n hx hb d_17_10_29 rfl (lv_at hl 4 rfl) ?_
  refine lv_iload_n hx hb d_17_10_30 rfl (lv_at hl 2 rfl) ?_
  refine kV (As := [.int 6]) (rest := [.int 0]) (wr := []) (c308_Poll_isIn l z a0 a1 a2 a3 a4 (u0.1 0)) hx hb hml hown hts w_2302 w_2299 w_2300 w_2301 w_36 md_2288df ⟨Nat.le_of_ble_eq_true rfl, Nat.le_of_ble_eq_true rfl⟩ hG hZ hP hD hS hA 0 rfl rfl rfl [0] [] rfl rfl rfl rfl rfl hl.1 rfl (Nat.le_of_ble_eq_true rfl) d_17_10_31 ⟨Nat.le_of_ble_eq_true rfl, Nat.le_of_ble_eq_true rfl⟩ (fun u53 H locs hP hD hS => ?_)
  have hP : va_P z.1 classes [(a0, .inr (14, [.ref a1, .int 0, .ref a2, .ref a3, .int 0, .ref a4, .ref (u0.1 0)]))] H := hP
  have hD : va_D A [(a0, .inr (14, [.ref a1, .int 0, .ref a2, .ref a3, .int 0, .ref a4, .ref (u0.1 0)]))] := hD
  refine W.eq (g2 := F0 m 34 ls [.int 0, .int 0]) rfl ?_
  refine lv_if_eq (tgt := 69) hx hb d_17_10_34 (by decide) (fun _ => ?_) (fun c9 => absurd (by decide +kernel) c9)
  refine lv_iconst (v := (-1)) hx hb d_17_10_69 (by decide +kernel) ?_
  refine lv_iand hx hb d_17_10_70 ?_
  refine nrm (x1 := 0) (by decide +kernel) ?_
  refine lv_istore_n (lv' := [(2, .int 0), (4, .int 4), (3, .int 6), (1, .ref (u0.1 0)), (0, .ref a0)]) hx hb d_17_10_71 rfl hl (by decide) rfl (fun ls hl => ?_)
  refine lv_iinc (v := 5) (lv' := [(4, .int 5), (2, .int 0), (3, .int 6), (1, .ref (u0.1 0)), (0, .ref a0)]) hx hb d_17_10_72 hl (k := 1) rfl (by decide +kernel) (by decide) rfl (fun ls hl => ?_)
  refine lv_goto (tgt := 21) hx hb d_17_10_75 (by decide) ?_
  refine lv_iload hx hb d_17_10_21 (lv_at hl 0 rfl) ?_
  refine lv_bipush (v := 8) hx hb d_17_10_23 (by decide +kernel) ?_
  refine lv_icmp_ge (tgt := 78) hx hb d_17_10_25 (by decide) (fun c9 => absurd c9 (by decide +kernel)) (fun _ => ?_)
  refine lv_iload_n hx hb d_17_10_28 rfl (lv_at hl 1 rfl) ?_
  refine lv_aload_n hx hb d_17_10_29 rfl (lv_at hl 4 rfl) ?_
  refine lv_iload_n hx hb d_17_10_30 rfl (lv_at hl 2 rfl) ?_
  refine kV (As := [.int 6]) (rest := [.int 0]) (wr := []) (c308_Poll_isIn l z a0 a1 a2 a3 a4 (u0.1 0)) hx hb hml hown hts w_2302 w_2299 w_2300 w_2301 w_36 md_2288df ⟨Nat.le_of_ble_eq_true rfl, Nat.le_of_ble_eq_true rfl⟩ hG hZ hP hD hS hA 0 rfl rfl rfl [0] [] rfl rfl rfl rfl rfl hl.1 rfl (Nat.le_of_ble_eq_true rfl) d_17_10_31 ⟨Nat.le_of_ble_eq_true rfl, Nat.le_of_ble_eq_true rfl⟩ (fun u54 H locs hP hD hS => ?_)
  have hP : va_P z.1 classes [(a0, .inr (14, [.ref a1, .int 0, .ref a2, .ref a3, .int 0, .ref a4, .ref (u0.1 0)]))] H := hP
  have hD : va_D A [(a0, .inr (14, [.ref a1, .int 0, .ref a2, .ref a3, .int 0, .ref a4, .ref (u0.1 0)]))] := hD
  refine W.eq (g2 := F0 m 34 ls [.int 0, .int 0]) rfl ?_
  refine lv_if_eq (tgt := 69) hx hb d_17_10_34 (by decide) (fun _ => ?_) (fun c9 => absurd (by decide +kernel) c9)
  refine lv_iconst (v := (-1)) hx hb d_17_10_69 (by decide +kernel) ?_
  refine lv_iand hx hb d_17_10_70 ?_
  refine nrm (x1 := 0) (by decide +kernel) ?_
  refine lv_istore_n (lv' := [(2, .int 0), (4, .int 5), (3, .int 6), (1, .ref (u0.1 0)), (0, .ref a0)]) hx hb d_17_10_71 rfl hl (by decide) rfl (fun ls hl => ?_)
  refine lv_iinc (v := 6) (lv' := [(4, .int 6), (2, .int 0), (3, .int 6), (1, .ref (u0.1 0)), (0, .ref a0)]) hx hb d_17_10_72 hl (k := 1) rfl (by decide +kernel) (by decide) rfl (fun ls hl => ?_)
  refine lv_goto (tgt := 21) hx hb d_17_10_75 (by decide) ?_
  refine lv_iload hx hb d_17_10_21 (lv_at hl 0 rfl) ?_
  refine lv_bipush (v := 8) hx hb d_17_10_23 (by decide +kernel) ?_
  refine lv_icmp_ge (tgt := 78) hx hb d_17_10_25 (by decide) (fun c9 => absurd c9 (by decide +kernel)) (fun _ => ?_)
  refine lv_iload_n hx hb d_17_10_28 rfl (lv_at hl 1 rfl) ?_
  refine lv_aload_n hx hb d_17_10_29 rfl (lv_at hl 4 rfl) ?_
  refine lv_iload_n hx hb d_17_10_30 rfl (lv_at hl 2 rfl) ?_
  refine kV (As := [.int 6]) (rest := [.int 0]) (wr := []) (c308_Poll_isIn l z a0 a1 a2 a3 a4 (u0.1 0)) hx hb hml hown hts w_2302 w_2299 w_2300 w_2301 w_36 md_2288df ⟨Nat.le_of_ble_eq_true rfl, Nat.le_of_ble_eq_true rfl⟩ hG hZ hP hD hS hA 0 rfl rfl rfl [0] [] rfl rfl rfl rfl rfl hl.1 rfl (Nat.le_of_ble_eq_true rfl) d_17_10_31 ⟨Nat.le_of_ble_eq_true rfl, Nat.le_of_ble_eq_true rfl⟩ (fun u55 H locs hP hD hS => ?_)
  have hP : va_P z.1 classes [(a0, .inr (14, [.ref a1, .int 0, .ref a2, .ref a3, .int 0, .ref a4, .ref (u0.1 0)]))] H := hP
  have hD : va_D A [(a0, .inr (14, [.ref a1, .int 0, .ref a2, .ref a3, .int 0, .ref a4, .ref (u0.1 0)]))] := hD
  refine W.eq (g2 := F0 m 34 ls [.int 0, .int 0]) rfl ?_
  refine lv_if_eq (tgt := 69) hx hb d_17_10_34 (by decide) (fun _ => ?_) (fun c9 => absurd (by decide +kernel) c9)
  refine lv_iconst (v := (-1)) hx hb d_17_10_69 (by decide +kernel) ?_
  refine lv_iand hx hb d_17_10_70 ?_
  refine nrm (x1 := 0) (by decide +kernel) ?_
  refine lv_istore_n (lv' := [(2, .int 0), (4, .int 6), (3, .int 6), (1, .ref (u0.1 0)), (0, .ref a0)]) hx hb d_17_10_71 rfl hl (by decide) rfl (fun ls hl => ?_)
  refine lv_iinc (v := 7) (lv' := [(4, .int 7), (2, .int 0), (3, .int 6), (1, .ref (u0.1 0)), (0, .ref a0)]) hx hb d_17_10_72 hl (k := 1) rfl (by decide +kernel) (by decide) rfl (fun ls hl => ?_)
  refine lv_goto (tgt := 21) hx hb d_17_10_75 (by decide) ?_
  refine lv_iload hx hb d_17_10_21 (lv_at hl 0 rfl) ?_
  refine lv_bipush (v := 8) hx hb d_17_10_23 (by decide +kernel) ?_
  refine lv_icmp_ge (tgt := 78) hx hb d_17_10_25 (by decide) (fun c9 => absurd c9 (by decide +kernel)) (fun _ => ?_)
  refine lv_iload_n hx hb d_17_10_28 rfl (lv_at hl 1 rfl) ?_
  refine lv_aload_n hx hb d_17_10_29 rfl (lv_at hl 4 rfl) ?_
  refine lv_iload_n hx hb d_17_10_30 rfl (lv_at hl 2 rfl) ?_
  refine kV (As := [.int 6]) (rest := [.int 0]) (wr := []) (c308_Poll_isIn l z a0 a1 a2 a3 a4 (u0.1 0)) hx hb hml hown hts w_2302 w_2299 w_2300 w_2301 w_36 md_2288df ⟨Nat.le_of_ble_eq_true rfl, Nat.le_of_ble_eq_true rfl⟩ hG hZ hP hD hS hA 0 rfl rfl rfl [0] [] rfl rfl rfl rfl rfl hl.1 rfl (Nat.le_of_ble_eq_true rfl) d_17_10_31 ⟨Nat.le_of_ble_eq_true rfl, Nat.le_of_ble_eq_true rfl⟩ (fun u56 H locs hP hD hS => ?_)
  have hP : va_P z.1 classes [(a0, .inr (14, [.ref a1, .int 0, .ref a2, .ref a3, .int 0, .ref a4, .ref (u0.1 0)]))] H := hP
  have hD : va_D A [(a0, .inr (14, [.ref a1, .int 0, .ref a2, .ref a3, .int 0, .ref a4, .ref (u0.1 0)]))] := hD
  refine W.eq (g2 := F0 m 34 ls [.int 0, .int 0]) rfl ?_
  refine lv_if_eq (tgt := 69) hx hb d_17_10_34 (by decide) (fun _ => ?_) (fun c9 => absurd (by decide +kernel) c9)
  refine lv_iconst (v := (-1)) hx hb d_17_10_69 (by decide +kernel) ?_
  refine lv_iand hx hb d_17_10_70 ?_
  refine nrm (x1 := 0) (by decide +kernel) ?_
  refine lv_istore_n (lv' := [(2, .int 0), (4, .int 7), (3, .int 6), (1, .ref (u0.1 0)), (0, .ref a0)]) hx hb d_17_10_71 rfl hl (by decide) rfl (fun ls hl => ?_)
  refine lv_iinc (v := 8) (lv' := [(4, .int 8), (2, .int 0), (3, .int 6), (1, .ref (u0.1 0)), (0, .ref a0)]) hx hb d_17_10_72 hl (k := 1) rfl (by decide +kernel) (by decide) rfl (fun ls hl => ?_)
  refine lv_goto (tgt := 21) hx hb d_17_10_75 (by decide) ?_
  refine lv_iload hx hb d_17_10_21 (lv_at hl 0 rfl) ?_
  refine lv_bipush (v := 8) hx hb d_17_10_23 (by decide +kernel) ?_
  refine lv_icmp_ge (tgt := 78) hx hb d_17_10_25 (by decide) (fun _ => ?_) (fun c9 => absurd (by decide +kernel) c9)
  refine lv_iinc (v := 7) (lv' := [(3, .int 7), (4, .int 8), (2, .int 0), (1, .ref (u0.1 0)), (0, .ref a0)]) hx hb d_17_10_78 hl (k := 2) rfl (by decide +kernel) (by decide) rfl (fun ls hl => ?_)
  refine lv_goto (tgt := 12) hx hb d_17_10_81 (by decide) ?_
  refine lv_iload_n hx hb d_17_10_12 rfl (lv_at hl 0 rfl) ?_
  refine lv_bipush (v := 8) hx hb d_17_10_13 (by decide +kernel) ?_
  refine lv_icmp_ge (tgt := 84) hx hb d_17_10_15 (by decide) (fun c9 => absurd c9 (by decide +kernel)) (fun _ => ?_)
  refine lv_iconst (v := 0) hx hb d_17_10_18 (by decide +kernel) ?_
  refine lv_istore (lv' := [(4, .int 0), (3, .int 7), (2, .int 0), (1, .ref (u0.1 0)), (0, .ref a0)]) hx hb d_17_10_19 hl (by decide) rfl (fun ls hl => ?_)
  refine lv_iload hx hb d_17_10_21 (lv_at hl 0 rfl) ?_
  refine lv_bipush (v := 8) hx hb d_17_10_23 (by decide +kernel) ?_
  refine lv_icmp_ge (tgt := 78) hx hb d_17_10_25 (by decide) (fun c9 => absurd c9 (by decide +kernel)) (fun _ => ?_)
  refine lv_iload_n hx hb d_17_10_28 rfl (lv_at hl 2 rfl) ?_
  refine lv_aload_n hx hb d_17_10_29 rfl (lv_at hl 4 rfl) ?_
  refine lv_iload_n hx hb d_17_10_30 rfl (lv_at hl 1 rfl) ?_
  refine kV (As := [.int 7]) (rest := [.int 0]) (wr := []) (c309_Poll_isIn l z a0 a1 a2 a3 a4 (u0.1 0)) hx hb hml hown hts w_2302 w_2299 w_2300 w_2301 w_36 md_2288df ⟨Nat.le_of_ble_eq_true rfl, Nat.le_of_ble_eq_true rfl⟩ hG hZ hP hD hS hA 0 rfl rfl rfl [0] [] rfl rfl rfl rfl rfl hl.1 rfl (Nat.le_of_ble_eq_true rfl) d_17_10_31 ⟨Nat.le_of_ble_eq_true rfl, Nat.le_of_ble_eq_true rfl⟩ (fun u57 H locs hP hD hS => ?_)
  have hP : va_P z.1 classes [(a0, .inr (14, [.ref a1, .int 0, .ref a2, .ref a3, .int 0, .ref a4, .ref (u0.1 0)]))] H := hP
  have hD : va_D A [(a0, .inr (14, [.ref a1, .int 0, .ref a2, .ref a3, .int 0, .ref a4, .ref (u0.1 0)]))] := hD
  refine W.eq (g2 := F0 m 34 ls [.int 0, .int 0]) rfl ?_
  refine lv_if_eq (tgt := 69) hx hb d_17_10_34 (by decide) (fun _ => ?_) (fun c9 => absurd (by decide +kernel) c9)
  refine lv_iconst (v := (-1)) hx hb d_17_10_69 (by decide +kernel) ?_
  refine lv_iand hx hb d_17_10_70 ?_
  refine nrm (x1 := 0) (by decide +kernel) ?_
  refine lv_istore_n (lv' := [(2, .int 0), (4, .int 0), (3, .int 7), (1, .ref (u0.1 0)), (0, .ref a0)]) hx hb d_17_10_71 rfl hl (by decide) rfl (fun ls hl => ?_)
  refine lv_iinc (v := 1) (lv' := [(4, .int 1), (2, .int 0), (3, .int 7), (1, .ref (u0.1 0)), (0, .ref a0)]) hx hb d_17_10_72 hl (k := 1) rfl (by decide +kernel) (by decide) rfl (fun ls hl => ?_)
  refine lv_goto (tgt := 21) hx hb d_17_10_75 (by decide) ?_
  refine lv_iload hx hb d_17_10_21 (lv_at hl 0 rfl) ?_
  refine lv_bipush (v := 8) hx hb d_17_10_23 (by decide +kernel) ?_
  refine lv_icmp_ge (tgt := 78) hx hb d_17_10_25 (by decide) (fun c9 => absurd c9 (by decide +kernel)) (fun _ => ?_)
  refine lv_iload_n hx hb d_17_10_28 rfl (lv_at hl 1 rfl) ?_
  refine lv_aload_n hx hb d_17_10_29 rfl (lv_at hl 4 rfl) ?_
  refine lv_iload_n hx hb d_17_10_30 rfl (lv_at hl 2 rfl) ?_
  refine kV (As := [.int 7]) (rest := [.int 0]) (wr := []) (c309_Poll_isIn l z a0 a1 a2 a3 a4 (u0.1 0)) hx hb hml hown hts w_2302 w_2299 w_2300 w_2301 w_36 md_2288df ⟨Nat.le_of_ble_eq_true rfl, Nat.le_of_ble_eq_true rfl⟩ hG hZ hP hD hS hA 0 rfl rfl rfl [0] [] rfl rfl rfl rfl rfl hl.1 rfl (Nat.le_of_ble_eq_true rfl) d_17_10_31 ⟨Nat.le_of_ble_eq_true rfl, Nat.le_of_ble_eq_true rfl⟩ (fun u58 H locs hP hD hS => ?_)
  have hP : va_P z.1 classes [(a0, .inr (14, [.ref a1, .int 0, .ref a2, .ref a3, .int 0, .ref a4, .ref (u0.1 0)]))] H := hP
  have hD : va_D A [(a0, .inr (14, [.ref a1, .int 0, .ref a2, .ref a3, .int 0, .ref a4, .ref (u0.1 0)]))] := hD
  refine W.eq (g2 := F0 m 34 ls [.int 0, .int 0]) rfl ?_
  refine lv_if_eq (tgt := 69) hx hb d_17_10_34 (by decide) (fun _ => ?_) (fun c9 => absurd (by decide +kernel) c9)
  refine lv_iconst (v := (-1)) hx hb d_17_10_69 (by decide +kernel) ?_
  refine lv_iand hx hb d_17_10_70 ?_
  refine nrm (x1 := 0) (by decide +kernel) ?_
  refine lv_istore_n (lv' := [(2, .int 0), (4, .int 1), (3, .int 7), (1, .ref (u0.1 0)), (0, .ref a0)]) hx hb d_17_10_71 rfl hl (by decide) rfl (fun ls hl => ?_)
  refine lv_iinc (v := 2) (lv' := [(4, .int 2), (2, .int 0), (3, .int 7), (1, .ref (u0.1 0)), (0, .ref a0)]) hx hb d_17_10_72 hl (k := 1) rfl (by decide +kernel) (by decide) rfl (fun ls hl => ?_)
  refine lv_goto (tgt := 21) hx hb d_17_10_75 (by decide) ?_
  refine lv_iload hx hb d_17_10_21 (lv_at hl 0 rfl) ?_
  refine lv_bipush (v := 8) hx hb d_17_10_23 (by decide +kernel) ?_
  refine lv_icmp_ge (tgt := 78) hx hb d_17_10_25 (by decide) (fun c9 => absurd c9 (by decide +kernel)) (fun _ => ?_)
  refine lv_iload_n hx hb d_17_10_28 rfl (lv_at hl 1 rfl) ?_
  refine lv_aload_n hx hb d_17_10_29 rfl (lv_at hl 4 rfl) ?_
  refine lv_iload_n hx hb d_17_10_30 rfl (lv_at hl 2 rfl) ?_
  refine kV (As := [.int 7]) (rest := [.int 0]) (wr := []) (c309_Poll_isIn l z a0 a1 a2 a3 a4 (u0.1 0)) hx hb hml hown hts w_2302 w_2299 w_2300 w_2301 w_36 md_2288df ⟨Nat.le_of_ble_eq_true rfl, Nat.le_of_ble_eq_true rfl⟩ hG hZ hP hD hS hA 0 rfl rfl rfl [0] [] rfl rfl rfl rfl rfl hl.1 rfl (Nat.le_of_ble_eq_true rfl) d_17_10_31 ⟨Nat.le_of_ble_eq_true rfl, Nat.le_of_ble_eq_true rfl⟩ (fun u59 H locs hP hD hS => ?_)
  have hP : va_P z.1 classes [(a0, .inr (14, [.ref a1, .int 0, .ref a2, .ref a3, .int 0, .ref a4, .ref (u0.1 0)]))] H := hP
  have hD : va_D A [(a0, .inr (14, [.ref a1, .int 0, .ref a2, .ref a3, .int 0, .ref a4, .ref (u0.1 0)]))] := hD
  refine W.eq (g2 := F0 m 34 ls [.int 0, .int 0]) rfl ?_
  refine lv_if_eq (tgt := 69) hx hb d_17_10_34 (by decide) (fun _ => ?_) (fun c9 => absurd (by decide +kernel) c9)
  refine lv_iconst (v := (-1)) hx hb d_17_10_69 (by decide +kernel) ?_
  refine lv_iand hx hb d_17_10_70 ?_
  refine nrm (x1 := 0) (by decide +kernel) ?_
  refine lv_istore_n (lv' := [(2, .int 0), (4, .int 2), (3, .int 7), (1, .ref (u0.1 0)), (0, .ref a0)]) hx hb d_17_10_71 rfl hl (by decide) rfl (fun ls hl => ?_)
  refine lv_iinc (v := 3) (lv' := [(4, .int 3), (2, .int 0), (3, .int 7), (1, .ref (u0.1 0)), (0, .ref a0)]) hx hb d_17_10_72 hl (k := 1) rfl (by decide +kernel) (by decide) rfl (fun ls hl => ?_)
  refine lv_goto (tgt := 21) hx hb d_17_10_75 (by decide) ?_
  refine lv_iload hx hb d_17_10_21 (lv_at hl 0 rfl) ?_
  refine lv_bipush (v := 8) hx hb d_17_10_23 (by decide +kernel) ?_
  refine lv_icmp_ge (tgt := 78) hx hb d_17_10_25 (by decide) (fun c9 => absurd c9 (by decide +kernel)) (fun _ => ?_)
  refine lv_iload_n hx hb d_17_10_28 rfl (lv_at hl 1 rfl) ?_
  refine lv_aload_n hx hb d_17_10_29 rfl (lv_at hl 4 rfl) ?_
  refine lv_iload_n hx hb d_17_10_30 rfl (lv_at hl 2 rfl) ?_
  refine kV (As := [.int 7]) (rest := [.int 0]) (wr := []) (c309_Poll_isIn l z a0 a1 a2 a3 a4 (u0.1 0)) hx hb hml hown hts w_2302 w_2299 w_2300 w_2301 w_36 md_2288df ⟨Nat.le_of_ble_eq_true rfl, Nat.le_of_ble_eq_true rfl⟩ hG hZ hP hD hS hA 0 rfl rfl rfl [0] [] rfl rfl rfl rfl rfl hl.1 rfl (Nat.le_of_ble_eq_true rfl) d_17_10_31 ⟨Nat.le_of_ble_eq_true rfl, Nat.le_of_ble_eq_true rfl⟩ (fun u60 H locs hP hD hS => ?_)
  have hP : va_P z.1 classes [(a0, .inr (14, [.ref a1, .int 0, .ref a2, .ref a3, .int 0, .ref a4, .ref (u0.1 0)]))] H := hP
  have hD : va_D A [(a0, .inr (14, [.ref a1, .int 0, .ref a2, .ref a3, .int 0, .ref a4, .ref (u0.1 0)]))] := hD
  refine W.eq (g2 := F0 m 34 ls [.int 0, .int 0]) rfl ?_
  refine lv_if_eq (tgt := 69) hx hb d_17_10_34 (by decide) (fun _ => ?_) (fun c9 => absurd (by decide +kernel) c9)
  refine lv_iconst (v := (-1)) hx hb d_17_10_69 (by decide +kernel) ?_
  refine lv_iand hx hb d_17_10_70 ?_
  refine nrm (x1 := 0) (by decide +kernel) ?_
  refine lv_istore_n (lv' := [(2, .int 0), (4, .int 3), (3, .int 7), (1, .ref (u0.1 0)), (0, .ref a0)]) hx hb d_17_10_71 rfl hl (by decide) rfl (fun ls hl => ?_)
  refine lv_iinc (v := 4) (lv' := [(4, .int 4), (2, .int 0), (3, .int 7), (1, .ref (u0.1 0)), (0, .ref a0)]) hx hb d_17_10_72 hl (k := 1) rfl (by decide +kernel) (by decide) rfl (fun ls hl => ?_)
  refine lv_goto (tgt := 21) hx hb d_17_10_75 (by decide) ?_
  refine lv_iload hx hb d_17_10_21 (lv_at hl 0 rfl) ?_
  refine lv_bipush (v := 8) hx hb d_17_10_23 (by decide +kernel) ?_
  refine lv_icmp_ge (tgt := 78) hx hb d_17_10_25 (by decide) (fun c9 => absurd c9 (by decide +kernel)) (fun _ => ?_)
  refine lv_iload_n hx hb d_17_10_28 rfl (lv_at hl 1 rfl) ?_
  refine lv_aload_n hx hb d_17_10_29 rfl (lv_at hl 4 rfl) ?_
  refine lv_iload_n hx hb d_17_10_30 rfl (lv_at hl 2 rfl) ?_
  refine kV (As := [.int 7]) (rest := [.int 0]) (wr := []) (c309_Poll_isIn l z a0 a1 a2 a3 a4 (u0.1 0)) hx hb hml hown hts w_2302 w_2299 w_2300 w_2301 w_36 md_2288df ⟨Nat.le_of_ble_eq_true rfl, Nat.le_of_ble_eq_true rfl⟩ hG hZ hP hD hS hA 0 rfl rfl rfl [0] [] rfl rfl rfl rfl rfl hl.1 rfl (Nat.le_of_ble_eq_true rfl) d_17_10_31 ⟨Nat.le_of_ble_eq_true rfl, Nat.le_of_ble_eq_true rfl⟩ (fun u61 H locs hP hD hS => ?_)
  have hP : va_P z.1 classes [(a0, .inr (14, [.ref a1, .int 0, .ref a2, .ref a3, .int 0, .ref a4, .ref (u0.1 0)]))] H := hP
  have hD : va_D A [(a0, .inr (14, [.ref a1, .int 0, .ref a2, .ref a3, .int 0, .ref a4, .ref (u0.1 0)]))] := hD
  refine W.eq (g2 := F0 m 34 ls [.int 0, .int 0]) rfl ?_
  refine lv_if_eq (tgt := 69) hx hb d_17_10_34 (by decide) (fun _ => ?_) (fun c9 => absurd (by decide +kernel) c9)
  refine lv_iconst (v := (-1)) hx hb d_17_10_69 (by decide +kernel) ?_
  refine lv_iand hx hb d_17_10_70 ?_
  refine nrm (x1 := 0) (by decide +kernel) ?_
  refine lv_istore_n (lv' := [(2, .int 0), (4, .int 4), (3, .int 7), (1, .ref (u0.1 0)), (0, .ref a0)]) hx hb d_17_10_71 rfl hl (by decide) rfl (fun ls hl => ?_)
  refine lv_iinc (v := 5) (lv' := [(4, .int 5), (2, .int 0), (3, .int 7), (1, .ref (u0.1 0)), (0, .ref a0)]) hx hb d_17_10_72 hl (k := 1) rfl (by decide +kernel) (by decide) rfl (fun ls hl => ?_)
  refine lv_goto (tgt := 21) hx hb d_17_10_75 (by decide) ?_
  refine lv_iload hx hb d_17_10_21 (lv_at hl 0 rfl) ?_
  refine lv_bipush (v := 8) hx hb d_17_10_23 (by decide +kernel) ?_
  refine lv_icmp_ge (tgt := 78) hx hb d_17_10_25 (by decide) (fun c9 => absurd c9 (by decide +kernel)) (fun _ => ?_)
  refine lv_iload_n hx hb d_17_10_28 rfl (lv_at hl 1 rfl) ?_
  refine lv_aload_n hx hb d_17_10_29 rfl (lv_at hl 4 rfl) ?_
  refine lv_iload_n hx hb d_17_10_30 rfl (lv_at hl 2 rfl) ?_
  refine kV (As := [.int 7]) (rest := [.int 0]) (wr := []) (c309_Poll_isIn l z a0 a1 a2 a3 a4 (u0.1 0)) hx hb hml hown hts w_2302 w_2299 w_2300 w_2301 w_36 md_2288df ⟨Nat.le_of_ble_eq_true rfl, Nat.le_of_ble_eq_true rfl⟩ hG hZ hP hD hS hA 0 rfl rfl rfl [0] [] rfl rfl rfl rfl rfl hl.1 rfl (Nat.le_of_ble_eq_true rfl) d_17_10_31 ⟨Nat.le_of_ble_eq_true rfl, Nat.le_of_ble_eq_true rfl⟩ (fun u62 H locs hP hD hS => ?_)
  have hP : va_P z.1 classes [(a0, .inr (14, [.ref a1, .int 0, .ref a2, .ref a3, .int 0, .ref a4, .ref (u0.1 0)]))] H := hP
  have hD : va_D A [(a0, .inr (14, [.ref a1, .int 0, .ref a2, .ref a3, .int 0, .ref a4, .ref (u0.1 0)]))] := hD
  refine W.eq (g2 := F0 m 34 ls [.int 0, .int 0]) rfl ?_
  refine lv_if_eq (tgt := 69) hx hb d_17_10_34 (by decide) (fun _ => ?_) (fun c9 => absurd (by decide +kernel) c9)
  refine lv_iconst (v := (-1)) hx hb d_17_10_69 (by decide +kernel) ?_
  refine lv_iand hx hb d_17_10_70 ?_
  refine nrm (x1 := 0) (by decide +kernel) ?_
  refine lv_istore_n (lv' := [(2, .int 0), (4, .int 5), (3, .int 7), (1, .ref (u0.1 0)), (0, .ref a0)]) hx hb d_17_10_71 rfl hl (by decide) rfl (fun ls hl => ?_)
  refine lv_iinc (v := 6) (lv' := [(4, .int 6), (2, .int 0), (3, .int 7), (1, .ref (u0.1 0)), (0, .ref a0)]) hx hb d_17_10_72 hl (k := 1) rfl (by decide +kernel) (by decide) rfl (fun ls hl => ?_)
  refine lv_goto (tgt := 21) hx hb d_17_10_75 (by decide) ?_
  refine lv_iload hx hb d_17_10_21 (lv_at hl 0 rfl) ?_
  refine lv_bipush (v := 8) hx hb d_17_10_23 (by decide +kernel) ?_
  refine lv_icmp_ge (tgt := 78) hx hb d_17_10_25 (by decide) (fun c9 => absurd c9 (by decide +kernel)) (fun _ => ?_)
  refine lv_iload_n hx hb d_17_10_28 rfl (lv_at hl 1 rfl) ?_
  refine lv_aload_n hx hb d_17_10_29 rfl (lv_at hl 4 rfl) ?_
  refine lv_iload_n hx hb d_17_10_30 rfl (lv_at hl 2 rfl) ?_
  refine kV (As := [.int 7]) (rest := [.int 0]) (wr := []) (c309_Poll_isIn l z a0 a1 a2 a3 a4 (u0.1 0)) hx hb hml hown hts w_2302 w_2299 w_2300 w_2301 w_36 md_2288df ⟨Nat.le_of_ble_eq_true rfl, Nat.le_of_ble_eq_true rfl⟩ hG hZ hP hD hS hA 0 rfl rfl rfl [0] [] rfl rfl rfl rfl rfl hl.1 rfl (Nat.le_of_ble_eq_true rfl) d_17_10_31 ⟨Nat.le_of_ble_eq_true rfl, Nat.le_of_ble_eq_true rfl⟩ (fun u63 H locs hP hD hS => ?_)
  have hP : va_P z.1 classes [(a0, .inr (14, [.ref a1, .int 0, .ref a2, .ref a3, .int 0, .ref a4, .ref (u0.1 0)]))] H := hP
  have hD : va_D A [(a0, .inr (14, [.ref a1, .int 0, .ref a2, .ref a3, .int 0, .ref a4, .ref (u0.1 0)]))] := hD
  refine W.eq (g2 := F0 m 34 ls [.int 0, .int 0]) rfl ?_
  refine lv_if_eq (tgt := 69) hx hb d_17_10_34 (by decide) (fun _ => ?_) (fun c9 => absurd (by decide +kernel) c9)
  refine lv_iconst (v := (-1)) hx hb d_17_10_69 (by decide +kernel) ?_
  refine lv_iand hx hb d_17_10_70 ?_
  refine nrm (x1 := 0) (by decide +kernel) ?_
  refine lv_istore_n (lv' := [(2, .int 0), (4, .int 6), (3, .int 7), (1, .ref (u0.1 0)), (0, .ref a0)]) hx hb d_17_10_71 rfl hl (by decide) rfl (fun ls hl => ?_)
  refine lv_iinc (v := 7) (lv' := [(4, .int 7), (2, .int 0), (3, .int 7), (1, .ref (u0.1 0)), (0, .ref a0)]) hx hb d_17_10_72 hl (k := 1) rfl (by decide +kernel) (by decide) rfl (fun ls hl => ?_)
  refine lv_goto (tgt := 21) hx hb d_17_10_75 (by decide) ?_
  refine lv_iload hx hb d_17_10_21 (lv_at hl 0 rfl) ?_
  refine lv_bipush (v := 8) hx hb d_17_10_23 (by decide +kernel) ?_
  refine lv_icmp_ge (tgt := 78) hx hb d_17_10_25 (by decide) (fun c9 => absurd c9 (by decide +kernel)) (fun _ => ?_)
  refine lv_iload_n hx hb d_17_10_28 rfl (lv_at hl 1 rfl) ?_
  refine lv_aload_n hx hb d_17_10_29 rfl (lv_at hl 4 rfl) ?_
  refine lv_iload_n hx hb d_17_10_30 rfl (lv_at hl 2 rfl) ?_
  refine kV (As := [.int 7]) (rest := [.int 0]) (wr := []) (c309_Poll_isIn l z a0 a1 a2 a3 a4 (u0.1 0)) hx hb hml hown hts w_2302 w_2299 w_2300 w_2301 w_36 md_2288df ⟨Nat.le_of_ble_eq_true rfl, Nat.le_of_ble_eq_true rfl⟩ hG hZ hP hD hS hA 0 rfl rfl rfl [0] [] rfl rfl rfl rfl rfl hl.1 rfl (Nat.le_of_ble_eq_true rfl) d_17_10_31 ⟨Nat.le_of_ble_eq_true rfl, Nat.le_of_ble_eq_true rfl⟩ (fun u64 H locs hP hD hS => ?_)
  have hP : va_P z.1 classes [(a0, .inr (14, [.ref a1, .int 0, .ref a2, .ref a3, .int 0, .ref a4, .ref (u0.1 0)]))] H := hP
  have hD : va_D A [(a0, .inr (14, [.ref a1, .int 0, .ref a2, .ref a3, .int 0, .ref a4, .ref (u0.1 0)]))] := hD
  refine W.eq (g2 := F0 m 34 ls [.int 0, .int 0]) rfl ?_
  refine lv_if_eq (tgt := 69) hx hb d_17_10_34 (by decide) (fun _ => ?_) (fun c9 => absurd (by decide +kernel) c9)
  refine lv_iconst (v := (-1)) hx hb d_17_10_69 (by decide +kernel) ?_
  refine lv_iand hx hb d_17_10_70 ?_
  refine nrm (x1 := 0) (by decide +kernel) ?_
  refine lv_istore_n (lv' := [(2, .int 0), (4, .int 7), (3, .int 7), (1, .ref (u0.1 0)), (0, .ref a0)]) hx hb d_17_10_71 rfl hl (by decide) rfl (fun ls hl => ?_)
  refine lv_iinc (v := 8) (lv' := [(4, .int 8), (2, .int 0), (3, .int 7), (1, .ref (u0.1 0)), (0, .ref a0)]) hx hb d_17_10_72 hl (k := 1) rfl (by decide +kernel) (by decide) rfl (fun ls hl => ?_)
  refine lv_goto (tgt := 21) hx hb d_17_10_75 (by decide) ?_
  refine lv_iload hx hb d_17_10_21 (lv_at hl 0 rfl) ?_
  refine lv_bipush (v := 8) hx hb d_17_10_23 (by decide +kernel) ?_
  refine lv_icmp_ge (tgt := 78) hx hb d_17_10_25 (by decide) (fun _ => ?_) (fun c9 => absurd (by decide +kernel) c9)
  refine lv_iinc (v := 8) (lv' := [(3, .int 8), (4, .int 8), (2, .int 0), (1, .ref (u0.1 0)), (0, .ref a0)]) hx hb d_17_10_78 hl (k := 2) rfl (by decide +kernel) (by decide) rfl (fun ls hl => ?_)
  refine lv_goto (tgt := 12) hx hb d_17_10_81 (by decide) ?_
  refine lv_iload_n hx hb d_17_10_12 rfl (lv_at hl 0 rfl) ?_
  refine lv_bipush (v := 8) hx hb d_17_10_13 (by decide +kernel) ?_
  refine lv_icmp_ge (tgt := 84) hx hb d_17_10_15 (by decide) (fun _ => ?_) (fun c9 => absurd (by decide +kernel) c9)
  refine lv_iload_n hx hb d_17_10_84 rfl (lv_at hl 2 rfl) ?_
  refine W.widen (k := 9) (n := 72) (Nat.le_of_ble_eq_true rfl) (Nat.le_of_ble_eq_true rfl) ?_
  exact W.iret hx hb hr (fun t ht hW => qk hP hD hS [0] rfl ((fun k => ([(u0.1 0)] : List Nat).getD k 0), (fun _ _ => none)) rfl rfl rfl ht) hS.2.2 d_17_10_85
set_option maxRecDepth 100000 in
set_option maxHeartbeats 4000000 in
theorem c392_BModel_pathWinners (l : Launch) (z : Zz) (a0 a1 a2 a3 a4 a5 a6 a7 a8 a9 a10 a11 a12 a13 : Nat) : CT l z ⟨"BallothallModel", "pathWinners", "()I"⟩ prog_14_method_61_code 1 (some .int) [.ref a0] [(a0, .inr (18, [.ref a1, .ref a2, .int 0, .ref a3, .int 0, .ref a4, .int 0, .null, .int 0, .null, .long 0, .int 0, .null])), (a1, .inr (17, [.int 0, .ref a5, .ref a6, .int 0, .ref a7, .ref a8, .ref a9, .null, .null, .int 0, .ref a10, .ref a11, .ref a12, .int 0, .ref a13, .int 1]))] 3 93 12 95 (fun u => some (.int 0)) (fun u => [(a0, .inr (18, [.ref a1, .ref a2, .int 0, .ref a3, .int 0, .ref a4, .int 0, .null, .int 0, .null, .long 0, .int 0, .null])), (a1, .inr (17, [.int 0, .ref a5, .ref a6, .int 0, .ref a7, .ref a8, .ref a9, .null, .null, .int 0, .ref a10, .ref a11, .ref a12, .int 0, .ref a13, .int 1]))]) := by
  refine CT.of (own := "BallothallModel") (by decide +kernel) (Nat.le_of_ble_eq_true rfl) rfl (fun p e s m below meth c A ls hx hb hml hr hts hown hlocks hin hA hG hZ hP hD hS hl => ?_)
  have hl : lv_has ls 1 [(0, .ref a0)] := hl
  refine lv_aload_n hx hb d_14_61_0 rfl (lv_at hl 0 rfl) ?_
  refine lv_iconst (v := 0) hx hb d_14_61_1 (by decide +kernel) ?_
  refine va_put (D := z.1) (ci := 18) (v := .int 0) (ty := .int) (C := "BallothallModel") (T := TX18) (N := 13) hx hb hts iX18 tyX18 tyX18_ok nmX18 hown hG.1 hP hD hS 0 rfl rfl 6 (by decide) (hts _ w_1651) (fun _ h9 => h9) rfl (by decide +kernel) rfl rfl (Nat.le_of_ble_eq_true rfl) d_14_61_2 (fun H locs hP hD hS => ?_)
  have hP : va_P z.1 classes [(a0, .inr (18, [.ref a1, .ref a2, .int 0, .ref a3, .int 0, .ref a4, .int 0, .null, .int 0, .null, .long 0, .int 0, .null])), (a1, .inr (17, [.int 0, .ref a5, .ref a6, .int 0, .ref a7, .ref a8, .ref a9, .null, .null, .int 0, .ref a10, .ref a11, .ref a12, .int 0, .ref a13, .int 1]))] H := hP
  have hD : va_D A [(a0, .inr (18, [.ref a1, .ref a2, .int 0, .ref a3, .int 0, .ref a4, .int 0, .null, .int 0, .null, .long 0, .int 0, .null])), (a1, .inr (17, [.int 0, .ref a5, .ref a6, .int 0, .ref a7, .ref a8, .ref a9, .null, .null, .int 0, .ref a10, .ref a11, .ref a12, .int 0, .ref a13, .int 1]))] := hD
  refine lv_aload_n hx hb d_14_61_5 rfl (lv_at hl 0 rfl) ?_
  refine kV (As := []) (rest := []) (wr := []) (c301_BModel_poll l z a0 a1 a2 a3 a4 a5 a6 a7 a8 a9 a10 a11 a12 a13) hx hb hml hown hts w_2246 w_2243 w_2245 w_s_14a2f1 w_12 md_55febb ⟨Nat.le_of_ble_eq_true rfl, Nat.le_of_ble_eq_true rfl⟩ hG hZ hP hD hS hA 0 rfl rfl rfl [0, 1] [] rfl rfl rfl rfl rfl hl.1 rfl (Nat.le_of_ble_eq_true rfl) d_14_61_6 ⟨Nat.le_of_ble_eq_true rfl, Nat.le_of_ble_eq_true rfl⟩ (fun u0 H locs hP hD hS => ?_)
  have hP : va_P z.1 classes [(a0, .inr (18, [.ref a1, .ref a2, .int 0, .ref a3, .int 0, .ref a4, .int 0, .null, .int 0, .null, .long 0, .int 0, .null])), (a1, .inr (17, [.int 0, .ref a5, .ref a6, .int 0, .ref a7, .ref a8, .ref a9, .null, .null, .int 0, .ref a10, .ref a11, .ref a12, .int 0, .ref a13, .int 1])), ((u0.1 0), .inr (14, [.ref a6, .int 0, .ref a5, .ref (u0.1 1), .int 0, .ref (u0.1 2), .null]))] H := hP
  have hD : va_D A [(a0, .inr (18, [.ref a1, .ref a2, .int 0, .ref a3, .int 0, .ref a4, .int 0, .null, .int 0, .null, .long 0, .int 0, .null])), (a1, .inr (17, [.int 0, .ref a5, .ref a6, .int 0, .ref a7, .ref a8, .ref a9, .null, .null, .int 0, .ref a10, .ref a11, .ref a12, .int 0, .ref a13, .int 1])), ((u0.1 0), .inr (14, [.ref a6, .int 0, .ref a5, .ref (u0.1 1), .int 0, .ref (u0.1 2), .null]))] := hD
  refine W.eq (g2 := F0 m 9 ls [.ref (u0.1 0)]) rfl ?_
  refine kV (As := []) (rest := []) (wr := [(a0, .inr (18, [.ref a1, .ref a2, .int 0, .ref a3, .int 0, .ref a4, .int 0, .null, .int 0, .null, .long 0, .int 0, .null])), (a1, .inr (17, [.int 0, .ref a5, .ref a6, .int 0, .ref a7, .ref a8, .ref a9, .null, .null, .int 0, .ref a10, .ref a11, .ref a12, .int 0, .ref a13, .int 1]))]) (c391_Poll_pathWinners l z (u0.1 0) a6 a5 (u0.1 1) (u0.1 2)) hx hb hml hown hts w_2313 w_2310 w_2311 w_2312 w_36 md_fd8608 ⟨Nat.le_of_ble_eq_true rfl, Nat.le_of_ble_eq_true rfl⟩ hG hZ hP hD hS hA 2 rfl rfl rfl [2] [0, 1] rfl rfl rfl rfl rfl hl.1 rfl (Nat.le_of_ble_eq_true rfl) d_14_61_9 ⟨Nat.le_of_ble_eq_true rfl, Nat.le_of_ble_eq_true rfl⟩ (fun u1 H locs hP hD hS => ?_)
  have hP : va_P z.1 classes [(a0, .inr (18, [.ref a1, .ref a2, .int 0, .ref a3, .int 0, .ref a4, .int 0, .null, .int 0, .null, .long 0, .int 0, .null])), (a1, .inr (17, [.int 0, .ref a5, .ref a6, .int 0, .ref a7, .ref a8, .ref a9, .null, .null, .int 0, .ref a10, .ref a11, .ref a12, .int 0, .ref a13, .int 1])), ((u0.1 0), .inr (14, [.ref a6, .int 0, .ref a5, .ref (u0.1 1), .int 0, .ref (u0.1 2), .ref (u1.1 0)]))] H := hP
  have hD : va_D A [(a0, .inr (18, [.ref a1, .ref a2, .int 0, .ref a3, .int 0, .ref a4, .int 0, .null, .int 0, .null, .long 0, .int 0, .null])), (a1, .inr (17, [.int 0, .ref a5, .ref a6, .int 0, .ref a7, .ref a8, .ref a9, .null, .null, .int 0, .ref a10, .ref a11, .ref a12, .int 0, .ref a13, .int 1])), ((u0.1 0), .inr (14, [.ref a6, .int 0, .ref a5, .ref (u0.1 1), .int 0, .ref (u0.1 2), .ref (u1.1 0)]))] := hD
  refine W.eq (g2 := F0 m 12 ls [.int 0]) rfl ?_
  refine W.widen (k := 12) (n := 95) (Nat.le_of_ble_eq_true rfl) (Nat.le_of_ble_eq_true rfl) ?_
  exact W.iret hx hb hr (fun t ht hW => qk hP hD hS [0, 1] rfl ((fun k => k), (fun _ _ => none)) rfl rfl rfl ht) hS.2.2 d_14_61_12
set_option maxRecDepth 100000 in
set_option maxHeartbeats 4000000 in
theorem c393_Poll_smallestBeatingSet (l : Launch) (z : Zz) (a0 a1 a2 a3 a4 a5 a6 a7 a8 a9 a10 a11 a12 a13 a14 a15 a16 a17 : Nat) : CT l z ⟨"Ballothall$Poll", "smallestBeatingSet", "()I"⟩ prog_11_method_10_code 3 (some .int) [.ref a0] [(a0, .inr (9, [.ref a1, .int 0, .int 0, .ref a2, .ref a3, .ref a4, .ref a5, .ref a6, .ref a7, .ref a8, .ref a9, .ref a10])), (a6, .inl (z.2 0, 8, .inl (fun _ => 0))), (a1, .inr (0, [.ref a11, .int 0, .int 0, .int 0, .ref a12, .ref a13, .ref a14, .ref a15, .ref a16, .ref a17]))] 3 81 0 0 (fun u => some (.int 0)) (fun u => [(a0, .inr (9, [.ref a1, .int 0, .int 0, .ref a2, .ref a3, .ref a4, .ref a5, .ref a6, .ref a7, .ref a8, .ref a9, .ref a10])), (a6, .inl (z.2 0, 8, .inl (fun _ => 0))), (a1, .inr (0, [.ref a11, .int 0, .int 0, .int 0, .ref a12, .ref a13, .ref a14, .ref a15, .ref a16, .ref a17]))]) := by
  refine CT.of (own := "Ballothall$Poll") (by decide +kernel) (Nat.le_of_ble_eq_true rfl) rfl (fun p e s m below meth c A ls hx hb hml hr hts hown hlocks hin hA hG hZ hP hD hS hl => ?_)
  have hl : lv_has ls 3 [(0, .ref a0)] := hl
  refine lv_aload_n hx hb d_11_10_0 rfl (lv_at hl 0 rfl) ?_
  refine kV (As := []) (rest := []) (wr := []) (c286_Poll_findBeaten l z a0 a1 a2 a3 a4 a5 a6 a7 a8 a9 a10 a11 a12 a13 a14 a15 a16 a17) hx hb hml hown hts w_520 w_517 w_519 w_s_e198c6 w_3 md_a5c5f2 ⟨Nat.le_of_ble_eq_true rfl, Nat.le_of_ble_eq_true rfl⟩ hG hZ hP hD hS hA 0 rfl rfl rfl [0, 1, 2] [] rfl rfl rfl rfl rfl hl.1 rfl (Nat.le_of_ble_eq_true rfl) d_11_10_1 ⟨Nat.le_of_ble_eq_true rfl, Nat.le_of_ble_eq_true rfl⟩ (fun u0 H locs hP hD hS => ?_)
  have hP : va_P z.1 classes [(a0, .inr (9, [.ref a1, .int 0, .int 0, .ref a2, .ref a3, .ref a4, .ref a5, .ref a6, .ref a7, .ref a8, .ref a9, .ref a10])), (a6, .inl (z.2 0, 8, .inl (fun _ => 0))), (a1, .inr (0, [.ref a11, .int 0, .int 0, .int 0, .ref a12, .ref a13, .ref a14, .ref a15, .ref a16, .ref a17]))] H := hP
  have hD : va_D A [(a0, .inr (9, [.ref a1, .int 0, .int 0, .ref a2, .ref a3, .ref a4, .ref a5, .ref a6, .ref a7, .ref a8, .ref a9, .ref a10])), (a6, .inl (z.2 0, 8, .inl (fun _ => 0))), (a1, .inr (0, [.ref a11, .int 0, .int 0, .int 0, .ref a12, .ref a13, .ref a14, .ref a15, .ref a16, .ref a17]))] := hD
  refine W.eq (g2 := F0 m 4 ls []) rfl ?_
  refine lv_aload_n hx hb d_11_10_4 rfl (lv_at hl 0 rfl) ?_
  refine va_get (D := z.1) (ci := 9) (v := .int 0) (C := "Ballothall$Poll") (T := TX9) (N := 12) hx hb hts iX9 hown hG.1 hP 0 rfl rfl 1 (by decide) (hts _ w_113) (fun _ h9 => h9) rfl d_11_10_5 ?_
  refine lv_istore_n (lv' := [(1, .int 0), (0, .ref a0)]) hx hb d_11_10_8 rfl hl (by decide) rfl (fun ls hl => ?_)
  refine lv_iconst (v := 1) hx hb d_11_10_9 (by decide +kernel) ?_
  refine lv_istore_n (lv' := [(2, .int 1), (1, .int 0), (0, .ref a0)]) hx hb d_11_10_10 rfl hl (by decide) rfl (fun ls hl => ?_)
  refine lv_iload_n hx hb d_11_10_11 rfl (lv_at hl 0 rfl) ?_
  refine lv_aload_n hx hb d_11_10_12 rfl (lv_at hl 2 rfl) ?_
  refine va_get (D := z.1) (ci := 9) (v := .int 0) (C := "Ballothall$Poll") (T := TX9) (N := 12) hx hb hts iX9 hown hG.1 hP 0 rfl rfl 1 (by decide) (hts _ w_113) (fun _ h9 => h9) rfl d_11_10_13 ?_
  refine lv_icmp_ge (tgt := 46) hx hb d_11_10_16 (by decide) (fun _ => ?_) (fun c9 => absurd (by decide +kernel) c9)
  refine lv_iload_n hx hb d_11_10_46 rfl (lv_at hl 1 rfl) ?_
  refine W.widen (k := 0) (n := 0) (Nat.le_of_ble_eq_true rfl) (Nat.le_of_ble_eq_true rfl) ?_
  exact W.iret hx hb hr (fun t ht hW => qk hP hD hS [0, 1, 2] rfl ((fun k => k), (fun _ _ => none)) rfl rfl rfl ht) hS.2.2 d_11_10_47
set_option maxRecDepth 100000 in
set_option maxHeartbeats 4000000 in
theorem c394_B_beatingSet (l : Launch) (z : Zz) (a0 a1 a2 a3 a4 a5 a6 a7 a8 a9 a10 a11 a12 a13 a14 a15 a16 a17 a18 a19 a20 a21 a22 a23 a24 a25 a26 a27 : Nat) : CT l z ⟨"Ballothall", "beatingSet", "()I"⟩ prog_1_method_29_code 1 (some .int) [.ref a0] [(a0, .inr (11, [.ref a1, .ref a2, .ref a3, .ref a4, .ref a5, .ref a6, .ref a7, .ref a8, .ref a9, .ref a10, .int 0, .int 0, .ref a11, .int 0])), (a1, .inr (0, [.ref a12, .int 0, .int 0, .int 0, .ref a13, .ref a14, .ref a15, .ref a16, .ref a17, .ref a18])), (a2, .inr (9, [.ref a1, .int 0, .int 0, .ref a19, .ref a20, .ref a21, .ref a22, .ref a23, .ref a24, .ref a25, .ref a26, .ref a27])), (a19, .inl (z.2 0, 31, .inl (fun _ => 0))), (a20, .inl (z.2 0, 8, .inl (fun _ => 0))), (a21, .inl (z.2 0, 8, .inl (fun _ => 0))), (a22, .inl (z.2 0, 64, .inl (fun _ => 0))), (a23, .inl (z.2 0, 8, .inl (fun _ => 0)))] 4 111 0 0 (fun u => some (.int 0)) (fun u => [(a0, .inr (11, [.ref a1, .ref a2, .ref a3, .ref a4, .ref a5, .ref a6, .ref a7, .ref a8, .ref a9, .ref a10, .int 0, .int 0, .ref a11, .int 0])), (a1, .inr (0, [.ref a12, .int 0, .int 0, .int 0, .ref a13, .ref a14, .ref a15, .ref a16, .ref a17, .ref a18])), (a2, .inr (9, [.ref a1, .int 0, .int 0, .ref a19, .ref a20, .ref a21, .ref a22, .ref a23, .ref a24, .ref a25, .ref a26, .ref a27])), (a19, .inl (z.2 0, 31, .inl (fun _ => 0))), (a20, .inl (z.2 0, 8, .inl (fun _ => 0))), (a21, .inl (z.2 0, 8, .inl (fun _ => 0))), (a22, .inl (z.2 0, 64, .inl (fun _ => 0))), (a23, .inl (z.2 0, 8, .inl (fun _ => 0)))]) := by
  refine CT.of (own := "Ballothall") (by decide +kernel) (Nat.le_of_ble_eq_true rfl) rfl (fun p e s m below meth c A ls hx hb hml hr hts hown hlocks hin hA hG hZ hP hD hS hl => ?_)
  have hl : lv_has ls 1 [(0, .ref a0)] := hl
  refine lv_aload_n hx hb d_1_29_0 rfl (lv_at hl 0 rfl) ?_
  refine va_get (D := z.1) (ci := 11) (v := .ref a2) (C := "Ballothall") (T := TX11) (N := 14) hx hb hts iX11 hown hG.1 hP 0 rfl rfl 1 (by decide) (hts _ w_407) (fun _ h9 => h9) rfl d_1_29_1 ?_
  refine lv_aload_n hx hb d_1_29_4 rfl (lv_at hl 0 rfl) ?_
  refine va_get (D := z.1) (ci := 11) (v := .ref a1) (C := "Ballothall") (T := TX11) (N := 14) hx hb hts iX11 hown hG.1 hP 0 rfl rfl 0 (by decide) (hts _ w_406) (fun _ h9 => h9) rfl d_1_29_5 ?_
  refine kVN (As := []) (rest := [.ref a2]) (wr := [(a0, .inr (11, [.ref a1, .ref a2, .ref a3, .ref a4, .ref a5, .ref a6, .ref a7, .ref a8, .ref a9, .ref a10, .int 0, .int 0, .ref a11, .int 0])), (a2, .inr (9, [.ref a1, .int 0, .int 0, .ref a19, .ref a20, .ref a21, .ref a22, .ref a23, .ref a24, .ref a25, .ref a26, .ref a27])), (a19, .inl (z.2 0, 31, .inl (fun _ => 0))), (a20, .inl (z.2 0, 8, .inl (fun _ => 0))), (a21, .inl (z.2 0, 8, .inl (fun _ => 0))), (a22, .inl (z.2 0, 64, .inl (fun _ => 0))), (a23, .inl (z.2 0, 8, .inl (fun _ => 0)))]) (c269_BallotBox_everybody l z a1 a12 a13 a14 a15 a16 a17 a18) hx hb hml hown hts w_480 n_477 w_479 w_s_8b8b67 w_2 md_b59579 ⟨Nat.le_of_ble_eq_true rfl, Nat.le_of_ble_eq_true rfl⟩ hG hZ hP hD hS hA 1 rfl rfl rfl [1] [0, 2, 3, 4, 5, 6, 7] rfl rfl rfl rfl rfl hl.1 rfl (Nat.le_of_ble_eq_true rfl) d_1_29_8 ⟨Nat.le_of_ble_eq_true rfl, Nat.le_of_ble_eq_true rfl⟩ (fun u0 H locs hP hD hS => ?_)
  have hP : va_P z.1 classes [(a0, .inr (11, [.ref a1, .ref a2, .ref a3, .ref a4, .ref a5, .ref a6, .ref a7, .ref a8, .ref a9, .ref a10, .int 0, .int 0, .ref a11, .int 0])), (a2, .inr (9, [.ref a1, .int 0, .int 0, .ref a19, .ref a20, .ref a21, .ref a22, .ref a23, .ref a24, .ref a25, .ref a26, .ref a27])), (a19, .inl (z.2 0, 31, .inl (fun _ => 0))), (a20, .inl (z.2 0, 8, .inl (fun _ => 0))), (a21, .inl (z.2 0, 8, .inl (fun _ => 0))), (a22, .inl (z.2 0, 64, .inl (fun _ => 0))), (a23, .inl (z.2 0, 8, .inl (fun _ => 0))), (a1, .inr (0, [.ref a12, .int 0, .int 0, .int 0, .ref a13, .ref a14, .ref a15, .ref a16, .ref a17, .ref a18]))] H := hP
  have hD : va_D A [(a0, .inr (11, [.ref a1, .ref a2, .ref a3, .ref a4, .ref a5, .ref a6, .ref a7, .ref a8, .ref a9, .ref a10, .int 0, .int 0, .ref a11, .int 0])), (a2, .inr (9, [.ref a1, .int 0, .int 0, .ref a19, .ref a20, .ref a21, .ref a22, .ref a23, .ref a24, .ref a25, .ref a26, .ref a27])), (a19, .inl (z.2 0, 31, .inl (fun _ => 0))), (a20, .inl (z.2 0, 8, .inl (fun _ => 0))), (a21, .inl (z.2 0, 8, .inl (fun _ => 0))), (a22, .inl (z.2 0, 64, .inl (fun _ => 0))), (a23, .inl (z.2 0, 8, .inl (fun _ => 0))), (a1, .inr (0, [.ref a12, .int 0, .int 0, .int 0, .ref a13, .ref a14, .ref a15, .ref a16, .ref a17, .ref a18]))] := hD
  refine W.eq (g2 := F0 m 11 ls [.int 0, .ref a2]) rfl ?_
  refine kVN (As := [.int 0]) (rest := []) (wr := [(a0, .inr (11, [.ref a1, .ref a2, .ref a3, .ref a4, .ref a5, .ref a6, .ref a7, .ref a8, .ref a9, .ref a10, .int 0, .int 0, .ref a11, .int 0])), (a23, .inl (z.2 0, 8, .inl (fun _ => 0)))]) (c285_Poll_open l z a2 a1 a19 a20 a21 a22 a23 a24 a25 a26 a27 a12 a13 a14 a15 a16 a17 a18) hx hb hml hown hts w_484 n_481 w_483 w_s_229dc4 w_3 md_60bc9b ⟨Nat.le_of_ble_eq_true rfl, Nat.le_of_ble_eq_true rfl⟩ hG hZ hP hD hS hA 1 rfl rfl rfl [1, 2, 3, 4, 5, 7] [0, 6] rfl rfl rfl rfl rfl hl.1 rfl (Nat.le_of_ble_eq_true rfl) d_1_29_11 ⟨Nat.le_of_ble_eq_true rfl, Nat.le_of_ble_eq_true rfl⟩ (fun u1 H locs hP hD hS => ?_)
  have hP : va_P z.1 classes [(a0, .inr (11, [.ref a1, .ref a2, .ref a3, .ref a4, .ref a5, .ref a6, .ref a7, .ref a8, .ref a9, .ref a10, .int 0, .int 0, .ref a11, .int 0])), (a23, .inl (z.2 0, 8, .inl (fun _ => 0))), (a2, .inr (9, [.ref a1, .int 0, .int 0, .ref a19, .ref a20, .ref a21, .ref a22, .ref a23, .ref a24, .ref a25, .ref a26, .ref a27])), (a19, .inl (z.2 0, 31, .inl (fun _ => 0))), (a20, .inl (z.2 0, 8, .inl (fun _ => 0))), (a21, .inl (z.2 0, 8, .inl (fun _ => 0))), (a22, .inl (z.2 0, 64, .inl (fun _ => 0))), (a1, .inr (0, [.ref a12, .int 0, .int 0, .int 0, .ref a13, .ref a14, .ref a15, .ref a16, .ref a17, .ref a18]))] H := hP
  have hD : va_D A [(a0, .inr (11, [.ref a1, .ref a2, .ref a3, .ref a4, .ref a5, .ref a6, .ref a7, .ref a8, .ref a9, .ref a10, .int 0, .int 0, .ref a11, .int 0])), (a23, .inl (z.2 0, 8, .inl (fun _ => 0))), (a2, .inr (9, [.ref a1, .int 0, .int 0, .ref a19, .ref a20, .ref a21, .ref a22, .ref a23, .ref a24, .ref a25, .ref a26, .ref a27])), (a19, .inl (z.2 0, 31, .inl (fun _ => 0))), (a20, .inl (z.2 0, 8, .inl (fun _ => 0))), (a21, .inl (z.2 0, 8, .inl (fun _ => 0))), (a22, .inl (z.2 0, 64, .inl (fun _ => 0))), (a1, .inr (0, [.ref a12, .int 0, .int 0, .int 0, .ref a13, .ref a14, .ref a15, .ref a16, .ref a17, .ref a18]))] := hD
  refine W.eq (g2 := F0 m 14 ls []) rfl ?_
  refine lv_aload_n hx hb d_1_29_14 rfl (lv_at hl 0 rfl) ?_
  refine va_get (D := z.1) (ci := 11) (v := .ref a2) (C := "Ballothall") (T := TX11) (N := 14) hx hb hts iX11 hown hG.1 hP 0 rfl rfl 1 (by decide) (hts _ w_407) (fun _ h9 => h9) rfl d_1_29_15 ?_
  refine kVN (As := []) (rest := []) (wr := [(a0, .inr (11, [.ref a1, .ref a2, .ref a3, .ref a4, .ref a5, .ref a6, .ref a7, .ref a8, .ref a9, .ref a10, .int 0, .int 0, .ref a11, .int 0])), (a19, .inl (z.2 0, 31, .inl (fun _ => 0))), (a20, .inl (z.2 0, 8, .inl (fun _ => 0))), (a21, .inl (z.2 0, 8, .inl (fun _ => 0))), (a22, .inl (z.2 0, 64, .inl (fun _ => 0)))]) (c393_Poll_smallestBeatingSet l z a2 a1 a19 a20 a21 a22 a23 a24 a25 a26 a27 a12 a13 a14 a15 a16 a17 a18) hx hb hml hown hts w_559 n_556 w_558 w_s_300997 w_3 md_be21d8 ⟨Nat.le_of_ble_eq_true rfl, Nat.le_of_ble_eq_true rfl⟩ hG hZ hP hD hS hA 2 rfl rfl rfl [2, 1, 7] [0, 3, 4, 5, 6] rfl rfl rfl rfl rfl hl.1 rfl (Nat.le_of_ble_eq_true rfl) d_1_29_18 ⟨Nat.le_of_ble_eq_true rfl, Nat.le_of_ble_eq_true rfl⟩ (fun u2 H locs hP hD hS => ?_)
  have hP : va_P z.1 classes [(a0, .inr (11, [.ref a1, .ref a2, .ref a3, .ref a4, .ref a5, .ref a6, .ref a7, .ref a8, .ref a9, .ref a10, .int 0, .int 0, .ref a11, .int 0])), (a19, .inl (z.2 0, 31, .inl (fun _ => 0))), (a20, .inl (z.2 0, 8, .inl (fun _ => 0))), (a21, .inl (z.2 0, 8, .inl (fun _ => 0))), (a22, .inl (z.2 0, 64, .inl (fun _ => 0))), (a2, .inr (9, [.ref a1, .int 0, .int 0, .ref a19, .ref a20, .ref a21, .ref a22, .ref a23, .ref a24, .ref a25, .ref a26, .ref a27])), (a23, .inl (z.2 0, 8, .inl (fun _ => 0))), (a1, .inr (0, [.ref a12, .int 0, .int 0, .int 0, .ref a13, .ref a14, .ref a15, .ref a16, .ref a17, .ref a18]))] H := hP
  have hD : va_D A [(a0, .inr (11, [.ref a1, .ref a2, .ref a3, .ref a4, .ref a5, .ref a6, .ref a7, .ref a8, .ref a9, .ref a10, .int 0, .int 0, .ref a11, .int 0])), (a19, .inl (z.2 0, 31, .inl (fun _ => 0))), (a20, .inl (z.2 0, 8, .inl (fun _ => 0))), (a21, .inl (z.2 0, 8, .inl (fun _ => 0))), (a22, .inl (z.2 0, 64, .inl (fun _ => 0))), (a2, .inr (9, [.ref a1, .int 0, .int 0, .ref a19, .ref a20, .ref a21, .ref a22, .ref a23, .ref a24, .ref a25, .ref a26, .ref a27])), (a23, .inl (z.2 0, 8, .inl (fun _ => 0))), (a1, .inr (0, [.ref a12, .int 0, .int 0, .int 0, .ref a13, .ref a14, .ref a15, .ref a16, .ref a17, .ref a18]))] := hD
  refine W.eq (g2 := F0 m 21 ls [.int 0]) rfl ?_
  refine W.widen (k := 0) (n := 0) (Nat.le_of_ble_eq_true rfl) (Nat.le_of_ble_eq_true rfl) ?_
  exact W.iret hx hb hr (fun t ht hW => qk hP hD hS [0, 7, 5, 1, 2, 3, 4, 6] rfl ((fun k => k), (fun _ _ => none)) rfl rfl rfl ht) hS.2.2 d_1_29_21
set_option maxRecDepth 100000 in
set_option maxHeartbeats 4000000 in
theorem c395_BModel_beatingSet (l : Launch) (z : Zz) (a0 a1 a2 a3 a4 a5 a6 a7 a8 a9 a10 a11 a12 a13 : Nat) : CT l z ⟨"BallothallModel", "beatingSet", "()I"⟩ prog_14_method_62_code 7 (some .int) [.ref a0] [(a0, .inr (18, [.ref a1, .ref a2, .int 0, .ref a3, .int 0, .ref a4, .int 0, .null, .int 0, .null, .long 0, .int 0, .null])), (a1, .inr (17, [.int 0, .ref a5, .ref a6, .int 0, .ref a7, .ref a8, .ref a9, .null, .null, .int 0, .ref a10, .ref a11, .ref a12, .int 0, .ref a13, .int 1]))] 3 79 3 23 (fun u => some (.int 0)) (fun u => [(a0, .inr (18, [.ref a1, .ref a2, .int 0, .ref a3, .int 0, .ref a4, .int 0, .null, .int 0, .null, .long 0, .int 0, .null])), (a1, .inr (17, [.int 0, .ref a5, .ref a6, .int 0, .ref a7, .ref a8, .ref a9, .null, .null, .int 0, .ref a10, .ref a11, .ref a12, .int 0, .ref a13, .int 1]))]) := by
  refine CT.of (own := "BallothallModel") (by decide +kernel) (Nat.le_of_ble_eq_true rfl) rfl (fun p e s m below meth c A ls hx hb hml hr hts hown hlocks hin hA hG hZ hP hD hS hl => ?_)
  have hl : lv_has ls 7 [(0, .ref a0)] := hl
  refine lv_aload_n hx hb d_14_62_0 rfl (lv_at hl 0 rfl) ?_
  refine lv_iconst (v := 0) hx hb d_14_62_1 (by decide +kernel) ?_
  refine va_put (D := z.1) (ci := 18) (v := .int 0) (ty := .int) (C := "BallothallModel") (T := TX18) (N := 13) hx hb hts iX18 tyX18 tyX18_ok nmX18 hown hG.1 hP hD hS 0 rfl rfl 6 (by decide) (hts _ w_1651) (fun _ h9 => h9) rfl (by decide +kernel) rfl rfl (Nat.le_of_ble_eq_true rfl) d_14_62_2 (fun H locs hP hD hS => ?_)
  have hP : va_P z.1 classes [(a0, .inr (18, [.ref a1, .ref a2, .int 0, .ref a3, .int 0, .ref a4, .int 0, .null, .int 0, .null, .long 0, .int 0, .null])), (a1, .inr (17, [.int 0, .ref a5, .ref a6, .int 0, .ref a7, .ref a8, .ref a9, .null, .null, .int 0, .ref a10, .ref a11, .ref a12, .int 0, .ref a13, .int 1]))] H := hP
  have hD : va_D A [(a0, .inr (18, [.ref a1, .ref a2, .int 0, .ref a3, .int 0, .ref a4, .int 0, .null, .int 0, .null, .long 0, .int 0, .null])), (a1, .inr (17, [.int 0, .ref a5, .ref a6, .int 0, .ref a7, .ref a8, .ref a9, .null, .null, .int 0, .ref a10, .ref a11, .ref a12, .int 0, .ref a13, .int 1]))] := hD
  refine lv_aload_n hx hb d_14_62_5 rfl (lv_at hl 0 rfl) ?_
  refine kV (As := []) (rest := []) (wr := []) (c277_BModel_everybody l z a0 a1 a2 a3 a4 a5 a6 a7 a8 a9 a10 a11 a12 a13) hx hb hml hown hts w_2233 w_2230 w_2232 w_s_4b155b w_12 md_a32d0e ⟨Nat.le_of_ble_eq_true rfl, Nat.le_of_ble_eq_true rfl⟩ hG hZ hP hD hS hA 0 rfl rfl rfl [0, 1] [] rfl rfl rfl rfl rfl hl.1 rfl (Nat.le_of_ble_eq_true rfl) d_14_62_6 ⟨Nat.le_of_ble_eq_true rfl, Nat.le_of_ble_eq_true rfl⟩ (fun u0 H locs hP hD hS => ?_)
  have hP : va_P z.1 classes [(a0, .inr (18, [.ref a1, .ref a2, .int 0, .ref a3, .int 0, .ref a4, .int 0, .null, .int 0, .null, .long 0, .int 0, .null])), (a1, .inr (17, [.int 0, .ref a5, .ref a6, .int 0, .ref a7, .ref a8, .ref a9, .null, .null, .int 0, .ref a10, .ref a11, .ref a12, .int 0, .ref a13, .int 1]))] H := hP
  have hD : va_D A [(a0, .inr (18, [.ref a1, .ref a2, .int 0, .ref a3, .int 0, .ref a4, .int 0, .null, .int 0, .null, .long 0, .int 0, .null])), (a1, .inr (17, [.int 0, .ref a5, .ref a6, .int 0, .ref a7, .ref a8, .ref a9, .null, .null, .int 0, .ref a10, .ref a11, .ref a12, .int 0, .ref a13, .int 1]))] := hD
  refine W.eq (g2 := F0 m 9 ls [.int 0]) rfl ?_
  refine lv_istore_n (lv' := [(1, .int 0), (0, .ref a0)]) hx hb d_14_62_9 rfl hl (by decide) rfl (fun ls hl => ?_)
  refine lv_aload_n hx hb d_14_62_10 rfl (lv_at hl 1 rfl) ?_
  refine kV (As := []) (rest := []) (wr := []) (c290_BModel_poll l z a0 a1 a2 a3 a4 a5 a6 a7 a8 a9 a10 a11 a12 a13) hx hb hml hown hts w_2246 w_2243 w_2245 w_s_14a2f1 w_12 md_55febb ⟨Nat.le_of_ble_eq_true rfl, Nat.le_of_ble_eq_true rfl⟩ hG hZ hP hD hS hA 0 rfl rfl rfl [0, 1] [] rfl rfl rfl rfl rfl hl.1 rfl (Nat.le_of_ble_eq_true rfl) d_14_62_11 ⟨Nat.le_of_ble_eq_true rfl, Nat.le_of_ble_eq_true rfl⟩ (fun u1 H locs hP hD hS => ?_)
  have hP : va_P z.1 classes [(a0, .inr (18, [.ref a1, .ref a2, .int 0, .ref a3, .int 0, .ref a4, .int 0, .null, .int 0, .null, .long 0, .int 0, .null])), (a1, .inr (17, [.int 0, .ref a5, .ref a6, .int 0, .ref a7, .ref a8, .ref a9, .null, .null, .int 0, .ref a10, .ref a11, .ref a12, .int 0, .ref a13, .int 1]))] H := hP
  have hD : va_D A [(a0, .inr (18, [.ref a1, .ref a2, .int 0, .ref a3, .int 0, .ref a4, .int 0, .null, .int 0, .null, .long 0, .int 0, .null])), (a1, .inr (17, [.int 0, .ref a5, .ref a6, .int 0, .ref a7, .ref a8, .ref a9, .null, .null, .int 0, .ref a10, .ref a11, .ref a12, .int 0, .ref a13, .int 1]))] := hD
  refine W.eq (g2 := F0 m 14 ls [.ref (u1.1 0)]) rfl ?_
  refine lv_astore_n (lv' := [(2, .ref (u1.1 0)), (1, .int 0), (0, .ref a0)]) hx hb d_14_62_14 rfl hl (by decide) rfl (fun ls hl => ?_)
  refine lv_iconst (v := 1) hx hb d_14_62_15 (by decide +kernel) ?_
  refine lv_istore_n (lv' := [(3, .int 1), (2, .ref (u1.1 0)), (1, .int 0), (0, .ref a0)]) hx hb d_14_62_16 rfl hl (by decide) rfl (fun ls hl => ?_)
  refine lv_iload_n hx hb d_14_62_17 rfl (lv_at hl 0 rfl) ?_
  refine lv_aload_n hx hb d_14_62_18 rfl (lv_at hl 3 rfl) ?_
  refine kV (As := []) (rest := [.int 1]) (wr := []) (c277_BModel_everybody l z a0 a1 a2 a3 a4 a5 a6 a7 a8 a9 a10 a11 a12 a13) hx hb hml hown hts w_2233 w_2230 w_2232 w_s_4b155b w_12 md_a32d0e ⟨Nat.le_of_ble_eq_true rfl, Nat.le_of_ble_eq_true rfl⟩ hG hZ hP hD hS hA 0 rfl rfl rfl [0, 1] [] rfl rfl rfl rfl rfl hl.1 rfl (Nat.le_of_ble_eq_true rfl) d_14_62_19 ⟨Nat.le_of_ble_eq_true rfl, Nat.le_of_ble_eq_true rfl⟩ (fun u2 H locs hP hD hS => ?_)
  have hP : va_P z.1 classes [(a0, .inr (18, [.ref a1, .ref a2, .int 0, .ref a3, .int 0, .ref a4, .int 0, .null, .int 0, .null, .long 0, .int 0, .null])), (a1, .inr (17, [.int 0, .ref a5, .ref a6, .int 0, .ref a7, .ref a8, .ref a9, .null, .null, .int 0, .ref a10, .ref a11, .ref a12, .int 0, .ref a13, .int 1]))] H := hP
  have hD : va_D A [(a0, .inr (18, [.ref a1, .ref a2, .int 0, .ref a3, .int 0, .ref a4, .int 0, .null, .int 0, .null, .long 0, .int 0, .null])), (a1, .inr (17, [.int 0, .ref a5, .ref a6, .int 0, .ref a7, .ref a8, .ref a9, .null, .null, .int 0, .ref a10, .ref a11, .ref a12, .int 0, .ref a13, .int 1]))] := hD
  refine W.eq (g2 := F0 m 22 ls [.int 0, .int 1]) rfl ?_
  refine lv_icmp_ge (tgt := 149) hx hb d_14_62_22 (by decide) (fun _ => ?_) (fun c9 => absurd (by decide +kernel) c9)
  refine lv_iload_n hx hb d_14_62_149 rfl (lv_at hl 2 rfl) ?_
  refine W.widen (k := 3) (n := 23) (Nat.le_of_ble_eq_true rfl) (Nat.le_of_ble_eq_true rfl) ?_
  exact W.iret hx hb hr (fun t ht hW => qk hP hD hS [0, 1] rfl ((fun k => k), (fun _ _ => none)) rfl rfl rfl ht) hS.2.2 d_14_62_150
set_option maxRecDepth 100000 in
set_option maxHeartbeats 4000000 in
theorem c396_B_consensusAt (l : Launch) (z : Zz) (hl0 : l.stackTraces = false) (a0 a1 a2 a3 a4 a5 a6 a7 a8 a9 a10 a11 a12 a13 a14 a15 a16 a17 a18 : Nat) (x0 : Int32) (h0 : x0 < 0) : XT l z ⟨"Ballothall", "consensusAt", "(I)I"⟩ prog_1_method_30_code 2 (some .int) [.ref a0, .int x0] [(a0, .inr (11, [.ref a1, .ref a2, .ref a3, .ref a4, .ref a5, .ref a6, .ref a7, .ref a8, .ref a9, .ref a10, .int 0, .int 0, .ref a11, .int 0])), (a1, .inr (0, [.ref a12, .int 0, .int 0, .int 0, .ref a13, .ref a14, .ref a15, .ref a16, .ref a17, .ref a18]))] 7 127 1 6 "java/util/NoSuchElementException" := by
  refine XT.of (own := "Ballothall") (by decide +kernel) (Nat.le_of_ble_eq_true rfl) rfl (fun p e s m below meth c A ls hx hb hml hr hts hown hlocks hin hA hG hZ hP hD hS hl hnt => ?_)
  have hl : lv_has ls 2 [(0, .ref a0), (1, .int x0)] := hl
  refine lv_iload_n hx hb d_1_30_0 rfl (lv_at hl 1 rfl) ?_
  refine lv_aload_n hx hb d_1_30_1 rfl (lv_at hl 0 rfl) ?_
  refine va_get (D := z.1) (ci := 11) (v := .ref a1) (C := "Ballothall") (T := TX11) (N := 14) hx hb hts iX11 hown hG.1 hP 0 rfl rfl 0 (by decide) (hts _ w_406) (fun _ h9 => h9) rfl d_1_30_2 ?_
  refine va_getN (D := z.1) (ci := 0) (v := .int 0) (C := "Ballothall$BallotBox") (T := TX0) (N := 10) hx hb hts iX0 hown hG.1 hP 1 rfl rfl 2 (by decide) (va_Nw.use rfl (hG.2.1 _ n_57 rfl)) (fun _ h9 => h9) rfl d_1_30_5 ?_
  exact xS (As := [.int x0, .int 0]) (rest := []) (wr := [(a0, .inr (11, [.ref a1, .ref a2, .ref a3, .ref a4, .ref a5, .ref a6, .ref a7, .ref a8, .ref a9, .ref a10, .int 0, .int 0, .ref a11, .int 0])), (a1, .inr (0, [.ref a12, .int 0, .int 0, .int 0, .ref a13, .ref a14, .ref a15, .ref a16, .ref a17, .ref a18]))]) (c196_B_needPlace l z hl0 x0 h0) hx hb hml hown hts w_1082 w_1080 w_1081 w_1 md_541664 ⟨Nat.le_of_ble_eq_true rfl, Nat.le_of_ble_eq_true rfl⟩ hG hZ hP hD hS hA [] [0, 1] rfl rfl rfl rfl rfl hl.1 rfl (Nat.le_of_ble_eq_true rfl) d_1_30_8 ⟨Nat.le_of_ble_eq_true rfl, Nat.le_of_ble_eq_true rfl⟩ (fun q9 ce9 H locs hP hD hS h7 h8 h9 => x_out hnt hlocks hS h7 h8 h9 (Nat.le_of_ble_eq_true rfl) (Nat.le_of_ble_eq_true rfl))
set_option maxRecDepth 100000 in
set_option maxHeartbeats 4000000 in
theorem c397_BLaw_consensusAt (l : Launch) (z : Zz) (hl0 : l.stackTraces = false) (a0 a1 a2 a3 a4 a5 a6 a7 a8 a9 a10 a11 a12 a13 a14 a15 a16 a17 a18 a19 : Nat) (x0 : Int32) (h0 : x0 < 0) : HT l z ⟨"BallothallLaw", "consensusAt", "(LBallothall;I[J)I"⟩ method_24_code 4 (some .int) [(0, 9, 12, 61)] [.ref a0, .int x0, .ref a1] [(a0, .inr (11, [.ref a2, .ref a3, .ref a4, .ref a5, .ref a6, .ref a7, .ref a8, .ref a9, .ref a10, .ref a11, .int 0, .int 0, .ref a12, .int 0])), (a2, .inr (0, [.ref a13, .int 0, .int 0, .int 0, .ref a14, .ref a15, .ref a16, .ref a17, .ref a18, .ref a19]))] 8 156 1 6 (fun u => some (.int 1)) (fun u => []) := by
  refine HT.of (own := "BallothallLaw") (by decide +kernel) (Nat.le_of_ble_eq_true rfl) rfl (fun p e s m below meth c A ls hx hb hml hr hts hown hlocks hin hA hG hZ hP hD hS hl htab => ?_)
  have hl : lv_has ls 4 [(0, .ref a0), (1, .int x0), (2, .ref a1)] := hl
  refine lv_aload_n hx hb d_L24_0 rfl (lv_at hl 2 rfl) ?_
  refine lv_iconst (v := 0) hx hb d_L24_1 (by decide +kernel) ?_
  refine lv_aload_n hx hb d_L24_2 rfl (lv_at hl 0 rfl) ?_
  refine lv_iload_n hx hb d_L24_3 rfl (lv_at hl 1 rfl) ?_
  refine xV (As := [.int x0]) (rest := [.int 0, .ref a1]) (wr := []) (c396_B_consensusAt l z hl0 a0 a2 a3 a4 a5 a6 a7 a8 a9 a10 a11 a12 a13 a14 a15 a16 a17 a18 a19 x0 h0) hx hb hml hown hts w_1344 w_1341 w_1342 w_1343 w_1 md_b0ab85 ⟨Nat.le_of_ble_eq_true rfl, Nat.le_of_ble_eq_true rfl⟩ hG hZ hP hD hS hA 0 rfl rfl rfl [0, 1] [] rfl rfl rfl rfl rfl hl.1 rfl (Nat.le_of_ble_eq_true rfl) d_L24_4 ⟨Nat.le_of_ble_eq_true rfl, Nat.le_of_ble_eq_true rfl⟩ (fun q0 ce9 H locs hP hD hS h7 h8 h9 => ?_)
  have hP : va_P z.1 classes [] H := hP
  have hD : va_D A [] := hD
  refine vx_catch hown [] ⟨0, 9, 12, 61⟩ [] (htab.trans rfl) (fun _ h9 => absurd h9 List.not_mem_nil) rfl (by decide) (hts _ w_1075) (va_Nw.use rfl (hG.2.1 _ n_1085 rfl)) h7 h8 h9 ?_
  refine lv_astore_n (lv' := [(3, .ref q0), (0, .ref a0), (1, .int x0), (2, .ref a1)]) hx hb d_L24_12 rfl hl (by decide) rfl (fun ls hl => ?_)
  refine lv_iconst (v := 1) hx hb d_L24_13 (by decide +kernel) ?_
  refine W.widen (k := 1) (n := 6) (Nat.le_of_ble_eq_true rfl) (Nat.le_of_ble_eq_true rfl) ?_
  refine vx_ret ?_
  exact W.iret hx hb hr (fun t ht hW => qk hP hD hS [] rfl ((fun k => k), (fun _ _ => none)) rfl rfl rfl ht) hS.2.2 d_L24_14
set_option maxRecDepth 100000 in
set_option maxHeartbeats 4000000 in
theorem c398_BModel_tries (l : Launch) (z : Zz) (a0 a1 a2 a3 a4 a5 a6 : Nat) : CT l z ⟨"BallothallModel", "tries", "([[I[IIIJ)V"⟩ prog_14_method_64_code 11 none [.ref a0, .ref a1, .ref a2, .int 0, .int 0, .long 0] [(a2, .inl (z.2 0, 0, .inl (fun _ => 0))), (a0, .inr (18, [.ref a3, .ref a4, .int 0, .ref a5, .int 0, .ref a6, .int 0, .null, .int 0, .null, .long 0, .int 0, .null]))] 1 60 1 0 (fun u => none) (fun u => [(a2, .inl (z.2 0, 0, .inl (fun _ => 0))), (a0, .inr (18, [.ref a3, .ref a4, .int 0, .ref a5, .int 0, .ref a6, .int 0, .null, .int 0, .ref (u.1 0), .long 0, .int 0, .null])), ((u.1 0), .inl (z.2 0, 0, .inl (fun _ => 0)))]) := by
  refine CT.of (own := "BallothallModel") (by decide +kernel) (Nat.le_of_ble_eq_true rfl) rfl (fun p e s m below meth c A ls hx hb hml hr hts hown hlocks hin hA hG hZ hP hD hS hl => ?_)
  have hl : lv_has ls 11 [(0, .ref a0), (1, .ref a1), (2, .ref a2), (3, .int 0), (4, .int 0), (5, .long 0)] := hl
  refine lv_iload_n hx hb d_14_64_0 rfl (lv_at hl 3 rfl) ?_
  refine lv_aload_n hx hb d_14_64_1 rfl (lv_at hl 2 rfl) ?_
  refine va_alen (v := 0) hx hb hG.1 hP 0 0 rfl rfl rfl d_14_64_2 ?_
  refine lv_icmp_ne (tgt := 48) hx hb d_14_64_3 (by decide) (fun c9 => absurd (by decide +kernel) c9) (fun _ => ?_)
  refine lv_aload_n hx hb d_14_64_6 rfl (lv_at hl 0 rfl) ?_
  refine va_get (D := z.1) (ci := 18) (v := .null) (C := "BallothallModel") (T := TX18) (N := 13) hx hb hts iX18 hown hG.1 hP 1 rfl rfl 9 (by decide) (hts _ w_1654) (fun _ h9 => h9) rfl d_14_64_7 ?_
  refine lv_ifnullN (tgt := 23) hx hb d_14_64_10 (by decide) ?_
  refine lv_aload_n hx hb d_14_64_23 rfl (lv_at hl 0 rfl) ?_
  refine lv_iload_n hx hb d_14_64_24 rfl (lv_at hl 3 rfl) ?_
  refine va_newa (atype := .int) (N' := 0) (a0 := (0, .inl (fun _ => 0))) hx hb (hts _ w_105) rfl hG.1 hP hD hS hA (fun _ => rfl) (by decide +kernel) (by decide +kernel) (Nat.le_of_ble_eq_true rfl) (Nat.le_of_ble_eq_true rfl) (Nat.le_of_ble_eq_true rfl) d_14_64_25 (fun q0 cA9 H hK9 hP hD hS => ?_)
  obtain rfl := ty_eq0 hK9
  clear hK9
  have hP : va_P z.1 classes [(a2, .inl (z.2 0, 0, .inl (fun _ => 0))), (a0, .inr (18, [.ref a3, .ref a4, .int 0, .ref a5, .int 0, .ref a6, .int 0, .null, .int 0, .null, .long 0, .int 0, .null])), (q0, .inl (z.2 0, 0, .inl (fun _ => 0)))] H := hP
  have hD : va_D A [(a2, .inl (z.2 0, 0, .inl (fun _ => 0))), (a0, .inr (18, [.ref a3, .ref a4, .int 0, .ref a5, .int 0, .ref a6, .int 0, .null, .int 0, .null, .long 0, .int 0, .null])), (q0, .inl (z.2 0, 0, .inl (fun _ => 0)))] := hD
  refine va_put (D := z.1) (ci := 18) (v := .ref q0) (ty := .array .int) (C := "BallothallModel") (T := TX18) (N := 13) hx hb hts iX18 tyX18 tyX18_ok nmX18 hown hG.1 hP hD hS 1 rfl rfl 9 (by decide) (hts _ w_1654) (fun _ h9 => h9) rfl (by decide +kernel) rfl rfl (Nat.le_of_ble_eq_true rfl) d_14_64_27 (fun H locs hP hD hS => ?_)
  have hP : va_P z.1 classes [(a2, .inl (z.2 0, 0, .inl (fun _ => 0))), (a0, .inr (18, [.ref a3, .ref a4, .int 0, .ref a5, .int 0, .ref a6, .int 0, .null, .int 0, .ref q0, .long 0, .int 0, .null])), (q0, .inl (z.2 0, 0, .inl (fun _ => 0)))] H := hP
  have hD : va_D A [(a2, .inl (z.2 0, 0, .inl (fun _ => 0))), (a0, .inr (18, [.ref a3, .ref a4, .int 0, .ref a5, .int 0, .ref a6, .int 0, .null, .int 0, .ref q0, .long 0, .int 0, .null])), (q0, .inl (z.2 0, 0, .inl (fun _ => 0)))] := hD
  refine lv_aload_n hx hb d_14_64_30 rfl (lv_at hl 2 rfl) ?_
  refine lv_iconst (v := 0) hx hb d_14_64_31 (by decide +kernel) ?_
  refine lv_aload_n hx hb d_14_64_32 rfl (lv_at hl 0 rfl) ?_
  refine va_get (D := z.1) (ci := 18) (v := .ref q0) (C := "BallothallModel") (T := TX18) (N := 13) hx hb hts iX18 hown hG.1 hP 1 rfl rfl 9 (by decide) (hts _ w_1654) (fun _ h9 => h9) rfl d_14_64_33 ?_
  refine lv_iconst (v := 0) hx hb d_14_64_36 (by decide +kernel) ?_
  refine lv_iload_n hx hb d_14_64_37 rfl (lv_at hl 3 rfl) ?_
  refine va_copyi hx hb (by rw [hml]; exact hl.1.symm) hown (hts _ w_1936) (hts _ w_698) (hts _ w_697) (hts _ w_19) hG.1 hP hD hS 0 2 0 0 rfl rfl rfl rfl rfl (by decide +kernel) (by decide +kernel) (by decide +kernel) (by decide +kernel) (by decide +kernel) (fun _ _ => rfl) (Nat.le_of_ble_eq_true rfl) (Nat.le_of_ble_eq_true rfl) d_14_64_38 (fun H locs hP hD hS => ?_)
  rw [cpy_z] at hP hD
  have hP : va_P z.1 classes [(a2, .inl (z.2 0, 0, .inl (fun _ => 0))), (a0, .inr (18, [.ref a3, .ref a4, .int 0, .ref a5, .int 0, .ref a6, .int 0, .null, .int 0, .ref q0, .long 0, .int 0, .null])), (q0, .inl (z.2 0, 0, .inl (fun _ => 0)))] H := hP
  have hD : va_D A [(a2, .inl (z.2 0, 0, .inl (fun _ => 0))), (a0, .inr (18, [.ref a3, .ref a4, .int 0, .ref a5, .int 0, .ref a6, .int 0, .null, .int 0, .ref q0, .long 0, .int 0, .null])), (q0, .inl (z.2 0, 0, .inl (fun _ => 0)))] := hD
  refine W.eq (g2 := F0 m 41 ls []) rfl ?_
  refine lv_aload_n hx hb d_14_64_41 rfl (lv_at hl 0 rfl) ?_
  refine lv_lload hx hb d_14_64_42 (lv_at hl 5 rfl) ?_
  refine va_put (D := z.1) (ci := 18) (v := .long 0) (ty := .long) (C := "BallothallModel") (T := TX18) (N := 13) hx hb hts iX18 tyX18 tyX18_ok nmX18 hown hG.1 hP hD hS 1 rfl rfl 10 (by decide) (hts _ w_1655) (fun _ h9 => h9) rfl (by decide +kernel) rfl rfl (Nat.le_of_ble_eq_true rfl) d_14_64_44 (fun H locs hP hD hS => ?_)
  have hP : va_P z.1 classes [(a2, .inl (z.2 0, 0, .inl (fun _ => 0))), (a0, .inr (18, [.ref a3, .ref a4, .int 0, .ref a5, .int 0, .ref a6, .int 0, .null, .int 0, .ref q0, .long 0, .int 0, .null])), (q0, .inl (z.2 0, 0, .inl (fun _ => 0)))] H := hP
  have hD : va_D A [(a2, .inl (z.2 0, 0, .inl (fun _ => 0))), (a0, .inr (18, [.ref a3, .ref a4, .int 0, .ref a5, .int 0, .ref a6, .int 0, .null, .int 0, .ref q0, .long 0, .int 0, .null])), (q0, .inl (z.2 0, 0, .inl (fun _ => 0)))] := hD
  refine W.widen (k := 1) (n := 0) (Nat.le_of_ble_eq_true rfl) (Nat.le_of_ble_eq_true rfl) ?_
  exact W.vret hx hb hr (fun t ht hW => qk hP hD hS [0, 1, 2] rfl ((fun k => ([q0] : List Nat).getD k 0), (fun _ _ => none)) rfl rfl rfl ht) hS.2.2 d_14_64_47
