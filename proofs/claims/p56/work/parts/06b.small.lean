/-! SMALL WORDS -/
theorem rg_ij {x : Int} (h : rgI x) : rgJ x := ⟨by have := h.1; omega, by have := h.2; omega⟩
theorem rg_min {x y : Int} (h : rgI x) (g : rgI y) : rgI (min x y) := ⟨by have := h.1; have := g.1; omega, by have := h.2; have := g.2; omega⟩
theorem rg_max {x y : Int} (h : rgI x) (g : rgI y) : rgI (max x y) := ⟨by have := h.1; have := g.1; omega, by have := h.2; have := g.2; omega⟩
theorem rg_minJ {x y : Int} (h : rgJ x) (g : rgJ y) : rgJ (min x y) := ⟨by have := h.1; have := g.1; omega, by have := h.2; have := g.2; omega⟩
abbrev nnJ (x : Int) : Prop := 0 ≤ x ∧ x ≤ 9223372036854775807
abbrev psI (x : Int) : Prop := 0 < x ∧ x ≤ 2147483647
abbrev psJ (x : Int) : Prop := 0 < x ∧ x ≤ 9223372036854775807
abbrev shI (x : Int) : Prop := 0 ≤ x ∧ x < 32
abbrev shJ (x : Int) : Prop := 0 ≤ x ∧ x < 64
theorem rg_nn {x : Int} (h : nnI x) : rgI x := ⟨by have := h.1; omega, h.2⟩
theorem rg_ps {x : Int} (h : psI x) : rgI x := ⟨by have := h.1; omega, h.2⟩
theorem rg_nnJ {x : Int} (h : nnJ x) : rgJ x := ⟨by have := h.1; omega, h.2⟩
theorem rg_psJ {x : Int} (h : psJ x) : rgJ x := ⟨by have := h.1; omega, h.2⟩
theorem oI_one_shl {b : Int} (h : shI b) : oI 1 <<< (oI b &&& 31) = oI (2 ^ b.toNat) := by rw [oI_shl h.1 h.2, Int.one_mul]
theorem oI_eq0 {x : Int} (h : rgI x) : oI x = 0 ↔ x = 0 := oI_eq (b := 0) h (by decide)
theorem oI_lt0 {x : Int} (h : rgI x) : oI x < 0 ↔ x < 0 := oI_lt (b := 0) h (by decide)
theorem oI_gt0 {x : Int} (h : rgI x) : 0 < oI x ↔ 0 < x := oI_lt (a := 0) (by decide) h
theorem oI_le0 {x : Int} (h : rgI x) : oI x ≤ 0 ↔ x ≤ 0 := oI_le (b := 0) h (by decide)
theorem oI_ge0 {x : Int} (h : rgI x) : 0 ≤ oI x ↔ 0 ≤ x := oI_le (a := 0) (by decide) h
theorem and_nn {a b : Int} (h : nnI a) : nnI (andI a b) := by
  have h1 := @Nat.and_le_left a.toNat b.toNat
  have h2 := h.2
  have h3 := h.1
  show 0 ≤ ((a.toNat &&& b.toNat : Nat) : Int) ∧ ((a.toNat &&& b.toNat : Nat) : Int) ≤ _
  omega
theorem df_nn {a b : Int} (h : nnI a) : nnI (dfI a b) := by
  have h1 := @Nat.and_le_left a.toNat (4294967296 - (b.toNat + 1))
  have h2 := h.2
  have h3 := h.1
  show 0 ≤ ((a.toNat &&& (4294967296 - (b.toNat + 1)) : Nat) : Int) ∧ ((a.toNat &&& (4294967296 - (b.toNat + 1)) : Nat) : Int) ≤ _
  omega
def orf (ad : Nat → Nat) (r : Option Nat) : Value := va_rf (r.map ad)
theorem orf_or {ad : Nat → Nat} {r : Option Nat} : orf ad r = .null ∨ ∃ a, orf ad r = .ref a := by
  cases r with
  | none => exact Or.inl rfl
  | some i => exact Or.inr ⟨_, rfl⟩
theorem m_aO {p : Program} {l : Launch} {e : Env} {R : Room} {s : State} {m : MethodId} {args : Array Value} {below : List Frame} {meth : Method} {c : Code} {H : Heap} {locs : List Loc} {cells slots : Nat} {Q : State → Prop} {cc : ByteArray} {pc : Nat} {ls : Array Slot} {rest : List Value} {z : Zz} {ad : Nat → Nat} {E : Ev} {M : Mm} {i t n : Nat} {C : String} {j : Int} (hx : p.tables.exec = Jvm.exec) (hb : c.code = cc) (hG : KG z s) (hP : va_P z.1 classes (wv z ad E M) H) (hi : i < nE E) (hT : tE E i = (t, n)) (h3 : (Nat.ble 3 t && Nat.blt t 100) = true) (ht : (TY z.2)[t]? = some (z.2 t, .object C)) (hin : inb j n) (hdg : decode cc pc = .ok (.aaload, 1))
    (kk : W p l e R s m args below meth c H locs cells slots Q (F0 m (pc + 1) ls (orf ad (rE E i j.toNat) :: rest))) : W p l e R s m args below meth c H locs cells slots Q (F0 m pc ls (.int (oI j) :: .ref (ad i) :: rest)) := va_aldq hx hb hG.1 hP i t (wv_q hi hT h3) ht (inb_v hin) hdg (by rw [inb_n hin, rfA_in (inb_lt hin)]; exact kk)
theorem in1 {α0 : Type} {a0 b0 : α0} (h : some a0 = some b0) : a0 = b0 := by cases h; exact rfl
theorem in2 {α0 α1 : Type} {a0 b0 : α0} {a1 b1 : α1} (h : some (a0, a1) = some (b0, b1)) : a0 = b0 ∧ a1 = b1 := by cases h; exact ⟨rfl, rfl⟩
theorem in3 {α0 α1 α2 : Type} {a0 b0 : α0} {a1 b1 : α1} {a2 b2 : α2} (h : some (a0, a1, a2) = some (b0, b1, b2)) : a0 = b0 ∧ a1 = b1 ∧ a2 = b2 := by cases h; exact ⟨rfl, rfl, rfl⟩
theorem in4 {α0 α1 α2 α3 : Type} {a0 b0 : α0} {a1 b1 : α1} {a2 b2 : α2} {a3 b3 : α3} (h : some (a0, a1, a2, a3) = some (b0, b1, b2, b3)) : a0 = b0 ∧ a1 = b1 ∧ a2 = b2 ∧ a3 = b3 := by cases h; exact ⟨rfl, rfl, rfl, rfl⟩
theorem in5 {α0 α1 α2 α3 α4 : Type} {a0 b0 : α0} {a1 b1 : α1} {a2 b2 : α2} {a3 b3 : α3} {a4 b4 : α4} (h : some (a0, a1, a2, a3, a4) = some (b0, b1, b2, b3, b4)) : a0 = b0 ∧ a1 = b1 ∧ a2 = b2 ∧ a3 = b3 ∧ a4 = b4 := by cases h; exact ⟨rfl, rfl, rfl, rfl, rfl⟩
theorem in6 {α0 α1 α2 α3 α4 α5 : Type} {a0 b0 : α0} {a1 b1 : α1} {a2 b2 : α2} {a3 b3 : α3} {a4 b4 : α4} {a5 b5 : α5} (h : some (a0, a1, a2, a3, a4, a5) = some (b0, b1, b2, b3, b4, b5)) : a0 = b0 ∧ a1 = b1 ∧ a2 = b2 ∧ a3 = b3 ∧ a4 = b4 ∧ a5 = b5 := by cases h; exact ⟨rfl, rfl, rfl, rfl, rfl, rfl⟩
theorem in7 {α0 α1 α2 α3 α4 α5 α6 : Type} {a0 b0 : α0} {a1 b1 : α1} {a2 b2 : α2} {a3 b3 : α3} {a4 b4 : α4} {a5 b5 : α5} {a6 b6 : α6} (h : some (a0, a1, a2, a3, a4, a5, a6) = some (b0, b1, b2, b3, b4, b5, b6)) : a0 = b0 ∧ a1 = b1 ∧ a2 = b2 ∧ a3 = b3 ∧ a4 = b4 ∧ a5 = b5 ∧ a6 = b6 := by cases h; exact ⟨rfl, rfl, rfl, rfl, rfl, rfl, rfl⟩
theorem in8 {α0 α1 α2 α3 α4 α5 α6 α7 : Type} {a0 b0 : α0} {a1 b1 : α1} {a2 b2 : α2} {a3 b3 : α3} {a4 b4 : α4} {a5 b5 : α5} {a6 b6 : α6} {a7 b7 : α7} (h : some (a0, a1, a2, a3, a4, a5, a6, a7) = some (b0, b1, b2, b3, b4, b5, b6, b7)) : a0 = b0 ∧ a1 = b1 ∧ a2 = b2 ∧ a3 = b3 ∧ a4 = b4 ∧ a5 = b5 ∧ a6 = b6 ∧ a7 = b7 := by cases h; exact ⟨rfl, rfl, rfl, rfl, rfl, rfl, rfl, rfl⟩
theorem in9 {α0 α1 α2 α3 α4 α5 α6 α7 α8 : Type} {a0 b0 : α0} {a1 b1 : α1} {a2 b2 : α2} {a3 b3 : α3} {a4 b4 : α4} {a5 b5 : α5} {a6 b6 : α6} {a7 b7 : α7} {a8 b8 : α8} (h : some (a0, a1, a2, a3, a4, a5, a6, a7, a8) = some (b0, b1, b2, b3, b4, b5, b6, b7, b8)) : a0 = b0 ∧ a1 = b1 ∧ a2 = b2 ∧ a3 = b3 ∧ a4 = b4 ∧ a5 = b5 ∧ a6 = b6 ∧ a7 = b7 ∧ a8 = b8 := by cases h; exact ⟨rfl, rfl, rfl, rfl, rfl, rfl, rfl, rfl, rfl⟩
theorem in10 {α0 α1 α2 α3 α4 α5 α6 α7 α8 α9 : Type} {a0 b0 : α0} {a1 b1 : α1} {a2 b2 : α2} {a3 b3 : α3} {a4 b4 : α4} {a5 b5 : α5} {a6 b6 : α6} {a7 b7 : α7} {a8 b8 : α8} {a9 b9 : α9} (h : some (a0, a1, a2, a3, a4, a5, a6, a7, a8, a9) = some (b0, b1, b2, b3, b4, b5, b6, b7, b8, b9)) : a0 = b0 ∧ a1 = b1 ∧ a2 = b2 ∧ a3 = b3 ∧ a4 = b4 ∧ a5 = b5 ∧ a6 = b6 ∧ a7 = b7 ∧ a8 = b8 ∧ a9 = b9 := by cases h; exact ⟨rfl, rfl, rfl, rfl, rfl, rfl, rfl, rfl, rfl, rfl⟩
theorem in11 {α0 α1 α2 α3 α4 α5 α6 α7 α8 α9 α10 : Type} {a0 b0 : α0} {a1 b1 : α1} {a2 b2 : α2} {a3 b3 : α3} {a4 b4 : α4} {a5 b5 : α5} {a6 b6 : α6} {a7 b7 : α7} {a8 b8 : α8} {a9 b9 : α9} {a10 b10 : α10} (h : some (a0, a1, a2, a3, a4, a5, a6, a7, a8, a9, a10) = some (b0, b1, b2, b3, b4, b5, b6, b7, b8, b9, b10)) : a0 = b0 ∧ a1 = b1 ∧ a2 = b2 ∧ a3 = b3 ∧ a4 = b4 ∧ a5 = b5 ∧ a6 = b6 ∧ a7 = b7 ∧ a8 = b8 ∧ a9 = b9 ∧ a10 = b10 := by cases h; exact ⟨rfl, rfl, rfl, rfl, rfl, rfl, rfl, rfl, rfl, rfl, rfl⟩
