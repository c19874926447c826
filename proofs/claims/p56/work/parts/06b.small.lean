/-! SMALL WORDS -/
abbrev rmI (a b : Int32) : Int32 := a - a / b * b
abbrev rmL (a b : Int64) : Int64 := a - a / b * b
abbrev ushI (x y : Int32) : Int32 := (x.toUInt32 >>> (y.toUInt32 &&& Int32.toUInt32 31)).toInt32
abbrev ushL (x : Int64) (y : Int32) : Int64 := (x.toUInt64 >>> (y.toInt64.toUInt64 &&& Int64.toUInt64 63)).toInt64
theorem nz_b {x : Int32} (h : x = 0 ∨ x = 1) : narrow .boolean (.int x) = .int x := by rcases h with rfl | rfl <;> rfl
def orf (ad : Nat → Nat) (r : Option Nat) : Value := va_rf (r.map ad)
theorem orf_or {ad : Nat → Nat} {r : Option Nat} : orf ad r = .null ∨ ∃ a, orf ad r = .ref a := by
  cases r with
  | none => exact Or.inl rfl
  | some i => exact Or.inr ⟨_, rfl⟩
theorem inb_lt {j : Int32} {n : Nat} (h : inb j n) : j.toNatClampNeg < n := Nat.not_le.mp fun q => h (Or.inr q)
theorem m_aO {p : Program} {l : Launch} {e : Env} {R : Room} {s : State} {m : MethodId} {args : Array Value} {below : List Frame} {meth : Method} {c : Code} {H : Heap} {locs : List Loc} {cells slots : Nat} {Q : State → Prop} {cc : ByteArray} {pc : Nat} {ls : Array Slot} {rest : List Value} {z : Zz} {ad : Nat → Nat} {E : Ev} {M : Mm} {i t n : Nat} {C : String} {j : Int32} (hx : p.tables.exec = Jvm.exec) (hb : c.code = cc) (hG : KG z s) (hP : va_P z.1 classes (wv z ad E M) H) (hi : i < E.1) (hT : E.2.1 i = (t, n)) (h3 : (Nat.ble 3 t && Nat.blt t 100) = true) (ht : (TY z.2)[t]? = some (z.2 t, .object C)) (hin : inb j n) (hdg : decode cc pc = .ok (.aaload, 1))
    (kk : W p l e R s m args below meth c H locs cells slots Q (F0 m (pc + 1) ls (orf ad (E.2.2 i j.toNatClampNeg) :: rest))) : W p l e R s m args below meth c H locs cells slots Q (F0 m pc ls (.int j :: .ref (ad i) :: rest)) := va_aldq hx hb hG.1 hP i t (wv_q hi hT h3) ht hin hdg kk
