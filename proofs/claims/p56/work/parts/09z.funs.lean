/-! WHAT EACH METHOD DOES TO THE MEMORY: printed out of the bytecode by wip/p56/gen -/
def f_B_needIndex (E : Ev) (M : Mm) (x0 : Int32) (x1 : Int32) : Option Mm :=
  (if x0 < 0 then
  none
  else
  (if x0 < x1 then
  some M
  else
  none))
def f_Bx_everybody (E : Ev) (M : Mm) : Option (Int32 × Mm) :=
  some ((((1 : Int32) <<< ((M.1 2 2) &&& 31)) - (1 : Int32)), M)
def Ar_fillI_5b (E : Ev) (M : Mm) (q0 : Nat) (x1 : Int32) (x3 : Int32) (x2 : Int32) : Option (Nat × Int32 × Mm) :=
  ck (isIA E q0) <|
  (if x3 ≤ x2 then
  some (1, x2, M)
  else
  ck (inb x2 (E.2.1 q0).2) <|
  some (0, (x2 + 1), (u2 M q0 x2.toNatClampNeg x1)))
def l_Ar_fillI_5 (E : Ev) (q0 : Nat) (x1 : Int32) (x3 : Int32) : Nat → Mm → Int32 → Option (Nat × Int32 × Mm)
  | 0, _, _ => none
  | fu + 1, M, x2 => (Ar_fillI_5b E M q0 x1 x3 x2).bind fun (t, w2, N) => if t = 0 then l_Ar_fillI_5 E q0 x1 x3 fu N w2 else some (t, w2, N)
def f_Ar_fillI (E : Ev) (M : Mm) (p0 : Nat) (x1 : Int32) : Option Mm :=
  ck (isIA E p0) <|
  (l_Ar_fillI_5 E p0 x1 (nI (E.2.1 p0).2) FU M 0).bind fun (t1, v1_2, M1) =>
  ck (t1 = 1) <|
  some M1
def Bx_topOf_2b (E : Ev) (M : Mm) (x1 : Int32) (x2 : Int32) (x3 : Int32) : Option (Nat × Int32 × Int32 × Mm) :=
  ck (inb x1 31) <|
  (if (M.1 7 x1.toNatClampNeg) ≤ x3 then
  some (2, x3, 0, M)
  else
  ck (inb x1 31) <|
  ck (inb x3 8) <|
  nb (((M.1 (9 + x1.toNatClampNeg) x3.toNatClampNeg) &&& x2)) fun (v3 : Int32) =>
  (if v3 = 0 then
  some (0, (x3 + 1), v3, M)
  else
  some (1, x3, v3, M)))
def l_Bx_topOf_2 (E : Ev) (x1 : Int32) (x2 : Int32) : Nat → Mm → Int32 → Option (Nat × Int32 × Int32 × Mm)
  | 0, _, _ => none
  | fu + 1, M, x3 => (Bx_topOf_2b E M x1 x2 x3).bind fun (t, w3, w4, N) => if t = 0 then l_Bx_topOf_2 E x1 x2 fu N w3 else some (t, w3, w4, N)
def f_Bx_topOf (E : Ev) (M : Mm) (x1 : Int32) (x2 : Int32) : Option (Int32 × Mm) :=
  (l_Bx_topOf_2 E x1 x2 FU M 0).bind fun (t4, v4_3, v4_4, M4) =>
  (if t4 = 1 then
  some (v4_4, M4)
  else (if t4 = 2 then
  some (0, M4)
  else none))
def f_In_bitCount (E : Ev) (M : Mm) (x0 : Int32) : Option (Int32 × Mm) :=
  nb ((x0 - ((ushI x0 (1 : Int32)) &&& (1431655765 : Int32)))) fun (v0 : Int32) =>
  nb (((v0 &&& (858993459 : Int32)) + ((ushI v0 (2 : Int32)) &&& (858993459 : Int32)))) fun (v1 : Int32) =>
  nb (((v1 + (ushI v1 (4 : Int32))) &&& (252645135 : Int32))) fun (v2 : Int32) =>
  nb (((v2 + (ushI v2 (8 : Int32))) + (ushI (v2 + (ushI v2 (8 : Int32))) (16 : Int32)))) fun (v3 : Int32) =>
  some ((v3 &&& (63 : Int32)), M)
def f_Bx_soleTopOf (E : Ev) (M : Mm) (x1 : Int32) (x2 : Int32) : Option (Int32 × Mm) :=
  (f_Bx_topOf E M x1 x2).bind fun (r0, M0) =>
  (f_In_bitCount E M0 r0).bind fun (r1, M1) =>
  (if r1 = 1 then
  (f_In_bitCount E M1 (r0 - (1 : Int32))).bind fun (r2, M2) =>
  some (r2, M2)
  else
  some ((-1), M1))
def f_B_has (E : Ev) (M : Mm) (x0 : Int32) (x1 : Int32) : Option (Int32 × Mm) :=
  (if ((x0 >>> (x1 &&& 31)) &&& (1 : Int32)) = 0 then
  some (0, M)
  else
  some (1, M))
def Po_changePairs_27b (E : Ev) (M : Mm) (x1 : Int32) (x2 : Int32) (x3 : Int32) (x4 : Int32) (x5 : Int32) : Option (Nat × Int32 × Mm) :=
  (if (M.1 2 2) ≤ x5 then
  some (1, x5, M)
  else
  (f_B_has E M x2 x5).bind fun (r1, M1) =>
  (if r1 = 0 then
  some (0, (x5 + 1), M1)
  else
  ck (inb ((x4 * (8 : Int32)) + x5) 64) <|
  nb (((M1.1 45 ((x4 * (8 : Int32)) + x5).toNatClampNeg) + x3)) fun (v3 : Int32) =>
  ck (inb ((x4 * (8 : Int32)) + x5) 64) <|
  some (0, (x5 + 1), (u2 M1 45 ((x4 * (8 : Int32)) + x5).toNatClampNeg v3))))
def l_Po_changePairs_27 (E : Ev) (x1 : Int32) (x2 : Int32) (x3 : Int32) (x4 : Int32) : Nat → Mm → Int32 → Option (Nat × Int32 × Mm)
  | 0, _, _ => none
  | fu + 1, M, x5 => (Po_changePairs_27b E M x1 x2 x3 x4 x5).bind fun (t, w5, N) => if t = 0 then l_Po_changePairs_27 E x1 x2 x3 x4 fu N w5 else some (t, w5, N)
def Po_changePairs_3b (E : Ev) (M : Mm) (x1 : Int32) (x2 : Int32) (x3 : Int32) (x4 : Int32) : Option (Nat × Int32 × Mm) :=
  (if (M.1 2 2) ≤ x4 then
  some (1, x4, M)
  else
  (f_B_has E M x1 x4).bind fun (r0, M0) =>
  (if r0 = 0 then
  some (0, (x4 + 1), M0)
  else
  (l_Po_changePairs_27 E x1 x2 x3 x4 FU M0 0).bind fun (t5, v5_5, M5) =>
  ck (t5 = 1) <|
  some (0, (x4 + 1), M5)))
def l_Po_changePairs_3 (E : Ev) (x1 : Int32) (x2 : Int32) (x3 : Int32) : Nat → Mm → Int32 → Option (Nat × Int32 × Mm)
  | 0, _, _ => none
  | fu + 1, M, x4 => (Po_changePairs_3b E M x1 x2 x3 x4).bind fun (t, w4, N) => if t = 0 then l_Po_changePairs_3 E x1 x2 x3 fu N w4 else some (t, w4, N)
def f_Po_changePairs (E : Ev) (M : Mm) (x1 : Int32) (x2 : Int32) (x3 : Int32) : Option Mm :=
  (l_Po_changePairs_3 E x1 x2 x3 FU M 0).bind fun (t6, v6_4, M6) =>
  ck (t6 = 1) <|
  some M6
def Po_change_62b (E : Ev) (M : Mm) (x1 : Int32) (x2 : Int32) (x4 : Int32) (x5 : Int32) : Option (Nat × Int32 × Int32 × Mm) :=
  ck (inb x1 31) <|
  (if (M.1 7 x1.toNatClampNeg) ≤ x5 then
  some (1, x4, x5, M)
  else
  ck (inb x1 31) <|
  ck (inb x5 8) <|
  nb (((M.1 (9 + x1.toNatClampNeg) x5.toNatClampNeg) &&& (M.1 41 1))) fun (v7 : Int32) =>
  nb ((x4 &&& (v7 ^^^ (-1 : Int32)))) fun (v8 : Int32) =>
  (f_Po_changePairs E M v7 v8 x2).bind fun M9 =>
  some (0, v8, (x5 + 1), M9))
def l_Po_change_62 (E : Ev) (x1 : Int32) (x2 : Int32) : Nat → Mm → Int32 → Int32 → Option (Nat × Int32 × Int32 × Mm)
  | 0, _, _, _ => none
  | fu + 1, M, x4, x5 => (Po_change_62b E M x1 x2 x4 x5).bind fun (t, w4, w5, N) => if t = 0 then l_Po_change_62 E x1 x2 fu N w4 w5 else some (t, w4, w5, N)
def Po_change_122b (E : Ev) (M : Mm) (x1 : Int32) (x2 : Int32) (x5 : Int32) : Option (Nat × Int32 × Mm) :=
  (if (M.1 2 2) ≤ x5 then
  some (1, x5, M)
  else
  ck (inb x1 31) <|
  (f_B_has E M ((M.1 6 x1.toNatClampNeg) &&& (M.1 41 1)) x5).bind fun (r12, M12) =>
  (if r12 = 0 then
  some (0, (x5 + 1), M12)
  else
  ck (inb x5 8) <|
  nb (((M12.1 44 x5.toNatClampNeg) + x2)) fun (v14 : Int32) =>
  ck (inb x5 8) <|
  some (0, (x5 + 1), (u2 M12 44 x5.toNatClampNeg v14))))
def l_Po_change_122 (E : Ev) (x1 : Int32) (x2 : Int32) : Nat → Mm → Int32 → Option (Nat × Int32 × Mm)
  | 0, _, _ => none
  | fu + 1, M, x5 => (Po_change_122b E M x1 x2 x5).bind fun (t, w5, N) => if t = 0 then l_Po_change_122 E x1 x2 fu N w5 else some (t, w5, N)
def f_Po_change (E : Ev) (M : Mm) (x1 : Int32) (x2 : Int32) : Option Mm :=
  (if x2 = 0 then
  some M
  else
  ck (inb x1 31) <|
  nb (((M.1 42 x1.toNatClampNeg) + x2)) fun (v1 : Int32) =>
  ck (inb x1 31) <|
  (f_Bx_soleTopOf E (u2 (u2 M 42 x1.toNatClampNeg v1) 41 2 (((u2 M 42 x1.toNatClampNeg v1).1 41 2) + x2)) x1 ((u2 (u2 M 42 x1.toNatClampNeg v1) 41 2 (((u2 M 42 x1.toNatClampNeg v1).1 41 2) + x2)).1 41 1)).bind fun (r3, M3) =>
  (if r3 = (-1) then
  (l_Po_change_62 E x1 x2 FU M3 (M3.1 41 1) 0).bind fun (t10, v10_4, v10_5, M10) =>
  ck (t10 = 1) <|
  (l_Po_change_122 E x1 x2 FU M10 0).bind fun (t16, v16_5, M16) =>
  ck (t16 = 1) <|
  some M16
  else
  ck (inb r3 8) <|
  nb (((M3.1 43 r3.toNatClampNeg) + x2)) fun (v18 : Int32) =>
  ck (inb r3 8) <|
  nb (((u2 M3 43 r3.toNatClampNeg v18).1 41 1)) fun (v20 : Int32) =>
  (l_Po_change_62 E x1 x2 FU (u2 M3 43 r3.toNatClampNeg v18) v20 0).bind fun (t21, v21_4, v21_5, M21) =>
  ck (t21 = 1) <|
  (l_Po_change_122 E x1 x2 FU M21 0).bind fun (t22, v22_5, M22) =>
  ck (t22 = 1) <|
  some M22))
def Po_open_44b (E : Ev) (M : Mm) (x2 : Int32) : Option (Nat × Int32 × Mm) :=
  (if (M.1 2 3) ≤ x2 then
  some (1, x2, M)
  else
  ck (inb x2 31) <|
  (f_Po_change E M x2 (M.1 5 x2.toNatClampNeg)).bind fun M5 =>
  some (0, (x2 + 1), M5))
def l_Po_open_44 (E : Ev) : Nat → Mm → Int32 → Option (Nat × Int32 × Mm)
  | 0, _, _ => none
  | fu + 1, M, x2 => (Po_open_44b E M x2).bind fun (t, w2, N) => if t = 0 then l_Po_open_44 E fu N w2 else some (t, w2, N)
def f_Po_open (E : Ev) (M : Mm) (x1 : Int32) : Option Mm :=
  (f_Ar_fillI E (u2 (u2 M 41 1 x1) 41 2 0) 42 0).bind fun M0 =>
  (f_Ar_fillI E M0 43 0).bind fun M1 =>
  (f_Ar_fillI E M1 44 0).bind fun M2 =>
  (f_Ar_fillI E M2 45 0).bind fun M3 =>
  (l_Po_open_44 E FU M3 0).bind fun (t6, v6_2, M6) =>
  ck (t6 = 1) <|
  some M6
def f_Po_pair (E : Ev) (M : Mm) (x1 : Int32) (x2 : Int32) : Option (Int32 × Mm) :=
  ck (inb ((x1 * (8 : Int32)) + x2) 64) <|
  some ((M.1 45 ((x1 * (8 : Int32)) + x2).toNatClampNeg), M)
def f_B_ahead (E : Ev) (M : Mm) (x1 : Int32) (x2 : Int32) : Option (Int32 × Mm) :=
  (f_B_needIndex E M x1 (M.1 2 2)).bind fun M0 =>
  (f_B_needIndex E M0 x2 (M0.1 2 2)).bind fun M1 =>
  (f_Bx_everybody E M1).bind fun (r2, M2) =>
  (f_Po_open E M2 r2).bind fun M3 =>
  (f_Po_pair E M3 x1 x2).bind fun (r4, M4) =>
  some (r4, M4)
def Bx_ballotsOf_5b (E : Ev) (M : Mm) (q1 : Nat) (x2 : Int32) (x3 : Int32) (x4 : Int32) : Option (Nat × Int32 × Int32 × Mm) :=
  ck (isIA E q1) <|
  (if x2 ≤ x4 then
  some (1, x3, x4, M)
  else
  ck (inb x4 (E.2.1 q1).2) <|
  nb ((x3 + (M.1 q1 x4.toNatClampNeg))) fun (v1 : Int32) =>
  some (0, v1, (x4 + 1), M))
def l_Bx_ballotsOf_5 (E : Ev) (q1 : Nat) (x2 : Int32) : Nat → Mm → Int32 → Int32 → Option (Nat × Int32 × Int32 × Mm)
  | 0, _, _, _ => none
  | fu + 1, M, x3, x4 => (Bx_ballotsOf_5b E M q1 x2 x3 x4).bind fun (t, w3, w4, N) => if t = 0 then l_Bx_ballotsOf_5 E q1 x2 fu N w3 w4 else some (t, w3, w4, N)
def f_Bx_ballotsOf (E : Ev) (M : Mm) (p1 : Nat) (x2 : Int32) : Option (Int32 × Mm) :=
  ck (isIA E p1) <|
  (l_Bx_ballotsOf_5 E p1 x2 FU M 0 0).bind fun (t2, v2_3, v2_4, M2) =>
  ck (t2 = 1) <|
  some (v2_3, M2)
def f_B_allBallots (E : Ev) (M : Mm) : Option (Int32 × Mm) :=
  (f_Bx_ballotsOf E M 5 (M.1 2 3)).bind fun (r0, M0) =>
  some (r0, M0)
def f_B_needRange (E : Ev) (M : Mm) (x0 : Int32) (x1 : Int32) (x2 : Int32) : Option Mm :=
  (if x0 < x1 then
  none
  else
  (if x0 ≤ x2 then
  some M
  else
  none))
def f_B_remember (E : Ev) (M : Mm) (x1 : Int32) (x2 : Int32) (x3 : Int32) : Option Mm :=
  ck (inb ((u2 M 1 10 (rmI ((M.1 1 10) + (1 : Int32)) (20 : Int32))).1 1 10) 20) <|
  nb (u2 (u2 M 1 10 (rmI ((M.1 1 10) + (1 : Int32)) (20 : Int32))) 246 ((u2 M 1 10 (rmI ((M.1 1 10) + (1 : Int32)) (20 : Int32))).1 1 10).toNatClampNeg x1) fun (M1 : Mm) =>
  ck (inb (M1.1 1 10) 20) <|
  ck (inb ((u2 M1 247 (M1.1 1 10).toNatClampNeg x2).1 1 10) 20) <|
  nb (u2 (u2 M1 247 (M1.1 1 10).toNatClampNeg x2) 248 ((u2 M1 247 (M1.1 1 10).toNatClampNeg x2).1 1 10).toNatClampNeg x3) fun (M4 : Mm) =>
  nb ((mnI ((M4.1 1 11) + (1 : Int32)) 20)) fun (v5 : Int32) =>
  some (u2 M4 1 11 v5)
def f_B_ally (E : Ev) (M : Mm) (x1 : Int32) (x2 : Int32) : Option (Int32 × Mm) :=
  (f_B_needIndex E M x1 (M.1 53 0)).bind fun M0 =>
  (f_B_needRange E M0 x2 0 4).bind fun M1 =>
  ck (inb x1 8) <|
  ck (inb x1 8) <|
  (f_B_remember E (u2 M1 55 x1.toNatClampNeg x2) 7 x1 (M1.1 55 x1.toNatClampNeg)).bind fun M4 =>
  some ((M1.1 55 x1.toNatClampNeg), M4)
def f_B_appendByte (E : Ev) (M : Mm) (x1 : Int32) : Option Mm :=
  (if 240 ≤ (M.1 1 13) then
  some M
  else
  ck (inb (M.1 1 13) 240) <|
  nb (u2 (u2 M 249 (M.1 1 13).toNatClampNeg x1) 1 13 (((u2 M 249 (M.1 1 13).toNatClampNeg x1).1 1 13) + (1 : Int32))) fun (M1 : Mm) =>
  some M1)
def Na_trimTo_10b (E : Ev) (M : Mm) (q0 : Nat) : Option (Nat × Mm) :=
  ck (isNa E q0) <|
  (if (M.1 q0 1) ≤ 0 then
  some (1, M)
  else
  ck (inb ((M.1 q0 1) - (1 : Int32)) 13) <|
  (if (M.1 (q0 + 1) ((M.1 q0 1) - (1 : Int32)).toNatClampNeg) = 0 then
  some (0, (u2 M q0 1 ((M.1 q0 1) - (1 : Int32))))
  else
  some (1, M)))
def l_Na_trimTo_10 (E : Ev) (q0 : Nat) : Nat → Mm → Option (Nat × Mm)
  | 0, _ => none
  | fu + 1, M => (Na_trimTo_10b E M q0).bind fun (t, N) => if t = 0 then l_Na_trimTo_10 E q0 fu N else some (t, N)
def f_Na_trimTo (E : Ev) (M : Mm) (p0 : Nat) (x1 : Int32) : Option Mm :=
  ck (isNa E p0) <|
  (l_Na_trimTo_10 E p0 FU (u2 M p0 1 (mnI x1 13))).bind fun (t1, M1) =>
  ck (t1 = 1) <|
  some M1
def Na_divideSmall_16b (E : Ev) (M : Mm) (q0 : Nat) (x1 : Int32) (x2 : Int64) (x4 : Int32) : Option (Nat × Int64 × Int32 × Mm) :=
  ck (isNa E q0) <|
  (if x4 < 0 then
  some (1, x2, x4, M)
  else
  ck (inb x4 13) <|
  nb (((x2 <<< ((30 : Int32).toInt64 &&& 63)) + (M.1 (q0 + 1) x4.toNatClampNeg).toInt64)) fun (v1 : Int64) =>
  ck (¬ x1.toInt64 = 0) <|
  ck (inb x4 13) <|
  ck (¬ x1.toInt64 = 0) <|
  some (0, (rmL v1 x1.toInt64), (x4 + (-1)), (u2 M (q0 + 1) x4.toNatClampNeg (v1 / x1.toInt64).toInt32)))
def l_Na_divideSmall_16 (E : Ev) (q0 : Nat) (x1 : Int32) : Nat → Mm → Int64 → Int32 → Option (Nat × Int64 × Int32 × Mm)
  | 0, _, _, _ => none
  | fu + 1, M, x2, x4 => (Na_divideSmall_16b E M q0 x1 x2 x4).bind fun (t, w2, w4, N) => if t = 0 then l_Na_divideSmall_16 E q0 x1 fu N w2 w4 else some (t, w2, w4, N)
def f_Na_divideSmall (E : Ev) (M : Mm) (p0 : Nat) (x1 : Int32) : Option (Int32 × Mm) :=
  ck (isNa E p0) <|
  (if 0 < x1 then
  (l_Na_divideSmall_16 E p0 x1 FU M 0 ((M.1 p0 1) - (1 : Int32))).bind fun (t5, v5_2, v5_4, M5) =>
  ck (t5 = 1) <|
  (f_Na_trimTo E M5 p0 (M5.1 p0 1)).bind fun M6 =>
  some (v5_2.toInt32, M6)
  else
  some (0, M))
def B_appendNumber_20b (E : Ev) (M : Mm) (q1 : Nat) (x2 : Int32) (x3 : Int32) : Option (Nat × Int32 × Mm) :=
  ck (isNa E q1) <|
  (if 240 ≤ x3 then
  some (1, x3, M)
  else
  (if (M.1 q1 1) ≤ 0 then
  some (1, x3, M)
  else
  (f_Na_divideSmall E M q1 10).bind fun (r2, M2) =>
  (f_B_appendByte E M2 ((48 : Int32) + r2)).bind fun M3 =>
  some (0, (x3 + 1), M3)))
def l_B_appendNumber_20 (E : Ev) (q1 : Nat) (x2 : Int32) : Nat → Mm → Int32 → Option (Nat × Int32 × Mm)
  | 0, _, _ => none
  | fu + 1, M, x3 => (B_appendNumber_20b E M q1 x2 x3).bind fun (t, w3, N) => if t = 0 then l_B_appendNumber_20 E q1 x2 fu N w3 else some (t, w3, N)
def B_appendNumber_63b (E : Ev) (M : Mm) (x3 : Int32) (x4 : Int32) : Option (Nat × Int32 × Int32 × Mm) :=
  (if x4 ≤ x3 then
  some (1, x3, x4, M)
  else
  ck (inb x3 240) <|
  ck (inb x4 240) <|
  ck (inb x3 240) <|
  ck (inb x4 240) <|
  nb (u2 (u2 M 249 x3.toNatClampNeg (M.1 249 x4.toNatClampNeg)) 249 x4.toNatClampNeg (M.1 249 x3.toNatClampNeg)) fun (M9 : Mm) =>
  some (0, (x3 + 1), (x4 + (-1)), M9))
def l_B_appendNumber_63 (E : Ev) : Nat → Mm → Int32 → Int32 → Option (Nat × Int32 × Int32 × Mm)
  | 0, _, _, _ => none
  | fu + 1, M, x3, x4 => (B_appendNumber_63b E M x3 x4).bind fun (t, w3, w4, N) => if t = 0 then l_B_appendNumber_63 E fu N w3 w4 else some (t, w3, w4, N)
def f_B_appendNumber (E : Ev) (M : Mm) (p1 : Nat) : Option Mm :=
  ck (isNa E p1) <|
  (f_Na_divideSmall E M p1 10).bind fun (r0, M0) =>
  (f_B_appendByte E M0 ((48 : Int32) + r0)).bind fun M1 =>
  (l_B_appendNumber_20 E p1 (M.1 1 13) FU M1 1).bind fun (t4, v4_3, M4) =>
  ck (t4 = 1) <|
  (l_B_appendNumber_63 E FU M4 (M.1 1 13) ((M4.1 1 13) - (1 : Int32))).bind fun (t10, v10_3, v10_4, M10) =>
  ck (t10 = 1) <|
  some M10
def f_Bx_clearTrial (E : Ev) (M : Mm) : Option Mm :=
  (f_Ar_fillI E (u2 (u2 M 7 30 0) 6 30 0) 39 0).bind fun M0 =>
  some M0
def Bx_rankOnTrial_j27 (E : Ev) (M : Mm) (x1 : Int32) : Option Mm :=
  nb ((mxI ((M.1 7 30) - (1 : Int32)) 0)) fun (v0 : Int32) =>
  ck (inb v0 8) <|
  nb (((M.1 39 v0.toNatClampNeg) ||| ((1 : Int32) <<< (x1 &&& 31)))) fun (v2 : Int32) =>
  ck (inb v0 8) <|
  some (u2 M 39 v0.toNatClampNeg v2)
def f_Bx_rankOnTrial (E : Ev) (M : Mm) (x1 : Int32) (x2 : Int32) : Option Mm :=
  (if x2 = 0 then
  Bx_rankOnTrial_j27 E M x1
  else
  (if 8 ≤ (M.1 7 30) then
  Bx_rankOnTrial_j27 E M x1
  else
  Bx_rankOnTrial_j27 E (u2 M 7 30 ((M.1 7 30) + (1 : Int32))) x1))
def Bx_readTrial_j146 (E : Ev) (M : Mm) (x1 : Int32) (x2 : Int32) (x4 : Int32) (x5 : Int32) (y0 : Int32) : Option (Nat × Int32 × Int32 × Int32 × Int32 × Int32 × Mm) :=
  (if x4 = 0 then
  some (0, x1, x2, y0, 1, (x5 + 1), M)
  else
  some (0, x1, x2, y0, 0, (x5 + 1), M))
def Bx_readTrial_j134 (E : Ev) (M : Mm) (x1 : Int32) (x2 : Int32) (x4 : Int32) (x5 : Int32) (x6 : Int32) : Option (Nat × Int32 × Int32 × Int32 × Int32 × Int32 × Mm) :=
  (if x6 = 61 then
  Bx_readTrial_j146 E M x1 x2 x4 x5 0
  else
  Bx_readTrial_j146 E M x1 x2 x4 x5 1)
def Bx_readTrial_j117 (E : Ev) (M : Mm) (x1 : Int32) (x2 : Int32) (x4 : Int32) (x5 : Int32) (x6 : Int32) : Option (Nat × Int32 × Int32 × Int32 × Int32 × Int32 × Mm) :=
  (if x6 = 62 then
  Bx_readTrial_j134 E M x1 x2 x4 x5 x6
  else
  (if x6 = 61 then
  Bx_readTrial_j134 E M x1 x2 x4 x5 x6
  else
  some (2, x1, x2, 0, x4, x5, M)))
def Bx_readTrial_27b (E : Ev) (M : Mm) (x1 : Int32) (x2 : Int32) (x3 : Int32) (x4 : Int32) (x5 : Int32) : Option (Nat × Int32 × Int32 × Int32 × Int32 × Int32 × Mm) :=
  (if (M.1 2 1) ≤ x5 then
  some (3, x1, x2, x3, x4, x5, M)
  else
  ck (inb x5 30) <|
  (if x4 = 0 then
  (if (M.1 3 x5.toNatClampNeg) = 124 then
  (if x2 = (-1) then
  Bx_readTrial_j134 E M x1 x1 x4 x5 (M.1 3 x5.toNatClampNeg)
  else
  Bx_readTrial_j117 E M x1 x2 x4 x5 (M.1 3 x5.toNatClampNeg))
  else
  Bx_readTrial_j117 E M x1 x2 x4 x5 (M.1 3 x5.toNatClampNeg))
  else
  nb (((M.1 3 x5.toNatClampNeg) - (65 : Int32))) fun (v2 : Int32) =>
  (if v2 < 0 then
  some (1, x1, x2, x3, x4, x5, M)
  else
  (if (M.1 2 2) ≤ v2 then
  some (1, x1, x2, x3, x4, x5, M)
  else
  (f_B_has E M x1 v2).bind fun (r3, M3) =>
  (if r3 = 0 then
  nb ((x1 ||| ((1 : Int32) <<< (v2 &&& 31)))) fun (v4 : Int32) =>
  (f_Bx_rankOnTrial E M3 v2 x3).bind fun M5 =>
  Bx_readTrial_j134 E M5 v4 x2 x4 x5 (M.1 3 x5.toNatClampNeg)
  else
  some (1, x1, x2, x3, x4, x5, M3))))))
def l_Bx_readTrial_27 (E : Ev) : Nat → Mm → Int32 → Int32 → Int32 → Int32 → Int32 → Option (Nat × Int32 × Int32 × Int32 × Int32 × Int32 × Mm)
  | 0, _, _, _, _, _, _ => none
  | fu + 1, M, x1, x2, x3, x4, x5 => (Bx_readTrial_27b E M x1 x2 x3 x4 x5).bind fun (t, w1, w2, w3, w4, w5, N) => if t = 0 then l_Bx_readTrial_27 E fu N w1 w2 w3 w4 w5 else some (t, w1, w2, w3, w4, w5, N)
def Bx_readTrial_j199 (E : Ev) (M : Mm) (y0 : Int32) (y1 : Int32) (y2 : Nat) : Option (Int32 × Mm) :=
  ck (isIA E y2) <|
  ck (inb y1 (E.2.1 y2).2) <|
  some ((-1), (u2 M y2 y1.toNatClampNeg y0))
def f_Bx_readTrial (E : Ev) (M : Mm) : Option (Int32 × Mm) :=
  (f_Bx_clearTrial E M).bind fun M0 =>
  (if (M0.1 2 1) ≤ 0 then
  (l_Bx_readTrial_27 E FU M0 0 (-1) 1 0 0).bind fun (t6, v6_1, v6_2, v6_3, v6_4, v6_5, M6) =>
  (if t6 = 1 then
  some (v6_5, M6)
  else (if t6 = 2 then
  some (v6_5, M6)
  else (if t6 = 3 then
  (if v6_4 = 0 then
  (if v6_2 = (-1) then
  Bx_readTrial_j199 E M6 (M6.1 39 0) 30 6
  else
  Bx_readTrial_j199 E M6 v6_2 30 6)
  else
  some ((M6.1 2 1), M6))
  else none)))
  else
  (l_Bx_readTrial_27 E FU M0 0 (-1) 1 1 0).bind fun (t8, v8_1, v8_2, v8_3, v8_4, v8_5, M8) =>
  (if t8 = 1 then
  some (v8_5, M8)
  else (if t8 = 2 then
  some (v8_5, M8)
  else (if t8 = 3 then
  (if v8_4 = 0 then
  (if v8_2 = (-1) then
  Bx_readTrial_j199 E M8 (M8.1 39 0) 30 6
  else
  Bx_readTrial_j199 E M8 v8_2 30 6)
  else
  some ((M8.1 2 1), M8))
  else none))))
def Bx_isLikeTrial_36b (E : Ev) (M : Mm) (x1 : Int32) (x2 : Int32) : Option (Nat × Int32 × Mm) :=
  ck (inb x1 31) <|
  (if (M.1 7 x1.toNatClampNeg) ≤ x2 then
  some (2, x2, M)
  else
  ck (inb x1 31) <|
  ck (inb x2 8) <|
  ck (inb x2 8) <|
  (if (M.1 (9 + x1.toNatClampNeg) x2.toNatClampNeg) = (M.1 39 x2.toNatClampNeg) then
  some (0, (x2 + 1), M)
  else
  some (1, x2, M)))
def l_Bx_isLikeTrial_36 (E : Ev) (x1 : Int32) : Nat → Mm → Int32 → Option (Nat × Int32 × Mm)
  | 0, _, _ => none
  | fu + 1, M, x2 => (Bx_isLikeTrial_36b E M x1 x2).bind fun (t, w2, N) => if t = 0 then l_Bx_isLikeTrial_36 E x1 fu N w2 else some (t, w2, N)
def f_Bx_isLikeTrial (E : Ev) (M : Mm) (x1 : Int32) : Option (Int32 × Mm) :=
  ck (inb x1 31) <|
  (if (M.1 7 x1.toNatClampNeg) = (M.1 7 30) then
  ck (inb x1 31) <|
  (if (M.1 6 x1.toNatClampNeg) = (M.1 6 30) then
  (l_Bx_isLikeTrial_36 E x1 FU M 0).bind fun (t6, v6_2, M6) =>
  (if t6 = 1 then
  some (0, M6)
  else (if t6 = 2 then
  some (1, M6)
  else none))
  else
  some (0, M))
  else
  some (0, M))
def Bx_kindOfTrial_2b (E : Ev) (M : Mm) (x1 : Int32) : Option (Nat × Int32 × Mm) :=
  (if (M.1 2 3) ≤ x1 then
  some (2, x1, M)
  else
  (f_Bx_isLikeTrial E M x1).bind fun (r0, M0) =>
  (if r0 = 0 then
  some (0, (x1 + 1), M0)
  else
  some (1, x1, M0)))
def l_Bx_kindOfTrial_2 (E : Ev) : Nat → Mm → Int32 → Option (Nat × Int32 × Mm)
  | 0, _, _ => none
  | fu + 1, M, x1 => (Bx_kindOfTrial_2b E M x1).bind fun (t, w1, N) => if t = 0 then l_Bx_kindOfTrial_2 E fu N w1 else some (t, w1, N)
def f_Bx_kindOfTrial (E : Ev) (M : Mm) : Option (Int32 × Mm) :=
  (l_Bx_kindOfTrial_2 E FU M 0).bind fun (t1, v1_1, M1) =>
  (if t1 = 1 then
  some (v1_1, M1)
  else (if t1 = 2 then
  some ((-1), M1)
  else none))
def f_B_needRoom (E : Ev) (M : Mm) (x0 : Int32) (x1 : Int32) : Option Mm :=
  (if x0 ≤ x1 then
  some M
  else
  none)
def f_Bx_keepTrial (E : Ev) (M : Mm) : Option (Int32 × Mm) :=
  ck (inb (M.1 2 3) 31) <|
  nb (((u2 M 5 (M.1 2 3).toNatClampNeg 0).1 6 30)) fun (v1 : Int32) =>
  ck (inb (M.1 2 3) 31) <|
  nb (((u2 (u2 M 5 (M.1 2 3).toNatClampNeg 0) 6 (M.1 2 3).toNatClampNeg v1).1 7 30)) fun (v3 : Int32) =>
  ck (inb (M.1 2 3) 31) <|
  nb (u2 (u2 (u2 M 5 (M.1 2 3).toNatClampNeg 0) 6 (M.1 2 3).toNatClampNeg v1) 7 (M.1 2 3).toNatClampNeg v3) fun (M5 : Mm) =>
  ck (inb (M.1 2 3) 31) <|
  ck (¬ (0 : Int32) < 0 ∧ ¬ (0 : Int32) < 0 ∧ ¬ (8 : Int32) < 0 ∧ (0 : Int32).toNatClampNeg + (8 : Int32).toNatClampNeg ≤ 8 ∧ (0 : Int32).toNatClampNeg + (8 : Int32).toNatClampNeg ≤ 8) <|
  nb (uA M5 (9 + (M.1 2 3).toNatClampNeg) (va_cpy (M5.1 39) (M5.1 (9 + (M.1 2 3).toNatClampNeg)) (0 : Int32).toNatClampNeg (0 : Int32).toNatClampNeg (8 : Int32).toNatClampNeg)) fun (M8 : Mm) =>
  some ((M.1 2 3), (u2 M8 2 3 ((M8.1 2 3) + (1 : Int32))))
def B_ballots_j109 (E : Ev) (M : Mm) (x1 : Int32) (x3 : Int32) : Option (Int32 × Mm) :=
  ck (inb x3 31) <|
  nb ((((u2 M 2 1 0).1 5 x3.toNatClampNeg) + x1)) fun (v8 : Int32) =>
  ck (inb x3 31) <|
  some (x3, (u2 (u2 M 2 1 0) 5 x3.toNatClampNeg v8))
def f_B_ballots (E : Ev) (M : Mm) (x1 : Int32) : Option (Int32 × Mm) :=
  (f_B_needRange E M x1 1 100000).bind fun M0 =>
  (f_Bx_readTrial E M0).bind fun (r1, M1) =>
  (if r1 = (-1) then
  (f_Bx_kindOfTrial E M1).bind fun (r2, M2) =>
  (if r2 = (-1) then
  (f_B_needRoom E M2 ((M2.1 2 3) + (1 : Int32)) 30).bind fun M10 =>
  (f_Bx_keepTrial E M10).bind fun (r11, M11) =>
  (f_B_remember E M11 3 r11 0).bind fun M12 =>
  B_ballots_j109 E M12 x1 r11
  else
  ck (inb r2 31) <|
  (f_B_needRoom E M2 ((M2.1 5 r2.toNatClampNeg) + x1) 1000000).bind fun M4 =>
  ck (inb r2 31) <|
  (f_B_remember E M4 4 r2 (M4.1 5 r2.toNatClampNeg)).bind fun M6 =>
  B_ballots_j109 E M6 x1 r2)
  else
  some (((-3 : Int32) - r1), (u2 M1 2 1 0)))
def f_Po_beats (E : Ev) (M : Mm) (x1 : Int32) (x2 : Int32) : Option (Int32 × Mm) :=
  (f_Po_pair E M x1 x2).bind fun (r0, M0) =>
  (f_Po_pair E M0 x2 x1).bind fun (r1, M1) =>
  (if r0 ≤ r1 then
  some (0, M1)
  else
  some (1, M1))
def Po_findBeaten_23b (E : Ev) (M : Mm) (x1 : Int32) (x2 : Int32) : Option (Nat × Int32 × Mm) :=
  (if (M.1 2 2) ≤ x2 then
  some (1, x2, M)
  else
  (f_Po_beats E M x1 x2).bind fun (r1, M1) =>
  (if r1 = 0 then
  some (0, (x2 + 1), M1)
  else
  ck (inb x1 8) <|
  nb (((M1.1 46 x1.toNatClampNeg) ||| ((1 : Int32) <<< (x2 &&& 31)))) fun (v3 : Int32) =>
  ck (inb x1 8) <|
  some (0, (x2 + 1), (u2 M1 46 x1.toNatClampNeg v3))))
def l_Po_findBeaten_23 (E : Ev) (x1 : Int32) : Nat → Mm → Int32 → Option (Nat × Int32 × Mm)
  | 0, _, _ => none
  | fu + 1, M, x2 => (Po_findBeaten_23b E M x1 x2).bind fun (t, w2, N) => if t = 0 then l_Po_findBeaten_23 E x1 fu N w2 else some (t, w2, N)
def Po_findBeaten_10b (E : Ev) (M : Mm) (x1 : Int32) : Option (Nat × Int32 × Mm) :=
  (if (M.1 2 2) ≤ x1 then
  some (1, x1, M)
  else
  (l_Po_findBeaten_23 E x1 FU M 0).bind fun (t5, v5_2, M5) =>
  ck (t5 = 1) <|
  some (0, (x1 + 1), M5))
def l_Po_findBeaten_10 (E : Ev) : Nat → Mm → Int32 → Option (Nat × Int32 × Mm)
  | 0, _, _ => none
  | fu + 1, M, x1 => (Po_findBeaten_10b E M x1).bind fun (t, w1, N) => if t = 0 then l_Po_findBeaten_10 E fu N w1 else some (t, w1, N)
def f_Po_findBeaten (E : Ev) (M : Mm) : Option Mm :=
  (f_Ar_fillI E M 46 0).bind fun M0 =>
  (l_Po_findBeaten_10 E FU M0 0).bind fun (t6, v6_1, M6) =>
  ck (t6 = 1) <|
  some M6
def Po_isBeatingSet_2b (E : Ev) (M : Mm) (x1 : Int32) (x2 : Int32) : Option (Nat × Int32 × Mm) :=
  (if (M.1 2 2) ≤ x2 then
  some (2, x2, M)
  else
  (f_B_has E M x1 x2).bind fun (r0, M0) =>
  (if r0 = 0 then
  some (0, (x2 + 1), M0)
  else
  ck (inb x2 8) <|
  (if ((M0.1 46 x2.toNatClampNeg) ||| x1) = (M0.1 41 1) then
  some (0, (x2 + 1), M0)
  else
  some (1, x2, M0))))
def l_Po_isBeatingSet_2 (E : Ev) (x1 : Int32) : Nat → Mm → Int32 → Option (Nat × Int32 × Mm)
  | 0, _, _ => none
  | fu + 1, M, x2 => (Po_isBeatingSet_2b E M x1 x2).bind fun (t, w2, N) => if t = 0 then l_Po_isBeatingSet_2 E x1 fu N w2 else some (t, w2, N)
def f_Po_isBeatingSet (E : Ev) (M : Mm) (x1 : Int32) : Option (Int32 × Mm) :=
  (l_Po_isBeatingSet_2 E x1 FU M 0).bind fun (t2, v2_2, M2) =>
  (if t2 = 1 then
  some (0, M2)
  else (if t2 = 2 then
  some (1, M2)
  else none))
def Po_smallestBeatingSet_11b (E : Ev) (M : Mm) (x1 : Int32) (x2 : Int32) : Option (Nat × Int32 × Int32 × Mm) :=
  (if (M.1 41 1) ≤ x2 then
  some (1, x1, x2, M)
  else
  (f_In_bitCount E M x2).bind fun (r1, M1) =>
  (f_In_bitCount E M1 x1).bind fun (r2, M2) =>
  (if r2 ≤ r1 then
  some (0, x1, (x2 + 1), M2)
  else
  (f_Po_isBeatingSet E M2 x2).bind fun (r3, M3) =>
  (if r3 = 0 then
  some (0, x1, (x2 + 1), M3)
  else
  some (0, x2, (x2 + 1), M3))))
def l_Po_smallestBeatingSet_11 (E : Ev) : Nat → Mm → Int32 → Int32 → Option (Nat × Int32 × Int32 × Mm)
  | 0, _, _, _ => none
  | fu + 1, M, x1, x2 => (Po_smallestBeatingSet_11b E M x1 x2).bind fun (t, w1, w2, N) => if t = 0 then l_Po_smallestBeatingSet_11 E fu N w1 w2 else some (t, w1, w2, N)
def f_Po_smallestBeatingSet (E : Ev) (M : Mm) : Option (Int32 × Mm) :=
  (f_Po_findBeaten E M).bind fun M0 =>
  (l_Po_smallestBeatingSet_11 E FU M0 (M0.1 41 1) 1).bind fun (t4, v4_1, v4_2, M4) =>
  ck (t4 = 1) <|
  some (v4_1, M4)
def f_B_beatingSet (E : Ev) (M : Mm) : Option (Int32 × Mm) :=
  (f_Bx_everybody E M).bind fun (r0, M0) =>
  (f_Po_open E M0 r0).bind fun M1 =>
  (f_Po_smallestBeatingSet E M1).bind fun (r2, M2) =>
  some (r2, M2)
def Po_beaterOfAll_6b (E : Ev) (M : Mm) (x1 : Int32) : Option (Nat × Int32 × Mm) :=
  (if (M.1 2 2) ≤ x1 then
  some (2, x1, M)
  else
  ck (inb x1 8) <|
  (if (M.1 46 x1.toNatClampNeg) = ((M.1 41 1) &&& (((1 : Int32) <<< (x1 &&& 31)) ^^^ (-1 : Int32))) then
  some (1, x1, M)
  else
  some (0, (x1 + 1), M)))
def l_Po_beaterOfAll_6 (E : Ev) : Nat → Mm → Int32 → Option (Nat × Int32 × Mm)
  | 0, _, _ => none
  | fu + 1, M, x1 => (Po_beaterOfAll_6b E M x1).bind fun (t, w1, N) => if t = 0 then l_Po_beaterOfAll_6 E fu N w1 else some (t, w1, N)
def f_Po_beaterOfAll (E : Ev) (M : Mm) : Option (Int32 × Mm) :=
  (f_Po_findBeaten E M).bind fun M0 =>
  (l_Po_beaterOfAll_6 E FU M0 0).bind fun (t2, v2_1, M2) =>
  (if t2 = 1 then
  some (v2_1, M2)
  else (if t2 = 2 then
  some ((-1), M2)
  else none))
def f_B_beatsAll (E : Ev) (M : Mm) : Option (Int32 × Mm) :=
  (f_Bx_everybody E M).bind fun (r0, M0) =>
  (f_Po_open E M0 r0).bind fun M1 =>
  (f_Po_beaterOfAll E M1).bind fun (r2, M2) =>
  some (r2, M2)
def f_B_candidate (E : Ev) (M : Mm) : Option (Int32 × Mm) :=
  (f_B_needRoom E M ((M.1 2 2) + (1 : Int32)) 8).bind fun M0 =>
  ck (inb (M0.1 2 2) 8) <|
  nb (u2 (u2 M0 4 (M0.1 2 2).toNatClampNeg (M0.1 2 2)) 2 2 (((u2 M0 4 (M0.1 2 2).toNatClampNeg (M0.1 2 2)).1 2 2) + (1 : Int32))) fun (M2 : Mm) =>
  (f_B_remember E M2 0 (M0.1 2 2) 0).bind fun M3 =>
  some ((M0.1 2 2), M3)
def f_B_needPlace (E : Ev) (M : Mm) (x0 : Int32) (x1 : Int32) : Option Mm :=
  (if x0 < 0 then
  none
  else
  (if x0 < x1 then
  some M
  else
  none))
def Po_distanceWithFirst_19b (E : Ev) (M : Mm) (x2 : Int32) (x3 : Int32) (x4 : Int64) (x6 : Int32) : Option (Nat × Int64 × Int32 × Mm) :=
  (if (M.1 2 2) ≤ x6 then
  some (1, x4, x6, M)
  else
  (f_B_has E M x3 x6).bind fun (r2, M2) =>
  (if r2 = 0 then
  some (0, x4, (x6 + 1), M2)
  else
  (f_Po_pair E M2 x6 x2).bind fun (r3, M3) =>
  some (0, (x4 + r3.toInt64), (x6 + 1), M3)))
def l_Po_distanceWithFirst_19 (E : Ev) (x2 : Int32) (x3 : Int32) : Nat → Mm → Int64 → Int32 → Option (Nat × Int64 × Int32 × Mm)
  | 0, _, _, _ => none
  | fu + 1, M, x4, x6 => (Po_distanceWithFirst_19b E M x2 x3 x4 x6).bind fun (t, w4, w6, N) => if t = 0 then l_Po_distanceWithFirst_19 E x2 x3 fu N w4 w6 else some (t, w4, w6, N)
def f_Po_distanceWithFirst (E : Ev) (M : Mm) (x1 : Int32) (x2 : Int32) : Option (Int64 × Mm) :=
  nb ((x1 &&& (((1 : Int32) <<< (x2 &&& 31)) ^^^ (-1 : Int32)))) fun (v0 : Int32) =>
  ck (inb v0 256) <|
  (l_Po_distanceWithFirst_19 E x2 v0 FU M (M.2 50 v0.toNatClampNeg) 0).bind fun (t4, v4_4, v4_6, M4) =>
  ck (t4 = 1) <|
  some (v4_4, M4)
def Po_findDistances_24b (E : Ev) (M : Mm) (x1 : Int32) (x2 : Int64) (x4 : Int32) : Option (Nat × Int64 × Int32 × Mm) :=
  (if (M.1 2 2) ≤ x4 then
  some (1, x2, x4, M)
  else
  (f_B_has E M x1 x4).bind fun (r0, M0) =>
  (if r0 = 0 then
  some (0, x2, (x4 + 1), M0)
  else
  (f_Po_distanceWithFirst E M0 x1 x4).bind fun (r1, M1) =>
  (if (lg_cmp x2 (-1)) = 0 then
  some (0, r1, (x4 + 1), M1)
  else
  some (0, (mnL x2 r1), (x4 + 1), M1))))
def l_Po_findDistances_24 (E : Ev) (x1 : Int32) : Nat → Mm → Int64 → Int32 → Option (Nat × Int64 × Int32 × Mm)
  | 0, _, _, _ => none
  | fu + 1, M, x2, x4 => (Po_findDistances_24b E M x1 x2 x4).bind fun (t, w2, w4, N) => if t = 0 then l_Po_findDistances_24 E x1 fu N w2 w4 else some (t, w2, w4, N)
def Po_findDistances_9b (E : Ev) (M : Mm) (x1 : Int32) : Option (Nat × Int32 × Mm) :=
  (if (M.1 41 1) < x1 then
  some (1, x1, M)
  else
  (l_Po_findDistances_24 E x1 FU M (-1) 0).bind fun (t2, v2_2, v2_4, M2) =>
  ck (t2 = 1) <|
  ck (inb x1 256) <|
  some (0, (x1 + 1), (uL M2 50 x1.toNatClampNeg v2_2)))
def l_Po_findDistances_9 (E : Ev) : Nat → Mm → Int32 → Option (Nat × Int32 × Mm)
  | 0, _, _ => none
  | fu + 1, M, x1 => (Po_findDistances_9b E M x1).bind fun (t, w1, N) => if t = 0 then l_Po_findDistances_9 E fu N w1 else some (t, w1, N)
def f_Po_findDistances (E : Ev) (M : Mm) : Option Mm :=
  (l_Po_findDistances_9 E FU (uL M 50 0 0) 1).bind fun (t4, v4_1, M4) =>
  ck (t4 = 1) <|
  some M4
def Po_firstOfConsensus_2b (E : Ev) (M : Mm) (x1 : Int32) (x2 : Int32) : Option (Nat × Int32 × Mm) :=
  (if (M.1 2 2) ≤ x2 then
  some (2, x2, M)
  else
  (f_B_has E M x1 x2).bind fun (r0, M0) =>
  (if r0 = 0 then
  some (0, (x2 + 1), M0)
  else
  (f_Po_distanceWithFirst E M0 x1 x2).bind fun (r1, M1) =>
  ck (inb x1 256) <|
  (if (lg_cmp r1 (M1.2 50 x1.toNatClampNeg)) = 0 then
  some (1, x2, M1)
  else
  some (0, (x2 + 1), M1))))
def l_Po_firstOfConsensus_2 (E : Ev) (x1 : Int32) : Nat → Mm → Int32 → Option (Nat × Int32 × Mm)
  | 0, _, _ => none
  | fu + 1, M, x2 => (Po_firstOfConsensus_2b E M x1 x2).bind fun (t, w2, N) => if t = 0 then l_Po_firstOfConsensus_2 E x1 fu N w2 else some (t, w2, N)
def f_Po_firstOfConsensus (E : Ev) (M : Mm) (x1 : Int32) : Option (Int32 × Mm) :=
  (l_Po_firstOfConsensus_2 E x1 FU M 0).bind fun (t3, v3_2, M3) =>
  (if t3 = 1 then
  some (v3_2, M3)
  else (if t3 = 2 then
  some (0, M3)
  else none))
def Po_consensusPlace_10b (E : Ev) (M : Mm) (x1 : Int32) (x2 : Int32) (x3 : Int32) (x4 : Int32) : Option (Nat × Int32 × Int32 × Int32 × Mm) :=
  (if x1 < x4 then
  some (1, x2, x3, x4, M)
  else
  (if x2 = 0 then
  some (1, x2, x3, x4, M)
  else
  (f_Po_firstOfConsensus E M x2).bind fun (r0, M0) =>
  nb ((x2 &&& (((1 : Int32) <<< (r0 &&& 31)) ^^^ (-1 : Int32)))) fun (v1 : Int32) =>
  some (0, v1, r0, (x4 + 1), M0)))
def l_Po_consensusPlace_10 (E : Ev) (x1 : Int32) : Nat → Mm → Int32 → Int32 → Int32 → Option (Nat × Int32 × Int32 × Int32 × Mm)
  | 0, _, _, _, _ => none
  | fu + 1, M, x2, x3, x4 => (Po_consensusPlace_10b E M x1 x2 x3 x4).bind fun (t, w2, w3, w4, N) => if t = 0 then l_Po_consensusPlace_10 E x1 fu N w2 w3 w4 else some (t, w2, w3, w4, N)
def f_Po_consensusPlace (E : Ev) (M : Mm) (x1 : Int32) : Option (Int32 × Mm) :=
  (l_Po_consensusPlace_10 E x1 FU M (M.1 41 1) (-1) 0).bind fun (t2, v2_2, v2_3, v2_4, M2) =>
  ck (t2 = 1) <|
  some (v2_3, M2)
def f_B_consensusAt (E : Ev) (M : Mm) (x1 : Int32) : Option (Int32 × Mm) :=
  (f_B_needPlace E M x1 (M.1 2 2)).bind fun M0 =>
  (f_Bx_everybody E M0).bind fun (r1, M1) =>
  (f_Po_open E M1 r1).bind fun M2 =>
  (f_Po_findDistances E M2).bind fun M3 =>
  (f_Po_consensusPlace E M3 x1).bind fun (r4, M4) =>
  some (r4, M4)
def f_B_consensusDistance (E : Ev) (M : Mm) : Option (Int64 × Mm) :=
  (f_Bx_everybody E M).bind fun (r0, M0) =>
  (f_Po_open E M0 r0).bind fun M1 =>
  (f_Po_findDistances E M1).bind fun M2 =>
  (f_Bx_everybody E M2).bind fun (r3, M3) =>
  ck (inb r3 256) <|
  some ((M3.2 50 r3.toNatClampNeg), M3)
def f_Co_latest (E : Ev) (M : Mm) : Option ((Option Nat) × Mm) :=
  ck (inb (M.1 179 2) 21) <|
  some ((E.2.2 180 (M.1 179 2).toNatClampNeg), M)
def Na_become_10b (E : Ev) (M : Mm) (q0 : Nat) (x3 : Int64) (x5 : Int32) : Option (Nat × Int64 × Int32 × Mm) :=
  ck (isNa E q0) <|
  (if 13 ≤ x5 then
  some (1, x3, x5, M)
  else
  (if (lg_cmp x3 0) ≤ 0 then
  some (1, x3, x5, M)
  else
  nb ((x3 &&& (1073741823 : Int64)).toInt32) fun (v0 : Int32) =>
  ck (inb x5 13) <|
  nb ((x3 >>> ((30 : Int32).toInt64 &&& 63))) fun (v2 : Int64) =>
  nb (u2 (u2 M (q0 + 1) x5.toNatClampNeg v0) q0 1 (((u2 M (q0 + 1) x5.toNatClampNeg v0).1 q0 1) + (1 : Int32))) fun (M3 : Mm) =>
  some (0, v2, (x5 + 1), M3)))
def l_Na_become_10 (E : Ev) (q0 : Nat) : Nat → Mm → Int64 → Int32 → Option (Nat × Int64 × Int32 × Mm)
  | 0, _, _, _ => none
  | fu + 1, M, x3, x5 => (Na_become_10b E M q0 x3 x5).bind fun (t, w3, w5, N) => if t = 0 then l_Na_become_10 E q0 fu N w3 w5 else some (t, w3, w5, N)
def f_Na_become (E : Ev) (M : Mm) (p0 : Nat) (x1 : Int64) : Option Mm :=
  ck (isNa E p0) <|
  (l_Na_become_10 E p0 FU (u2 M p0 1 0) x1 0).bind fun (t4, v4_3, v4_5, M4) =>
  ck (t4 = 1) <|
  some M4
def f_Ct_placeOf (E : Ev) (M : Mm) (p0 : Nat) (x1 : Int32) (x2 : Int32) : Option (Int32 × Mm) :=
  ck (isCt E p0) <|
  some ((((x1 * (10 : Int32)) + x2) * (13 : Int32)), M)
def f_Na_load (E : Ev) (M : Mm) (p0 : Nat) (p1 : Nat) (x2 : Int32) : Option Mm :=
  ck (isNa E p0) <|
  ck (isIA E p1) <|
  ck (¬ x2 < 0 ∧ ¬ (0 : Int32) < 0 ∧ ¬ (13 : Int32) < 0 ∧ x2.toNatClampNeg + (13 : Int32).toNatClampNeg ≤ (E.2.1 p1).2 ∧ (0 : Int32).toNatClampNeg + (13 : Int32).toNatClampNeg ≤ 13) <|
  nb (uA M (p0 + 1) (va_cpy (M.1 p1) (M.1 (p0 + 1)) x2.toNatClampNeg (0 : Int32).toNatClampNeg (13 : Int32).toNatClampNeg)) fun (M1 : Mm) =>
  (f_Na_trimTo E M1 p0 13).bind fun M2 =>
  some M2
def f_Co_loadPile (E : Ev) (M : Mm) (p1 : Nat) (x2 : Int32) (x3 : Int32) : Option Mm :=
  ck (isCt E p1) <|
  (f_Ct_placeOf E M p1 x2 x3).bind fun (r0, M0) =>
  (f_Na_load E M0 189 (p1 + 4) r0).bind fun M1 =>
  (f_Ct_placeOf E M1 p1 x2 9).bind fun (r2, M2) =>
  (f_Na_load E M2 191 (p1 + 4) r2).bind fun M3 =>
  some M3
def f_Na_limbAt (E : Ev) (M : Mm) (p0 : Nat) (x1 : Int32) : Option (Int32 × Mm) :=
  ck (isNa E p0) <|
  (if (M.1 p0 1) ≤ x1 then
  some (0, M)
  else
  ck (inb x1 13) <|
  some ((M.1 (p0 + 1) x1.toNatClampNeg), M))
def Na_add_24b (E : Ev) (M : Mm) (q0 : Nat) (q1 : Nat) (x2 : Int32) (x3 : Int32) (x4 : Int32) : Option (Nat × Int32 × Int32 × Mm) :=
  ck (isNa E q0) <|
  ck (isNa E q1) <|
  (if x2 ≤ x4 then
  some (1, x3, x4, M)
  else
  (f_Na_limbAt E M q0 x4).bind fun (r1, M1) =>
  (f_Na_limbAt E M1 q1 x4).bind fun (r2, M2) =>
  nb ((((r1 + r2) + x3) &&& (1073741823 : Int32))) fun (v3 : Int32) =>
  ck (inb x4 13) <|
  nb ((((r1 + r2) + x3) >>> ((30 : Int32) &&& 31))) fun (v5 : Int32) =>
  some (0, v5, (x4 + 1), (u2 M2 (q0 + 1) x4.toNatClampNeg v3)))
def l_Na_add_24 (E : Ev) (q0 : Nat) (q1 : Nat) (x2 : Int32) : Nat → Mm → Int32 → Int32 → Option (Nat × Int32 × Int32 × Mm)
  | 0, _, _, _ => none
  | fu + 1, M, x3, x4 => (Na_add_24b E M q0 q1 x2 x3 x4).bind fun (t, w3, w4, N) => if t = 0 then l_Na_add_24 E q0 q1 x2 fu N w3 w4 else some (t, w3, w4, N)
def f_Na_add (E : Ev) (M : Mm) (p0 : Nat) (p1 : Nat) : Option Mm :=
  ck (isNa E p0) <|
  ck (isNa E p1) <|
  nb ((mnI ((mxI (M.1 p0 1) (M.1 p1 1)) + (1 : Int32)) 13)) fun (v0 : Int32) =>
  (l_Na_add_24 E p0 p1 v0 FU M 0 0).bind fun (t6, v6_3, v6_4, M6) =>
  ck (t6 = 1) <|
  (f_Na_trimTo E M6 p0 v0).bind fun M7 =>
  some M7
def Na_multiplySmall_17b (E : Ev) (M : Mm) (q0 : Nat) (x1 : Int32) (x2 : Int32) (x3 : Int64) (x5 : Int32) : Option (Nat × Int64 × Int32 × Mm) :=
  ck (isNa E q0) <|
  (if x2 ≤ x5 then
  some (1, x3, x5, M)
  else
  (f_Na_limbAt E M q0 x5).bind fun (r1, M1) =>
  nb ((x3 + (r1.toInt64 * x1.toInt64))) fun (v2 : Int64) =>
  nb ((v2 &&& (1073741823 : Int64)).toInt32) fun (v3 : Int32) =>
  ck (inb x5 13) <|
  nb ((v2 >>> ((30 : Int32).toInt64 &&& 63))) fun (v5 : Int64) =>
  some (0, v5, (x5 + 1), (u2 M1 (q0 + 1) x5.toNatClampNeg v3)))
def l_Na_multiplySmall_17 (E : Ev) (q0 : Nat) (x1 : Int32) (x2 : Int32) : Nat → Mm → Int64 → Int32 → Option (Nat × Int64 × Int32 × Mm)
  | 0, _, _, _ => none
  | fu + 1, M, x3, x5 => (Na_multiplySmall_17b E M q0 x1 x2 x3 x5).bind fun (t, w3, w5, N) => if t = 0 then l_Na_multiplySmall_17 E q0 x1 x2 fu N w3 w5 else some (t, w3, w5, N)
def f_Na_multiplySmall (E : Ev) (M : Mm) (p0 : Nat) (x1 : Int32) : Option Mm :=
  ck (isNa E p0) <|
  nb ((mnI ((M.1 p0 1) + (2 : Int32)) 13)) fun (v0 : Int32) =>
  (l_Na_multiplySmall_17 E p0 x1 v0 FU M 0 0).bind fun (t6, v6_3, v6_5, M6) =>
  ck (t6 = 1) <|
  (f_Na_trimTo E M6 p0 v0).bind fun M7 =>
  some M7
def Na_compareWith_14b (E : Ev) (M : Mm) (q0 : Nat) (q1 : Nat) (x2 : Int32) : Option (Nat × Int32 × Mm) :=
  ck (isNa E q0) <|
  ck (isNa E q1) <|
  (if x2 < 0 then
  some (2, x2, M)
  else
  (f_Na_limbAt E M q0 x2).bind fun (r1, M1) =>
  (f_Na_limbAt E M1 q1 x2).bind fun (r2, M2) =>
  (if r1 = r2 then
  some (0, (x2 + (-1)), M2)
  else
  some (1, x2, M2)))
def l_Na_compareWith_14 (E : Ev) (q0 : Nat) (q1 : Nat) : Nat → Mm → Int32 → Option (Nat × Int32 × Mm)
  | 0, _, _ => none
  | fu + 1, M, x2 => (Na_compareWith_14b E M q0 q1 x2).bind fun (t, w2, N) => if t = 0 then l_Na_compareWith_14 E q0 q1 fu N w2 else some (t, w2, N)
def f_Na_compareWith (E : Ev) (M : Mm) (p0 : Nat) (p1 : Nat) : Option (Int32 × Mm) :=
  ck (isNa E p0) <|
  ck (isNa E p1) <|
  nb (((mxI (M.1 p0 1) (M.1 p1 1)) - (1 : Int32))) fun (v0 : Int32) =>
  (l_Na_compareWith_14 E p0 p1 FU M v0).bind fun (t3, v3_2, M3) =>
  (if t3 = 1 then
  (f_Na_limbAt E M3 p0 v3_2).bind fun (r4, M4) =>
  (f_Na_limbAt E M4 p1 v3_2).bind fun (r5, M5) =>
  (if r5 ≤ r4 then
  some (1, M5)
  else
  some ((-1), M5))
  else (if t3 = 2 then
  some (0, M3)
  else none))
def Co_unbalancedSteps_28b (E : Ev) (M : Mm) (q1 : Nat) (x2 : Int32) (x3 : Int32) (x4 : Int32) : Option (Nat × Int32 × Mm) :=
  ck (isCt E q1) <|
  (if 9 ≤ x4 then
  some (1, x4, M)
  else
  (f_Co_loadPile E M q1 x3 x4).bind fun M1 =>
  (f_Na_add E M1 185 189).bind fun M2 =>
  some (0, (x4 + 1), M2))
def l_Co_unbalancedSteps_28 (E : Ev) (q1 : Nat) (x2 : Int32) (x3 : Int32) : Nat → Mm → Int32 → Option (Nat × Int32 × Mm)
  | 0, _, _ => none
  | fu + 1, M, x4 => (Co_unbalancedSteps_28b E M q1 x2 x3 x4).bind fun (t, w4, N) => if t = 0 then l_Co_unbalancedSteps_28 E q1 x2 x3 fu N w4 else some (t, w4, N)
def Co_unbalancedSteps_4b (E : Ev) (M : Mm) (q1 : Nat) (x2 : Int32) (x3 : Int32) : Option (Nat × Int32 × Int32 × Mm) :=
  ck (isCt E q1) <|
  (if ((M.1 q1 4) + (M.1 q1 5)) < x3 then
  some (1, x2, x3, M)
  else
  (f_Na_become E M 185 0).bind fun M0 =>
  (l_Co_unbalancedSteps_28 E q1 x2 x3 FU M0 0).bind fun (t3, v3_4, M3) =>
  ck (t3 = 1) <|
  (f_Na_multiplySmall E M3 191 (M3.1 q1 3)).bind fun M4 =>
  (f_Na_compareWith E M4 185 191).bind fun (r5, M5) =>
  (if r5 = 0 then
  some (0, x2, (x3 + 1), M5)
  else
  some (0, (x2 + 1), (x3 + 1), M5)))
def l_Co_unbalancedSteps_4 (E : Ev) (q1 : Nat) : Nat → Mm → Int32 → Int32 → Option (Nat × Int32 × Int32 × Mm)
  | 0, _, _, _ => none
  | fu + 1, M, x2, x3 => (Co_unbalancedSteps_4b E M q1 x2 x3).bind fun (t, w2, w3, N) => if t = 0 then l_Co_unbalancedSteps_4 E q1 fu N w2 w3 else some (t, w2, w3, N)
def f_Co_unbalancedSteps (E : Ev) (M : Mm) (p1 : Nat) : Option (Int32 × Mm) :=
  ck (isCt E p1) <|
  (l_Co_unbalancedSteps_4 E p1 FU M 0 1).bind fun (t6, v6_2, v6_3, M6) =>
  ck (t6 = 1) <|
  some (v6_2, M6)
def Bx_findSupport_23b (E : Ev) (M : Mm) (q1 : Nat) (x2 : Int32) (x3 : Int32) (x4 : Int32) (x5 : Int32) (x6 : Int32) : Option (Nat × Int32 × Int32 × Mm) :=
  ck (isIA E q1) <|
  ck (inb x4 31) <|
  (if (M.1 7 x4.toNatClampNeg) ≤ x6 then
  some (1, x5, x6, M)
  else
  ck (inb x4 31) <|
  ck (inb x6 8) <|
  nb ((x5 ||| (M.1 (9 + x4.toNatClampNeg) x6.toNatClampNeg))) fun (v4 : Int32) =>
  (if v4 = x3 then
  some (0, v4, (x6 + 1), M)
  else
  ck (inb v4 256) <|
  ck (inb x4 (E.2.1 q1).2) <|
  nb (((M.1 40 v4.toNatClampNeg) + (M.1 q1 x4.toNatClampNeg))) fun (v7 : Int32) =>
  ck (inb v4 256) <|
  some (0, v4, (x6 + 1), (u2 M 40 v4.toNatClampNeg v7))))
def l_Bx_findSupport_23 (E : Ev) (q1 : Nat) (x2 : Int32) (x3 : Int32) (x4 : Int32) : Nat → Mm → Int32 → Int32 → Option (Nat × Int32 × Int32 × Mm)
  | 0, _, _, _ => none
  | fu + 1, M, x5, x6 => (Bx_findSupport_23b E M q1 x2 x3 x4 x5 x6).bind fun (t, w5, w6, N) => if t = 0 then l_Bx_findSupport_23 E q1 x2 x3 x4 fu N w5 w6 else some (t, w5, w6, N)
def Bx_findSupport_11b (E : Ev) (M : Mm) (q1 : Nat) (x2 : Int32) (x3 : Int32) (x4 : Int32) : Option (Nat × Int32 × Mm) :=
  ck (isIA E q1) <|
  (if x2 ≤ x4 then
  some (1, x4, M)
  else
  (l_Bx_findSupport_23 E q1 x2 x3 x4 FU M 0 0).bind fun (t9, v9_5, v9_6, M9) =>
  ck (t9 = 1) <|
  some (0, (x4 + 1), M9))
def l_Bx_findSupport_11 (E : Ev) (q1 : Nat) (x2 : Int32) (x3 : Int32) : Nat → Mm → Int32 → Option (Nat × Int32 × Mm)
  | 0, _, _ => none
  | fu + 1, M, x4 => (Bx_findSupport_11b E M q1 x2 x3 x4).bind fun (t, w4, N) => if t = 0 then l_Bx_findSupport_11 E q1 x2 x3 fu N w4 else some (t, w4, N)
def f_Bx_findSupport (E : Ev) (M : Mm) (p1 : Nat) (x2 : Int32) (x3 : Int32) : Option Mm :=
  ck (isIA E p1) <|
  (f_Ar_fillI E M 40 0).bind fun M0 =>
  (l_Bx_findSupport_11 E p1 x2 x3 FU M0 0).bind fun (t10, v10_4, M10) =>
  ck (t10 = 1) <|
  (f_Bx_ballotsOf E M10 p1 x2).bind fun (r11, M11) =>
  ck (inb x3 256) <|
  some (u2 M11 40 x3.toNatClampNeg r11)
def B_countErrors_36b (E : Ev) (M : Mm) (q1 : Nat) (x2 : Int32) (x3 : Int32) (x4 : Int32) : Option (Nat × Int32 × Int32 × Mm) :=
  ck (isCt E q1) <|
  (if (M.1 q1 4) ≤ x4 then
  some (1, x3, x4, M)
  else
  ck (inb x4 3) <|
  nb ((x3 ||| ((1 : Int32) <<< ((M.1 (q1 + 2) x4.toNatClampNeg) &&& 31)))) fun (v3 : Int32) =>
  some (0, v3, (x4 + 1), M))
def l_B_countErrors_36 (E : Ev) (q1 : Nat) (x2 : Int32) : Nat → Mm → Int32 → Int32 → Option (Nat × Int32 × Int32 × Mm)
  | 0, _, _, _ => none
  | fu + 1, M, x3, x4 => (B_countErrors_36b E M q1 x2 x3 x4).bind fun (t, w3, w4, N) => if t = 0 then l_B_countErrors_36 E q1 x2 fu N w3 w4 else some (t, w3, w4, N)
def B_countErrors_j128 (E : Ev) (M : Mm) (q1 : Nat) (x2 : Int32) (x3 : Int32) (x4 : Int32) (x5 : Int32) (y0 : Int32) : Option (Nat × Int32 × Int32 × Mm) :=
  ck (isCt E q1) <|
  (if y0 = 0 then
  some (0, x4, (x5 + 1), M)
  else
  (if (x5 &&& (x3 ^^^ (-1 : Int32))) = 0 then
  some (0, x4, (x5 + 1), M)
  else
  some (0, (x4 + 1), (x5 + 1), M)))
def B_countErrors_92b (E : Ev) (M : Mm) (q1 : Nat) (x2 : Int32) (x3 : Int32) (x4 : Int32) (x5 : Int32) : Option (Nat × Int32 × Int32 × Mm) :=
  ck (isCt E q1) <|
  (if x2 < x5 then
  some (1, x4, x5, M)
  else
  ck (inb x5 256) <|
  ck (¬ (M.1 q1 0) = 0) <|
  (f_In_bitCount E M (x5 &&& x3)).bind fun (r9, M9) =>
  (if ((M.1 40 x5.toNatClampNeg) / (M.1 q1 0)) ≤ r9 then
  B_countErrors_j128 E M9 q1 x2 x3 x4 x5 0
  else
  B_countErrors_j128 E M9 q1 x2 x3 x4 x5 1))
def l_B_countErrors_92 (E : Ev) (q1 : Nat) (x2 : Int32) (x3 : Int32) : Nat → Mm → Int32 → Int32 → Option (Nat × Int32 × Int32 × Mm)
  | 0, _, _, _ => none
  | fu + 1, M, x4, x5 => (B_countErrors_92b E M q1 x2 x3 x4 x5).bind fun (t, w4, w5, N) => if t = 0 then l_B_countErrors_92 E q1 x2 x3 fu N w4 w5 else some (t, w4, w5, N)
def f_B_countErrors (E : Ev) (M : Mm) : Option (Int32 × Mm) :=
  (f_Co_latest E M).bind fun (r0, M0) =>
  (match r0 with
  | none =>
  some (0, M0)
  | some p0 =>
  ck (isCt E p0) <|
  (if 1 ≤ (M0.1 p0 0) then
  nb ((((1 : Int32) <<< ((M0.1 p0 1) &&& 31)) - (1 : Int32))) fun (v1 : Int32) =>
  (l_B_countErrors_36 E p0 v1 FU M0 0 0).bind fun (t4, v4_3, v4_4, M4) =>
  ck (t4 = 1) <|
  (f_Co_unbalancedSteps E M4 p0).bind fun (r5, M5) =>
  (f_Bx_findSupport E M5 (p0 + 1) (M5.1 p0 2) v1).bind fun M6 =>
  (l_B_countErrors_92 E p0 v1 v4_3 FU M6 r5 1).bind fun (t10, v10_4, v10_5, M10) =>
  ck (t10 = 1) <|
  some (v10_4, M10)
  else
  some (0, M0)))
def f_B_countOf (E : Ev) (M : Mm) (x1 : Int32) : Option (Int32 × Mm) :=
  (f_B_needIndex E M x1 (M.1 2 3)).bind fun M0 =>
  ck (inb x1 31) <|
  some ((M0.1 5 x1.toNatClampNeg), M0)
def f_Wa_greatestBehind (E : Ev) (M : Mm) (x1 : Int32) (x2 : Int32) : Option (Int32 × Mm) :=
  (if (M.1 219 0) ≤ (x1 + (1 : Int32)) then
  some (0, M)
  else
  (if x2 ≤ 1 then
  some (1600001, M)
  else
  ck (inb (x2 - (1 : Int32)) 17) <|
  ck (inb (x1 + (1 : Int32)) 16) <|
  some ((M.1 (225 + (x2 - (1 : Int32)).toNatClampNeg) (x1 + (1 : Int32)).toNatClampNeg), M)))
def Wa_greatestOf_9b (E : Ev) (M : Mm) (x1 : Int32) (x3 : Int32) (x4 : Int32) (x5 : Int32) : Option (Nat × Int32 × Int32 × Int32 × Mm) :=
  (if ((M.1 219 0) - x1) < x5 then
  some (1, x3, x4, x5, M)
  else
  ck (inb x5 16) <|
  nb ((x4 + (M.1 220 x5.toNatClampNeg))) fun (v1 : Int32) =>
  (f_Wa_greatestBehind E M x5 x1).bind fun (r2, M2) =>
  some (0, (mnI x3 (mxI v1 r2)), v1, (x5 + 1), M2))
def l_Wa_greatestOf_9 (E : Ev) (x1 : Int32) : Nat → Mm → Int32 → Int32 → Int32 → Option (Nat × Int32 × Int32 × Int32 × Mm)
  | 0, _, _, _, _ => none
  | fu + 1, M, x3, x4, x5 => (Wa_greatestOf_9b E M x1 x3 x4 x5).bind fun (t, w3, w4, w5, N) => if t = 0 then l_Wa_greatestOf_9 E x1 fu N w3 w4 w5 else some (t, w3, w4, w5, N)
def f_Wa_greatestOf (E : Ev) (M : Mm) (x1 : Int32) (x2 : Int32) : Option (Int32 × Mm) :=
  (l_Wa_greatestOf_9 E x1 FU M 1600001 0 x2).bind fun (t3, v3_3, v3_4, v3_5, M3) =>
  ck (t3 = 1) <|
  some (v3_3, M3)
def Wa_firstEnd_3b (E : Ev) (M : Mm) (x2 : Int32) (x3 : Int32) (x4 : Int32) : Option (Nat × Int32 × Mm) :=
  (if ((M.1 219 0) - x2) ≤ x4 then
  some (1, x4, M)
  else
  (f_Wa_greatestBehind E M x4 x2).bind fun (r0, M0) =>
  (if r0 ≤ x3 then
  some (1, x4, M0)
  else
  some (0, (x4 + 1), M0)))
def l_Wa_firstEnd_3 (E : Ev) (x2 : Int32) (x3 : Int32) : Nat → Mm → Int32 → Option (Nat × Int32 × Mm)
  | 0, _, _ => none
  | fu + 1, M, x4 => (Wa_firstEnd_3b E M x2 x3 x4).bind fun (t, w4, N) => if t = 0 then l_Wa_firstEnd_3 E x2 x3 fu N w4 else some (t, w4, N)
def f_Wa_firstEnd (E : Ev) (M : Mm) (x1 : Int32) (x2 : Int32) (x3 : Int32) : Option (Int32 × Mm) :=
  (l_Wa_firstEnd_3 E x2 x3 FU M x1).bind fun (t1, v1_4, M1) =>
  ck (t1 = 1) <|
  some (v1_4, M1)
def Wa_divide_9b (E : Ev) (M : Mm) (x1 : Int32) (x2 : Int32) (x3 : Int32) : Option (Nat × Int32 × Mm) :=
  (if ((M.1 219 0) - x2) < x3 then
  some (1, x3, M)
  else
  ck (inb x2 17) <|
  (f_Wa_greatestOf E M x2 x3).bind fun (r1, M1) =>
  ck (inb x3 16) <|
  some (0, (x3 + 1), (u2 M1 (225 + x2.toNatClampNeg) x3.toNatClampNeg r1)))
def l_Wa_divide_9 (E : Ev) (x1 : Int32) (x2 : Int32) : Nat → Mm → Int32 → Option (Nat × Int32 × Mm)
  | 0, _, _ => none
  | fu + 1, M, x3 => (Wa_divide_9b E M x1 x2 x3).bind fun (t, w3, N) => if t = 0 then l_Wa_divide_9 E x1 x2 fu N w3 else some (t, w3, N)
def Wa_divide_2b (E : Ev) (M : Mm) (x1 : Int32) (x2 : Int32) : Option (Nat × Int32 × Mm) :=
  (if x1 < x2 then
  some (1, x2, M)
  else
  (l_Wa_divide_9 E x1 x2 FU M 0).bind fun (t3, v3_3, M3) =>
  ck (t3 = 1) <|
  some (0, (x2 + 1), M3))
def l_Wa_divide_2 (E : Ev) (x1 : Int32) : Nat → Mm → Int32 → Option (Nat × Int32 × Mm)
  | 0, _, _ => none
  | fu + 1, M, x2 => (Wa_divide_2b E M x1 x2).bind fun (t, w2, N) => if t = 0 then l_Wa_divide_2 E x1 fu N w2 else some (t, w2, N)
def Wa_divide_59b (E : Ev) (M : Mm) (x1 : Int32) (x2 : Int32) (x3 : Int32) (x4 : Int32) : Option (Nat × Int32 × Int32 × Mm) :=
  (if x1 ≤ x4 then
  some (1, x3, x4, M)
  else
  (f_Wa_firstEnd E M x3 (x1 - x4) x2).bind fun (r7, M7) =>
  ck (inb x4 16) <|
  ck (inb x4 16) <|
  nb ((((u2 M7 242 x4.toNatClampNeg r7).1 242 x4.toNatClampNeg) + (1 : Int32))) fun (v10 : Int32) =>
  some (0, v10, (x4 + 1), (u2 M7 242 x4.toNatClampNeg r7)))
def l_Wa_divide_59 (E : Ev) (x1 : Int32) (x2 : Int32) : Nat → Mm → Int32 → Int32 → Option (Nat × Int32 × Int32 × Mm)
  | 0, _, _, _ => none
  | fu + 1, M, x3, x4 => (Wa_divide_59b E M x1 x2 x3 x4).bind fun (t, w3, w4, N) => if t = 0 then l_Wa_divide_59 E x1 x2 fu N w3 w4 else some (t, w3, w4, N)
def f_Wa_divide (E : Ev) (M : Mm) (x1 : Int32) : Option (Int32 × Mm) :=
  (l_Wa_divide_2 E x1 FU M 1).bind fun (t4, v4_2, M4) =>
  ck (t4 = 1) <|
  ck (inb x1 17) <|
  nb ((M4.1 (225 + x1.toNatClampNeg) 0)) fun (v6 : Int32) =>
  (l_Wa_divide_59 E x1 v6 FU M4 0 0).bind fun (t11, v11_3, v11_4, M11) =>
  ck (t11 = 1) <|
  some (v6, M11)
def f_B_districtEnd (E : Ev) (M : Mm) (x1 : Int32) (x2 : Int32) : Option (Int32 × Mm) :=
  (f_B_needRange E M x1 1 (M.1 219 0)).bind fun M0 =>
  (f_B_needPlace E M0 x2 x1).bind fun M1 =>
  (f_Wa_divide E M1 x1).bind fun (r2, M2) =>
  ck (inb x2 16) <|
  some ((M2.1 242 x2.toNatClampNeg), M2)
def Wa_votesIn_22b (E : Ev) (M : Mm) (x1 : Int32) (x2 : Int32) (x3 : Int32) (x4 : Int32) : Option (Nat × Int32 × Int32 × Mm) :=
  ck (inb x1 16) <|
  (if (M.1 242 x1.toNatClampNeg) < x4 then
  some (1, x3, x4, M)
  else
  ck (inb x2 2) <|
  ck (inb x4 16) <|
  nb ((x3 + (M.1 (222 + x2.toNatClampNeg) x4.toNatClampNeg))) fun (v5 : Int32) =>
  some (0, v5, (x4 + 1), M))
def l_Wa_votesIn_22 (E : Ev) (x1 : Int32) (x2 : Int32) : Nat → Mm → Int32 → Int32 → Option (Nat × Int32 × Int32 × Mm)
  | 0, _, _, _ => none
  | fu + 1, M, x3, x4 => (Wa_votesIn_22b E M x1 x2 x3 x4).bind fun (t, w3, w4, N) => if t = 0 then l_Wa_votesIn_22 E x1 x2 fu N w3 w4 else some (t, w3, w4, N)
def f_Wa_votesIn (E : Ev) (M : Mm) (x1 : Int32) (x2 : Int32) : Option (Int32 × Mm) :=
  (if x1 = 0 then
  (l_Wa_votesIn_22 E x1 x2 FU M 0 0).bind fun (t7, v7_3, v7_4, M7) =>
  ck (t7 = 1) <|
  some (v7_3, M7)
  else
  ck (inb (x1 - (1 : Int32)) 16) <|
  nb (((M.1 242 (x1 - (1 : Int32)).toNatClampNeg) + (1 : Int32))) fun (v1 : Int32) =>
  (l_Wa_votesIn_22 E x1 x2 FU M 0 v1).bind fun (t6, v6_3, v6_4, M6) =>
  ck (t6 = 1) <|
  some (v6_3, M6))
def B_districtsWon_32b (E : Ev) (M : Mm) (x1 : Int32) (x2 : Int32) (x3 : Int32) (x4 : Int32) : Option (Nat × Int32 × Int32 × Mm) :=
  (if x1 ≤ x4 then
  some (1, x3, x4, M)
  else
  (f_Wa_votesIn E M x4 x2).bind fun (r3, M3) =>
  (f_Wa_votesIn E M3 x4 ((1 : Int32) - x2)).bind fun (r4, M4) =>
  (if r3 ≤ r4 then
  some (0, x3, (x4 + 1), M4)
  else
  some (0, (x3 + 1), (x4 + 1), M4)))
def l_B_districtsWon_32 (E : Ev) (x1 : Int32) (x2 : Int32) : Nat → Mm → Int32 → Int32 → Option (Nat × Int32 × Int32 × Mm)
  | 0, _, _, _ => none
  | fu + 1, M, x3, x4 => (B_districtsWon_32b E M x1 x2 x3 x4).bind fun (t, w3, w4, N) => if t = 0 then l_B_districtsWon_32 E x1 x2 fu N w3 w4 else some (t, w3, w4, N)
def f_B_districtsWon (E : Ev) (M : Mm) (x1 : Int32) (x2 : Int32) : Option (Int32 × Mm) :=
  (f_B_needRange E M x1 1 (M.1 219 0)).bind fun M0 =>
  (f_B_needRange E M0 x2 0 1).bind fun M1 =>
  (f_Wa_divide E M1 x1).bind fun (r2, M2) =>
  (l_B_districtsWon_32 E x1 x2 FU M2 0 0).bind fun (t5, v5_3, v5_4, M5) =>
  ck (t5 = 1) <|
  some (v5_3, M5)
def f_B_electedAt (E : Ev) (M : Mm) (x1 : Int32) : Option (Int32 × Mm) :=
  (f_Co_latest E M).bind fun (r0, M0) =>
  (match r0 with
  | none =>
  none
  | some p0 =>
  ck (isCt E p0) <|
  (if x1 < 0 then
  none
  else
  (if x1 < (M0.1 p0 4) then
  ck (inb x1 3) <|
  some ((M0.1 (p0 + 2) x1.toNatClampNeg), M0)
  else
  none)))
def f_Li_latest (E : Ev) (M : Mm) : Option (Nat × Mm) :=
  ck (inb (M.1 53 10) 21) <|
  some ((74 + 5 * (M.1 53 10).toNatClampNeg), M)
def f_Li_isAsThen (E : Ev) (M : Mm) (x1 : Int32) : Option (Int32 × Mm) :=
  (f_Li_latest E M).bind fun (r0, M0) =>
  ck (isKs E r0) <|
  (if (M0.1 r0 2) ≤ x1 then
  some (0, M0)
  else
  ck (inb x1 8) <|
  (if (M0.1 55 x1.toNatClampNeg) = 0 then
  ck (inb x1 8) <|
  (if (M0.1 (r0 + 4) x1.toNatClampNeg) = 0 then
  ck (inb x1 8) <|
  ck (inb x1 8) <|
  (if (M0.1 54 x1.toNatClampNeg) = (M0.1 (r0 + 3) x1.toNatClampNeg) then
  some (1, M0)
  else
  some (0, M0))
  else
  some (0, M0))
  else
  some (0, M0)))
def Li_isUnjust_20b (E : Ev) (M : Mm) (q1 : Nat) (x2 : Int32) (x3 : Int32) : Option (Nat × Int32 × Mm) :=
  ck (isIA E q1) <|
  (if (M.1 53 0) ≤ x3 then
  some (2, x3, M)
  else
  ck (inb x2 8) <|
  ck (inb x3 8) <|
  (if (M.1 54 x2.toNatClampNeg) ≤ (M.1 54 x3.toNatClampNeg) then
  some (0, (x3 + 1), M)
  else
  ck (inb x2 (E.2.1 q1).2) <|
  ck (inb x3 (E.2.1 q1).2) <|
  (if (M.1 q1 x3.toNatClampNeg) ≤ (M.1 q1 x2.toNatClampNeg) then
  some (0, (x3 + 1), M)
  else
  (f_Li_isAsThen E M x2).bind fun (r5, M5) =>
  (if r5 = 0 then
  some (0, (x3 + 1), M5)
  else
  (f_Li_isAsThen E M5 x3).bind fun (r6, M6) =>
  (if r6 = 0 then
  some (0, (x3 + 1), M6)
  else
  some (1, x3, M6))))))
def l_Li_isUnjust_20 (E : Ev) (q1 : Nat) (x2 : Int32) : Nat → Mm → Int32 → Option (Nat × Int32 × Mm)
  | 0, _, _ => none
  | fu + 1, M, x3 => (Li_isUnjust_20b E M q1 x2 x3).bind fun (t, w3, N) => if t = 0 then l_Li_isUnjust_20 E q1 x2 fu N w3 else some (t, w3, N)
def Li_isUnjust_10b (E : Ev) (M : Mm) (q1 : Nat) (x2 : Int32) : Option (Nat × Int32 × Mm) :=
  ck (isIA E q1) <|
  (if (M.1 53 0) ≤ x2 then
  some (2, x2, M)
  else
  (l_Li_isUnjust_20 E q1 x2 FU M 0).bind fun (t7, v7_3, M7) =>
  (if t7 = 1 then
  some (1, 0, M7)
  else (if t7 = 2 then
  some (0, (x2 + 1), M7)
  else none)))
def l_Li_isUnjust_10 (E : Ev) (q1 : Nat) : Nat → Mm → Int32 → Option (Nat × Int32 × Mm)
  | 0, _, _ => none
  | fu + 1, M, x2 => (Li_isUnjust_10b E M q1 x2).bind fun (t, w2, N) => if t = 0 then l_Li_isUnjust_10 E q1 fu N w2 else some (t, w2, N)
def f_Li_isUnjust (E : Ev) (M : Mm) : Option (Int32 × Mm) :=
  (f_Li_latest E M).bind fun (r0, M0) =>
  ck (isKs E r0) <|
  (l_Li_isUnjust_10 E (r0 + 2) FU M0 0).bind fun (t8, v8_2, M8) =>
  (if t8 = 1 then
  some (1, M8)
  else (if t8 = 2 then
  some (0, M8)
  else none))
def f_Po_path (E : Ev) (M : Mm) (x1 : Int32) (x2 : Int32) : Option (Int32 × Mm) :=
  ck (inb ((x1 * (8 : Int32)) + x2) 64) <|
  some ((M.1 47 ((x1 * (8 : Int32)) + x2).toNatClampNeg), M)
def Po_widenPaths_10b (E : Ev) (M : Mm) (x1 : Int32) (x2 : Int32) (x3 : Int32) (x4 : Int32) : Option (Nat × Int32 × Mm) :=
  (if (M.1 2 2) ≤ x4 then
  some (1, x4, M)
  else
  (f_Po_path E M x2 x4).bind fun (r1, M1) =>
  (if x4 = x1 then
  some (0, (x4 + 1), M1)
  else
  (f_Po_path E M1 x1 x4).bind fun (r2, M2) =>
  (if (mnI x3 r1) ≤ r2 then
  some (0, (x4 + 1), M2)
  else
  ck (inb ((x1 * (8 : Int32)) + x4) 64) <|
  some (0, (x4 + 1), (u2 M2 47 ((x1 * (8 : Int32)) + x4).toNatClampNeg (mnI x3 r1))))))
def l_Po_widenPaths_10 (E : Ev) (x1 : Int32) (x2 : Int32) (x3 : Int32) : Nat → Mm → Int32 → Option (Nat × Int32 × Mm)
  | 0, _, _ => none
  | fu + 1, M, x4 => (Po_widenPaths_10b E M x1 x2 x3 x4).bind fun (t, w4, N) => if t = 0 then l_Po_widenPaths_10 E x1 x2 x3 fu N w4 else some (t, w4, N)
def f_Po_widenPaths (E : Ev) (M : Mm) (x1 : Int32) (x2 : Int32) : Option Mm :=
  (f_Po_path E M x1 x2).bind fun (r0, M0) =>
  (l_Po_widenPaths_10 E x1 x2 r0 FU M0 0).bind fun (t4, v4_4, M4) =>
  ck (t4 = 1) <|
  some M4
def Po_findPaths_j55 (E : Ev) (M : Mm) (x1 : Int32) (x2 : Int32) (y0 : Int32) (y1 : Int32) (y2 : Nat) : Option (Nat × Int32 × Mm) :=
  ck (isIA E y2) <|
  ck (inb y1 (E.2.1 y2).2) <|
  some (0, (x2 + 1), (u2 M y2 y1.toNatClampNeg y0))
def Po_findPaths_15b (E : Ev) (M : Mm) (x1 : Int32) (x2 : Int32) : Option (Nat × Int32 × Mm) :=
  (if (M.1 2 2) ≤ x2 then
  some (1, x2, M)
  else
  (f_Po_beats E M x1 x2).bind fun (r0, M0) =>
  (if r0 = 0 then
  Po_findPaths_j55 E M0 x1 x2 0 ((x1 * (8 : Int32)) + x2) 47
  else
  (f_Po_pair E M0 x1 x2).bind fun (r2, M2) =>
  Po_findPaths_j55 E M2 x1 x2 r2 ((x1 * (8 : Int32)) + x2) 47))
def l_Po_findPaths_15 (E : Ev) (x1 : Int32) : Nat → Mm → Int32 → Option (Nat × Int32 × Mm)
  | 0, _, _ => none
  | fu + 1, M, x2 => (Po_findPaths_15b E M x1 x2).bind fun (t, w2, N) => if t = 0 then l_Po_findPaths_15 E x1 fu N w2 else some (t, w2, N)
def Po_findPaths_2b (E : Ev) (M : Mm) (x1 : Int32) : Option (Nat × Int32 × Mm) :=
  (if (M.1 2 2) ≤ x1 then
  some (1, x1, M)
  else
  (l_Po_findPaths_15 E x1 FU M 0).bind fun (t3, v3_2, M3) =>
  ck (t3 = 1) <|
  some (0, (x1 + 1), M3))
def l_Po_findPaths_2 (E : Ev) : Nat → Mm → Int32 → Option (Nat × Int32 × Mm)
  | 0, _, _ => none
  | fu + 1, M, x1 => (Po_findPaths_2b E M x1).bind fun (t, w1, N) => if t = 0 then l_Po_findPaths_2 E fu N w1 else some (t, w1, N)
def Po_findPaths_83b (E : Ev) (M : Mm) (x1 : Int32) (x2 : Int32) : Option (Nat × Int32 × Mm) :=
  (if (M.1 2 2) ≤ x2 then
  some (1, x2, M)
  else
  (if x2 = x1 then
  some (0, (x2 + 1), M)
  else
  (f_Po_path E M x2 x1).bind fun (r5, M5) =>
  (if r5 ≤ 0 then
  some (0, (x2 + 1), M5)
  else
  (f_Po_widenPaths E M5 x2 x1).bind fun M6 =>
  some (0, (x2 + 1), M6))))
def l_Po_findPaths_83 (E : Ev) (x1 : Int32) : Nat → Mm → Int32 → Option (Nat × Int32 × Mm)
  | 0, _, _ => none
  | fu + 1, M, x2 => (Po_findPaths_83b E M x1 x2).bind fun (t, w2, N) => if t = 0 then l_Po_findPaths_83 E x1 fu N w2 else some (t, w2, N)
def Po_findPaths_70b (E : Ev) (M : Mm) (x1 : Int32) : Option (Nat × Int32 × Mm) :=
  (if (M.1 2 2) ≤ x1 then
  some (1, x1, M)
  else
  (l_Po_findPaths_83 E x1 FU M 0).bind fun (t7, v7_2, M7) =>
  ck (t7 = 1) <|
  some (0, (x1 + 1), M7))
def l_Po_findPaths_70 (E : Ev) : Nat → Mm → Int32 → Option (Nat × Int32 × Mm)
  | 0, _, _ => none
  | fu + 1, M, x1 => (Po_findPaths_70b E M x1).bind fun (t, w1, N) => if t = 0 then l_Po_findPaths_70 E fu N w1 else some (t, w1, N)
def f_Po_findPaths (E : Ev) (M : Mm) : Option Mm :=
  (l_Po_findPaths_2 E FU M 0).bind fun (t4, v4_1, M4) =>
  ck (t4 = 1) <|
  (l_Po_findPaths_70 E FU M4 0).bind fun (t8, v8_1, M8) =>
  ck (t8 = 1) <|
  some M8
def Po_winnersByPaths_24b (E : Ev) (M : Mm) (x2 : Int32) (x1 : Int32) (x3 : Int32) : Option (Nat × Int32 × Int32 × Mm) :=
  (if (M.1 2 2) ≤ x3 then
  some (1, x1, x3, M)
  else
  (f_Po_path E M x3 x2).bind fun (r1, M1) =>
  (f_Po_path E M1 x2 x3).bind fun (r2, M2) =>
  (if r1 ≤ r2 then
  some (0, x1, (x3 + 1), M2)
  else
  nb ((x1 &&& (((1 : Int32) <<< (x2 &&& 31)) ^^^ (-1 : Int32)))) fun (v3 : Int32) =>
  some (0, v3, (x3 + 1), M2)))
def l_Po_winnersByPaths_24 (E : Ev) (x2 : Int32) : Nat → Mm → Int32 → Int32 → Option (Nat × Int32 × Int32 × Mm)
  | 0, _, _, _ => none
  | fu + 1, M, x1, x3 => (Po_winnersByPaths_24b E M x2 x1 x3).bind fun (t, w1, w3, N) => if t = 0 then l_Po_winnersByPaths_24 E x2 fu N w1 w3 else some (t, w1, w3, N)
def Po_winnersByPaths_11b (E : Ev) (M : Mm) (x1 : Int32) (x2 : Int32) : Option (Nat × Int32 × Int32 × Mm) :=
  (if (M.1 2 2) ≤ x2 then
  some (1, x1, x2, M)
  else
  (l_Po_winnersByPaths_24 E x2 FU M x1 0).bind fun (t4, v4_1, v4_3, M4) =>
  ck (t4 = 1) <|
  some (0, v4_1, (x2 + 1), M4))
def l_Po_winnersByPaths_11 (E : Ev) : Nat → Mm → Int32 → Int32 → Option (Nat × Int32 × Int32 × Mm)
  | 0, _, _, _ => none
  | fu + 1, M, x1, x2 => (Po_winnersByPaths_11b E M x1 x2).bind fun (t, w1, w2, N) => if t = 0 then l_Po_winnersByPaths_11 E fu N w1 w2 else some (t, w1, w2, N)
def f_Po_winnersByPaths (E : Ev) (M : Mm) : Option (Int32 × Mm) :=
  (f_Po_findPaths E M).bind fun M0 =>
  (l_Po_winnersByPaths_11 E FU M0 (M0.1 41 1) 0).bind fun (t5, v5_1, v5_2, M5) =>
  ck (t5 = 1) <|
  some (v5_1, M5)
def f_B_isBeaterOfAllMissed (E : Ev) (M : Mm) : Option (Int32 × Mm) :=
  (f_Bx_everybody E M).bind fun (r0, M0) =>
  (f_Po_open E M0 r0).bind fun M1 =>
  (f_Po_beaterOfAll E M1).bind fun (r2, M2) =>
  (if r2 = (-1) then
  some (0, M2)
  else
  (f_Po_findDistances E M2).bind fun M3 =>
  (f_Po_winnersByPaths E M3).bind fun (r4, M4) =>
  (if r4 = ((1 : Int32) <<< (r2 &&& 31)) then
  (f_Po_consensusPlace E M4 0).bind fun (r5, M5) =>
  (if r5 = r2 then
  some (0, M5)
  else
  some (1, M5))
  else
  some (1, M4)))
def Cl_findSums_12b (E : Ev) (M : Mm) (x1 : Int32) (x2 : Int32) : Option (Nat × Int32 × Mm) :=
  (if ((1 : Int32) <<< (x1 &&& 31)) ≤ x2 then
  some (1, x2, M)
  else
  ck (inb x2 4096) <|
  ck (inb x1 12) <|
  nb (((M.1 245 x2.toNatClampNeg) + (M.1 244 x1.toNatClampNeg))) fun (v2 : Int32) =>
  ck (inb (x2 ||| ((1 : Int32) <<< (x1 &&& 31))) 4096) <|
  some (0, (x2 + 1), (u2 M 245 (x2 ||| ((1 : Int32) <<< (x1 &&& 31))).toNatClampNeg v2)))
def l_Cl_findSums_12 (E : Ev) (x1 : Int32) : Nat → Mm → Int32 → Option (Nat × Int32 × Mm)
  | 0, _, _ => none
  | fu + 1, M, x2 => (Cl_findSums_12b E M x1 x2).bind fun (t, w2, N) => if t = 0 then l_Cl_findSums_12 E x1 fu N w2 else some (t, w2, N)
def Cl_findSums_2b (E : Ev) (M : Mm) (x1 : Int32) : Option (Nat × Int32 × Mm) :=
  (if (M.1 243 0) ≤ x1 then
  some (1, x1, M)
  else
  (l_Cl_findSums_12 E x1 FU M 0).bind fun (t4, v4_2, M4) =>
  ck (t4 = 1) <|
  some (0, (x1 + 1), M4))
def l_Cl_findSums_2 (E : Ev) : Nat → Mm → Int32 → Option (Nat × Int32 × Mm)
  | 0, _, _ => none
  | fu + 1, M, x1 => (Cl_findSums_2b E M x1).bind fun (t, w1, N) => if t = 0 then l_Cl_findSums_2 E fu N w1 else some (t, w1, N)
def f_Cl_findSums (E : Ev) (M : Mm) : Option Mm :=
  (l_Cl_findSums_2 E FU M 0).bind fun (t5, v5_1, M5) =>
  ck (t5 = 1) <|
  some M5
def f_Cl_isSwung (E : Ev) (M : Mm) (x1 : Int32) (x2 : Int32) : Option (Int32 × Mm) :=
  ck (inb x1 4096) <|
  (if (M.1 243 1) ≤ (M.1 245 x1.toNatClampNeg) then
  some (0, M)
  else
  ck (inb x1 4096) <|
  ck (inb x2 12) <|
  (if ((M.1 245 x1.toNatClampNeg) + (M.1 244 x2.toNatClampNeg)) < (M.1 243 1) then
  some (0, M)
  else
  (f_B_has E M x1 x2).bind fun (r3, M3) =>
  (if r3 = 0 then
  some (1, M3)
  else
  some (0, M3))))
def Cl_ordersTurnedBy_5b (E : Ev) (M : Mm) (x1 : Int32) (x2 : Int64) (x4 : Int32) : Option (Nat × Int64 × Int32 × Mm) :=
  (if ((1 : Int32) <<< ((M.1 243 0) &&& 31)) ≤ x4 then
  some (1, x2, x4, M)
  else
  (f_Cl_isSwung E M x4 x1).bind fun (r0, M0) =>
  (if r0 = 0 then
  some (0, x2, (x4 + 1), M0)
  else
  (f_In_bitCount E M0 x4).bind fun (r1, M1) =>
  ck (inb r1 13) <|
  ck (inb (((M1.1 243 0) - (1 : Int32)) - r1) 13) <|
  nb ((x2 + ((facF r1.toNatClampNeg) * (facF (((M1.1 243 0) - (1 : Int32)) - r1).toNatClampNeg)))) fun (v6 : Int64) =>
  some (0, v6, (x4 + 1), M1)))
def l_Cl_ordersTurnedBy_5 (E : Ev) (x1 : Int32) : Nat → Mm → Int64 → Int32 → Option (Nat × Int64 × Int32 × Mm)
  | 0, _, _, _ => none
  | fu + 1, M, x2, x4 => (Cl_ordersTurnedBy_5b E M x1 x2 x4).bind fun (t, w2, w4, N) => if t = 0 then l_Cl_ordersTurnedBy_5 E x1 fu N w2 w4 else some (t, w2, w4, N)
def f_Cl_ordersTurnedBy (E : Ev) (M : Mm) (x1 : Int32) : Option (Int64 × Mm) :=
  (l_Cl_ordersTurnedBy_5 E x1 FU M 0 0).bind fun (t7, v7_2, v7_4, M7) =>
  ck (t7 = 1) <|
  some (v7_2, M7)
def Cl_isOrderMissed_8b (E : Ev) (M : Mm) (x1 : Int64) (x3 : Int32) : Option (Nat × Int64 × Int32 × Mm) :=
  (if (M.1 243 0) ≤ x3 then
  some (1, x1, x3, M)
  else
  (f_Cl_ordersTurnedBy E M x3).bind fun (r1, M1) =>
  some (0, (x1 + r1), (x3 + 1), M1))
def l_Cl_isOrderMissed_8 (E : Ev) : Nat → Mm → Int64 → Int32 → Option (Nat × Int64 × Int32 × Mm)
  | 0, _, _, _ => none
  | fu + 1, M, x1, x3 => (Cl_isOrderMissed_8b E M x1 x3).bind fun (t, w1, w3, N) => if t = 0 then l_Cl_isOrderMissed_8 E fu N w1 w3 else some (t, w1, w3, N)
def f_Cl_isOrderMissed (E : Ev) (M : Mm) : Option (Int32 × Mm) :=
  (f_Cl_findSums E M).bind fun M0 =>
  (l_Cl_isOrderMissed_8 E FU M0 0 0).bind fun (t2, v2_1, v2_3, M2) =>
  ck (t2 = 1) <|
  (if (lg_cmp v2_1 0) = 0 then
  some (0, M2)
  else
  ck (inb (M2.1 243 0) 13) <|
  (if (lg_cmp v2_1 (facF (M2.1 243 0).toNatClampNeg)) = 0 then
  some (0, M2)
  else
  some (1, M2)))
def B_errors_j32 (E : Ev) (M : Mm) (y0 : Int32) (y1 : Int32) : Option (Int32 × Mm) :=
  (f_Cl_isOrderMissed E M).bind fun (r3, M3) =>
  (if r3 = 0 then
  some (((y1 + y0) + (0 : Int32)), M3)
  else
  some (((y1 + y0) + (1 : Int32)), M3))
def B_errors_j15 (E : Ev) (M : Mm) (y0 : Int32) : Option (Int32 × Mm) :=
  (f_B_countErrors E M).bind fun (r1, M1) =>
  (f_B_isBeaterOfAllMissed E M1).bind fun (r2, M2) =>
  (if r2 = 0 then
  B_errors_j32 E M2 0 (y0 + r1)
  else
  B_errors_j32 E M2 1 (y0 + r1))
def f_B_errors (E : Ev) (M : Mm) : Option (Int32 × Mm) :=
  (f_Li_isUnjust E M).bind fun (r0, M0) =>
  (if r0 = 0 then
  B_errors_j15 E M0 0
  else
  B_errors_j15 E M0 1)
def f_B_needFewCandidates (E : Ev) (M : Mm) : Option Mm :=
  (if (M.1 2 2) ≤ 5 then
  some M
  else
  none)
def Ar_fillL_6b (E : Ev) (M : Mm) (q0 : Nat) (x1 : Int64) (x4 : Int32) (x3 : Int32) : Option (Nat × Int32 × Mm) :=
  ck (isLA E q0) <|
  (if x4 ≤ x3 then
  some (1, x3, M)
  else
  ck (inb x3 (E.2.1 q0).2) <|
  some (0, (x3 + 1), (uL M q0 x3.toNatClampNeg x1)))
def l_Ar_fillL_6 (E : Ev) (q0 : Nat) (x1 : Int64) (x4 : Int32) : Nat → Mm → Int32 → Option (Nat × Int32 × Mm)
  | 0, _, _ => none
  | fu + 1, M, x3 => (Ar_fillL_6b E M q0 x1 x4 x3).bind fun (t, w3, N) => if t = 0 then l_Ar_fillL_6 E q0 x1 x4 fu N w3 else some (t, w3, N)
def f_Ar_fillL (E : Ev) (M : Mm) (p0 : Nat) (x1 : Int64) : Option Mm :=
  ck (isLA E p0) <|
  (l_Ar_fillL_6 E p0 x1 (nI (E.2.1 p0).2) FU M 0).bind fun (t1, v1_3, M1) =>
  ck (t1 = 1) <|
  some M1
def Po_scoreTopsOf_j38 (E : Ev) (M : Mm) (x1 : Int32) (x2 : Int32) (y0 : Int32) : Option (Nat × Int32 × Mm) :=
  (if y0 = (-1) then
  some (0, (x2 + 1), M)
  else
  ck (inb y0 8) <|
  ck (inb x2 31) <|
  nb (((M.2 48 y0.toNatClampNeg) + (M.1 42 x2.toNatClampNeg).toInt64)) fun (v5 : Int64) =>
  ck (inb y0 8) <|
  some (0, (x2 + 1), (uL M 48 y0.toNatClampNeg v5)))
def Po_scoreTopsOf_10b (E : Ev) (M : Mm) (x1 : Int32) (x2 : Int32) : Option (Nat × Int32 × Mm) :=
  (if 31 ≤ x2 then
  some (1, x2, M)
  else
  ck (inb x2 31) <|
  (if (M.1 42 x2.toNatClampNeg) = 0 then
  Po_scoreTopsOf_j38 E M x1 x2 (-1)
  else
  (f_Bx_soleTopOf E M x2 x1).bind fun (r2, M2) =>
  Po_scoreTopsOf_j38 E M2 x1 x2 r2))
def l_Po_scoreTopsOf_10 (E : Ev) (x1 : Int32) : Nat → Mm → Int32 → Option (Nat × Int32 × Mm)
  | 0, _, _ => none
  | fu + 1, M, x2 => (Po_scoreTopsOf_10b E M x1 x2).bind fun (t, w2, N) => if t = 0 then l_Po_scoreTopsOf_10 E x1 fu N w2 else some (t, w2, N)
def f_Po_scoreTopsOf (E : Ev) (M : Mm) (x1 : Int32) : Option Mm :=
  (f_Ar_fillL E M 48 0).bind fun M0 =>
  (l_Po_scoreTopsOf_10 E x1 FU M0 0).bind fun (t7, v7_2, M7) =>
  ck (t7 = 1) <|
  some M7
def f_Bx_winsLot (E : Ev) (M : Mm) (x1 : Int32) (x2 : Int32) : Option (Int32 × Mm) :=
  ck (inb x1 8) <|
  ck (inb x2 8) <|
  (if (M.1 4 x1.toNatClampNeg) < (M.1 4 x2.toNatClampNeg) then
  some (1, M)
  else
  ck (inb x1 8) <|
  ck (inb x2 8) <|
  (if (M.1 4 x1.toNatClampNeg) = (M.1 4 x2.toNatClampNeg) then
  (if x2 ≤ x1 then
  some (0, M)
  else
  some (1, M))
  else
  some (0, M)))
def Po_smallestOf_4b (E : Ev) (M : Mm) (x1 : Int32) (x2 : Int32) (x3 : Int32) : Option (Nat × Int32 × Int32 × Mm) :=
  (if (M.1 2 2) ≤ x3 then
  some (1, x2, x3, M)
  else
  (f_B_has E M x1 x3).bind fun (r0, M0) =>
  (if r0 = 0 then
  some (0, x2, (x3 + 1), M0)
  else
  (if x2 = (-1) then
  some (0, x3, (x3 + 1), M0)
  else
  ck (inb x3 8) <|
  ck (inb x2 8) <|
  (if (lg_cmp (M0.2 48 x3.toNatClampNeg) (M0.2 48 x2.toNatClampNeg)) < 0 then
  some (0, x3, (x3 + 1), M0)
  else
  ck (inb x3 8) <|
  ck (inb x2 8) <|
  (if (lg_cmp (M0.2 48 x3.toNatClampNeg) (M0.2 48 x2.toNatClampNeg)) = 0 then
  (f_Bx_winsLot E M0 x2 x3).bind fun (r5, M5) =>
  (if r5 = 0 then
  some (0, x2, (x3 + 1), M5)
  else
  some (0, x3, (x3 + 1), M5))
  else
  some (0, x2, (x3 + 1), M0))))))
def l_Po_smallestOf_4 (E : Ev) (x1 : Int32) : Nat → Mm → Int32 → Int32 → Option (Nat × Int32 × Int32 × Mm)
  | 0, _, _, _ => none
  | fu + 1, M, x2, x3 => (Po_smallestOf_4b E M x1 x2 x3).bind fun (t, w2, w3, N) => if t = 0 then l_Po_smallestOf_4 E x1 fu N w2 w3 else some (t, w2, w3, N)
def f_Po_smallestOf (E : Ev) (M : Mm) (x1 : Int32) : Option (Int32 × Mm) :=
  (l_Po_smallestOf_4 E x1 FU M (-1) 0).bind fun (t6, v6_2, v6_3, M6) =>
  ck (t6 = 1) <|
  some (v6_2, M6)
def Po_bestByLot_4b (E : Ev) (M : Mm) (x1 : Int32) (x2 : Int32) (x3 : Int32) : Option (Nat × Int32 × Int32 × Mm) :=
  (if (M.1 2 2) ≤ x3 then
  some (1, x2, x3, M)
  else
  (f_B_has E M x1 x3).bind fun (r0, M0) =>
  (if r0 = 0 then
  some (0, x2, (x3 + 1), M0)
  else
  (if x2 = (-1) then
  some (0, x3, (x3 + 1), M0)
  else
  (f_Bx_winsLot E M0 x3 x2).bind fun (r1, M1) =>
  (if r1 = 0 then
  some (0, x2, (x3 + 1), M1)
  else
  some (0, x3, (x3 + 1), M1)))))
def l_Po_bestByLot_4 (E : Ev) (x1 : Int32) : Nat → Mm → Int32 → Int32 → Option (Nat × Int32 × Int32 × Mm)
  | 0, _, _, _ => none
  | fu + 1, M, x2, x3 => (Po_bestByLot_4b E M x1 x2 x3).bind fun (t, w2, w3, N) => if t = 0 then l_Po_bestByLot_4 E x1 fu N w2 w3 else some (t, w2, w3, N)
def f_Po_bestByLot (E : Ev) (M : Mm) (x1 : Int32) : Option (Int32 × Mm) :=
  (l_Po_bestByLot_4 E x1 FU M (-1) 0).bind fun (t2, v2_2, v2_3, M2) =>
  ck (t2 = 1) <|
  some (v2_2, M2)
def Po_lastOfRunoff_17b (E : Ev) (M : Mm) (x2 : Int32) (x1 : Int32) (x3 : Int32) : Option (Nat × Int32 × Int32 × Mm) :=
  (if x2 ≤ x3 then
  some (1, x1, x3, M)
  else
  (f_Po_scoreTopsOf E M x1).bind fun M1 =>
  (f_Po_smallestOf E M1 x1).bind fun (r2, M2) =>
  ck (inb x3 8) <|
  nb ((x1 &&& (((1 : Int32) <<< (r2 &&& 31)) ^^^ (-1 : Int32)))) fun (v4 : Int32) =>
  some (0, v4, (x3 + 1), (u2 M2 49 x3.toNatClampNeg r2)))
def l_Po_lastOfRunoff_17 (E : Ev) (x2 : Int32) : Nat → Mm → Int32 → Int32 → Option (Nat × Int32 × Int32 × Mm)
  | 0, _, _, _ => none
  | fu + 1, M, x1, x3 => (Po_lastOfRunoff_17b E M x2 x1 x3).bind fun (t, w1, w3, N) => if t = 0 then l_Po_lastOfRunoff_17 E x2 fu N w1 w3 else some (t, w1, w3, N)
def f_Po_lastOfRunoff (E : Ev) (M : Mm) : Option (Int32 × Mm) :=
  (f_In_bitCount E M (M.1 41 1)).bind fun (r0, M0) =>
  (l_Po_lastOfRunoff_17 E (r0 - (1 : Int32)) FU M0 (M.1 41 1) 0).bind fun (t5, v5_1, v5_3, M5) =>
  ck (t5 = 1) <|
  (f_Po_bestByLot E M5 v5_1).bind fun (r6, M6) =>
  some (r6, M6)
def Po_pointsOf_5b (E : Ev) (M : Mm) (x1 : Int32) (x2 : Int64) (x4 : Int32) : Option (Nat × Int64 × Int32 × Mm) :=
  (if (M.1 2 2) ≤ x4 then
  some (1, x2, x4, M)
  else
  (if x4 = x1 then
  some (0, x2, (x4 + 1), M)
  else
  (f_B_has E M (M.1 41 1) x4).bind fun (r0, M0) =>
  (if r0 = 0 then
  some (0, x2, (x4 + 1), M0)
  else
  (f_Po_pair E M0 x1 x4).bind fun (r1, M1) =>
  (f_Po_pair E M1 x4 x1).bind fun (r2, M2) =>
  nb ((x2 + (((M0.1 41 2) + r1) - r2).toInt64)) fun (v3 : Int64) =>
  some (0, v3, (x4 + 1), M2))))
def l_Po_pointsOf_5 (E : Ev) (x1 : Int32) : Nat → Mm → Int64 → Int32 → Option (Nat × Int64 × Int32 × Mm)
  | 0, _, _, _ => none
  | fu + 1, M, x2, x4 => (Po_pointsOf_5b E M x1 x2 x4).bind fun (t, w2, w4, N) => if t = 0 then l_Po_pointsOf_5 E x1 fu N w2 w4 else some (t, w2, w4, N)
def f_Po_pointsOf (E : Ev) (M : Mm) (x1 : Int32) : Option (Int64 × Mm) :=
  (l_Po_pointsOf_5 E x1 FU M 0 0).bind fun (t4, v4_2, v4_4, M4) =>
  ck (t4 = 1) <|
  some (v4_2, M4)
def Po_findScores_j59 (E : Ev) (M : Mm) (x1 : Int32) (x2 : Int32) (y0 : Int64) (y1 : Int32) (y2 : Nat) : Option (Nat × Int32 × Mm) :=
  ck (isLA E y2) <|
  ck (inb y1 (E.2.1 y2).2) <|
  some (0, (x2 + 1), (uL M y2 y1.toNatClampNeg y0))
def Po_findScores_2b (E : Ev) (M : Mm) (x1 : Int32) (x2 : Int32) : Option (Nat × Int32 × Mm) :=
  (if (M.1 2 2) ≤ x2 then
  some (1, x2, M)
  else
  (if x1 = 3 then
  (f_Po_pointsOf E M x2).bind fun (r3, M3) =>
  ck (inb x2 8) <|
  some (0, (x2 + 1), (uL M3 48 x2.toNatClampNeg r3))
  else
  (if x1 = 4 then
  ck (inb x2 8) <|
  Po_findScores_j59 E M x1 x2 (M.1 44 x2.toNatClampNeg).toInt64 x2 48
  else
  ck (inb x2 8) <|
  Po_findScores_j59 E M x1 x2 (M.1 43 x2.toNatClampNeg).toInt64 x2 48)))
def l_Po_findScores_2 (E : Ev) (x1 : Int32) : Nat → Mm → Int32 → Option (Nat × Int32 × Mm)
  | 0, _, _ => none
  | fu + 1, M, x2 => (Po_findScores_2b E M x1 x2).bind fun (t, w2, N) => if t = 0 then l_Po_findScores_2 E x1 fu N w2 else some (t, w2, N)
def f_Po_findScores (E : Ev) (M : Mm) (x1 : Int32) : Option Mm :=
  (l_Po_findScores_2 E x1 FU M 0).bind fun (t5, v5_2, M5) =>
  ck (t5 = 1) <|
  some M5
def Po_greatestOf_4b (E : Ev) (M : Mm) (x1 : Int32) (x2 : Int32) (x3 : Int32) : Option (Nat × Int32 × Int32 × Mm) :=
  (if (M.1 2 2) ≤ x3 then
  some (1, x2, x3, M)
  else
  (f_B_has E M x1 x3).bind fun (r0, M0) =>
  (if r0 = 0 then
  some (0, x2, (x3 + 1), M0)
  else
  (if x2 = (-1) then
  some (0, x3, (x3 + 1), M0)
  else
  ck (inb x3 8) <|
  ck (inb x2 8) <|
  (if 0 < (lg_cmp (M0.2 48 x3.toNatClampNeg) (M0.2 48 x2.toNatClampNeg)) then
  some (0, x3, (x3 + 1), M0)
  else
  ck (inb x3 8) <|
  ck (inb x2 8) <|
  (if (lg_cmp (M0.2 48 x3.toNatClampNeg) (M0.2 48 x2.toNatClampNeg)) = 0 then
  (f_Bx_winsLot E M0 x3 x2).bind fun (r5, M5) =>
  (if r5 = 0 then
  some (0, x2, (x3 + 1), M5)
  else
  some (0, x3, (x3 + 1), M5))
  else
  some (0, x2, (x3 + 1), M0))))))
def l_Po_greatestOf_4 (E : Ev) (x1 : Int32) : Nat → Mm → Int32 → Int32 → Option (Nat × Int32 × Int32 × Mm)
  | 0, _, _, _ => none
  | fu + 1, M, x2, x3 => (Po_greatestOf_4b E M x1 x2 x3).bind fun (t, w2, w3, N) => if t = 0 then l_Po_greatestOf_4 E x1 fu N w2 w3 else some (t, w2, w3, N)
def f_Po_greatestOf (E : Ev) (M : Mm) (x1 : Int32) : Option (Int32 × Mm) :=
  (l_Po_greatestOf_4 E x1 FU M (-1) 0).bind fun (t6, v6_2, v6_3, M6) =>
  ck (t6 = 1) <|
  some (v6_2, M6)
def f_Po_bestBy (E : Ev) (M : Mm) (x1 : Int32) : Option (Int32 × Mm) :=
  (if (M.1 41 1) = 0 then
  some ((-1), M)
  else
  (if x1 = 1 then
  (f_Po_lastOfRunoff E M).bind fun (r4, M4) =>
  some (r4, M4)
  else
  (if x1 = 2 then
  (f_Po_winnersByPaths E M).bind fun (r2, M2) =>
  (f_Po_bestByLot E M2 r2).bind fun (r3, M3) =>
  some (r3, M3)
  else
  (f_Po_findScores E M x1).bind fun M0 =>
  (f_Po_greatestOf E M0 (M0.1 41 1)).bind fun (r1, M1) =>
  some (r1, M1))))
def Bx_rankOf_2b (E : Ev) (M : Mm) (x1 : Int32) (x2 : Int32) (x3 : Int32) : Option (Nat × Int32 × Mm) :=
  ck (inb x1 31) <|
  (if (M.1 7 x1.toNatClampNeg) ≤ x3 then
  some (2, x3, M)
  else
  ck (inb x1 31) <|
  ck (inb x3 8) <|
  (f_B_has E M (M.1 (9 + x1.toNatClampNeg) x3.toNatClampNeg) x2).bind fun (r3, M3) =>
  (if r3 = 0 then
  some (0, (x3 + 1), M3)
  else
  some (1, x3, M3)))
def l_Bx_rankOf_2 (E : Ev) (x1 : Int32) (x2 : Int32) : Nat → Mm → Int32 → Option (Nat × Int32 × Mm)
  | 0, _, _ => none
  | fu + 1, M, x3 => (Bx_rankOf_2b E M x1 x2 x3).bind fun (t, w3, N) => if t = 0 then l_Bx_rankOf_2 E x1 x2 fu N w3 else some (t, w3, N)
def f_Bx_rankOf (E : Ev) (M : Mm) (x1 : Int32) (x2 : Int32) : Option (Int32 × Mm) :=
  (l_Bx_rankOf_2 E x1 x2 FU M 0).bind fun (t4, v4_3, M4) =>
  (if t4 = 1 then
  some (v4_3, M4)
  else (if t4 = 2 then
  ck (inb x1 31) <|
  some ((M4.1 7 x1.toNatClampNeg), M4)
  else none))
def Fb_aheadOf_16b (E : Ev) (M : Mm) (x1 : Int32) (x4 : Int32) (x3 : Int32) (x5 : Int32) : Option (Nat × Int32 × Int32 × Mm) :=
  (if x4 ≤ x5 then
  some (1, x3, x5, M)
  else
  ck (inb x1 31) <|
  ck (inb x5 8) <|
  nb ((x3 ||| (M.1 (9 + x1.toNatClampNeg) x5.toNatClampNeg))) fun (v3 : Int32) =>
  some (0, v3, (x5 + 1), M))
def l_Fb_aheadOf_16 (E : Ev) (x1 : Int32) (x4 : Int32) : Nat → Mm → Int32 → Int32 → Option (Nat × Int32 × Int32 × Mm)
  | 0, _, _, _ => none
  | fu + 1, M, x3, x5 => (Fb_aheadOf_16b E M x1 x4 x3 x5).bind fun (t, w3, w5, N) => if t = 0 then l_Fb_aheadOf_16 E x1 x4 fu N w3 w5 else some (t, w3, w5, N)
def f_Fb_aheadOf (E : Ev) (M : Mm) (x1 : Int32) (x2 : Int32) : Option (Int32 × Mm) :=
  (f_Bx_rankOf E M x1 x2).bind fun (r0, M0) =>
  (l_Fb_aheadOf_16 E x1 r0 FU M0 0 0).bind fun (t4, v4_3, v4_5, M4) =>
  ck (t4 = 1) <|
  some (v4_3, M4)
def Fb_writeTrial_9b (E : Ev) (M : Mm) (x1 : Int32) : Option (Nat × Int32 × Mm) :=
  (if (M.1 2 2) ≤ x1 then
  some (1, x1, M)
  else
  ck (inb x1 5) <|
  (f_Bx_rankOnTrial E M (M.1 52 x1.toNatClampNeg) 1).bind fun M2 =>
  some (0, (x1 + 1), M2))
def l_Fb_writeTrial_9 (E : Ev) : Nat → Mm → Int32 → Option (Nat × Int32 × Mm)
  | 0, _, _ => none
  | fu + 1, M, x1 => (Fb_writeTrial_9b E M x1).bind fun (t, w1, N) => if t = 0 then l_Fb_writeTrial_9 E fu N w1 else some (t, w1, N)
def f_Fb_writeTrial (E : Ev) (M : Mm) : Option Mm :=
  (f_Bx_clearTrial E M).bind fun M0 =>
  (l_Fb_writeTrial_9 E FU M0 0).bind fun (t3, v3_1, M3) =>
  ck (t3 = 1) <|
  some (u2 M3 6 30 (M3.1 39 0))
def f_Fb_swap (E : Ev) (M : Mm) (x1 : Int32) (x2 : Int32) : Option Mm :=
  ck (inb x1 5) <|
  ck (inb x2 5) <|
  ck (inb x1 5) <|
  ck (inb x2 5) <|
  nb (u2 (u2 M 52 x1.toNatClampNeg (M.1 52 x2.toNatClampNeg)) 52 x2.toNatClampNeg (M.1 52 x1.toNatClampNeg)) fun (M4 : Mm) =>
  some M4
def Fb_goToNextOrder_14b (E : Ev) (M : Mm) (x1 : Int32) (x2 : Int32) : Option (Nat × Int32 × Mm) :=
  (if x2 < 0 then
  some (1, x2, M)
  else
  ck (inb x2 5) <|
  ck (inb (x2 + (1 : Int32)) 5) <|
  (if (M.1 52 x2.toNatClampNeg) ≤ (M.1 52 (x2 + (1 : Int32)).toNatClampNeg) then
  some (1, x2, M)
  else
  some (0, (x2 + (-1)), M)))
def l_Fb_goToNextOrder_14 (E : Ev) (x1 : Int32) : Nat → Mm → Int32 → Option (Nat × Int32 × Mm)
  | 0, _, _ => none
  | fu + 1, M, x2 => (Fb_goToNextOrder_14b E M x1 x2).bind fun (t, w2, N) => if t = 0 then l_Fb_goToNextOrder_14 E x1 fu N w2 else some (t, w2, N)
def Fb_goToNextOrder_48b (E : Ev) (M : Mm) (x1 : Int32) (x2 : Int32) (x3 : Int32) : Option (Nat × Int32 × Mm) :=
  (if x3 ≤ x2 then
  some (1, x3, M)
  else
  ck (inb x3 5) <|
  ck (inb x2 5) <|
  (if (M.1 52 x2.toNatClampNeg) ≤ (M.1 52 x3.toNatClampNeg) then
  some (1, x3, M)
  else
  some (0, (x3 + (-1)), M)))
def l_Fb_goToNextOrder_48 (E : Ev) (x1 : Int32) (x2 : Int32) : Nat → Mm → Int32 → Option (Nat × Int32 × Mm)
  | 0, _, _ => none
  | fu + 1, M, x3 => (Fb_goToNextOrder_48b E M x1 x2 x3).bind fun (t, w3, N) => if t = 0 then l_Fb_goToNextOrder_48 E x1 x2 fu N w3 else some (t, w3, N)
def Fb_goToNextOrder_88b (E : Ev) (M : Mm) (x4 : Int32) (x5 : Int32) : Option (Nat × Int32 × Int32 × Mm) :=
  (if x5 ≤ x4 then
  some (1, x4, x5, M)
  else
  (f_Fb_swap E M x4 x5).bind fun M8 =>
  some (0, (x4 + 1), (x5 + (-1)), M8))
def l_Fb_goToNextOrder_88 (E : Ev) : Nat → Mm → Int32 → Int32 → Option (Nat × Int32 × Int32 × Mm)
  | 0, _, _, _ => none
  | fu + 1, M, x4, x5 => (Fb_goToNextOrder_88b E M x4 x5).bind fun (t, w4, w5, N) => if t = 0 then l_Fb_goToNextOrder_88 E fu N w4 w5 else some (t, w4, w5, N)
def Fb_goToNextOrder_j74 (E : Ev) (M : Mm) (x1 : Int32) (x2 : Int32) (x3 : Int32) : Option Mm :=
  (f_Fb_swap E M x2 x3).bind fun M7 =>
  (l_Fb_goToNextOrder_88 E FU M7 (x2 + (1 : Int32)) x1).bind fun (t9, v9_4, v9_5, M9) =>
  ck (t9 = 1) <|
  some M9
def Fb_goToNextOrder_j41 (E : Ev) (M : Mm) (x1 : Int32) (x2 : Int32) : Option Mm :=
  (if 0 ≤ x2 then
  (l_Fb_goToNextOrder_48 E x1 x2 FU M x1).bind fun (t6, v6_3, M6) =>
  ck (t6 = 1) <|
  Fb_goToNextOrder_j74 E M6 x1 x2 v6_3
  else
  some M)
def f_Fb_goToNextOrder (E : Ev) (M : Mm) : Option Mm :=
  nb ((((M.1 2 2) - (1 : Int32)) - (1 : Int32))) fun (v0 : Int32) =>
  (l_Fb_goToNextOrder_14 E ((M.1 2 2) - (1 : Int32)) FU M v0).bind fun (t3, v3_2, M3) =>
  ck (t3 = 1) <|
  Fb_goToNextOrder_j41 E M3 ((M.1 2 2) - (1 : Int32)) v3_2
def Fb_findOrder_2b (E : Ev) (M : Mm) (x1 : Int32) (x2 : Int32) (x3 : Int32) : Option (Nat × Int32 × Mm) :=
  (if 5 ≤ x3 then
  some (1, x3, M)
  else
  ck (inb x3 5) <|
  some (0, (x3 + 1), (u2 M 52 x3.toNatClampNeg x3)))
def l_Fb_findOrder_2 (E : Ev) (x1 : Int32) (x2 : Int32) : Nat → Mm → Int32 → Option (Nat × Int32 × Mm)
  | 0, _, _ => none
  | fu + 1, M, x3 => (Fb_findOrder_2b E M x1 x2 x3).bind fun (t, w3, N) => if t = 0 then l_Fb_findOrder_2 E x1 x2 fu N w3 else some (t, w3, N)
def Fb_findOrder_j94 (E : Ev) (M : Mm) (x1 : Int32) (x2 : Int32) (x3 : Int64) (x5 : Int32) : Option (Nat × Int32 × Mm) :=
  (f_Fb_goToNextOrder E M).bind fun M9 =>
  some (0, (x5 + 1), M9)
def Fb_findOrder_35b (E : Ev) (M : Mm) (x1 : Int32) (x2 : Int32) (x3 : Int64) (x5 : Int32) : Option (Nat × Int32 × Mm) :=
  (if 0 ≤ (lg_cmp x5.toInt64 x3) then
  some (2, x5, M)
  else
  (f_Fb_writeTrial E M).bind fun M5 =>
  (f_Po_change E M5 30 1).bind fun M6 =>
  (f_Po_bestBy E M6 x1).bind fun (r7, M7) =>
  (f_Po_change E M7 30 (-1)).bind fun M8 =>
  (if r7 = (-1) then
  Fb_findOrder_j94 E M8 x1 x2 x3 x5
  else
  (f_B_has E M8 x2 r7).bind fun (r10, M10) =>
  (if r10 = 0 then
  Fb_findOrder_j94 E M10 x1 x2 x3 x5
  else
  some (1, x5, M10))))
def l_Fb_findOrder_35 (E : Ev) (x1 : Int32) (x2 : Int32) (x3 : Int64) : Nat → Mm → Int32 → Option (Nat × Int32 × Mm)
  | 0, _, _ => none
  | fu + 1, M, x5 => (Fb_findOrder_35b E M x1 x2 x3 x5).bind fun (t, w5, N) => if t = 0 then l_Fb_findOrder_35 E x1 x2 x3 fu N w5 else some (t, w5, N)
def f_Fb_findOrder (E : Ev) (M : Mm) (x1 : Int32) (x2 : Int32) : Option (Int32 × Mm) :=
  (l_Fb_findOrder_2 E x1 x2 FU M 0).bind fun (t1, v1_3, M1) =>
  ck (t1 = 1) <|
  ck (inb (M1.1 2 2) 13) <|
  nb ((facF (M1.1 2 2).toNatClampNeg)) fun (v4 : Int64) =>
  (l_Fb_findOrder_35 E x1 x2 v4 FU M1 0).bind fun (t11, v11_5, M11) =>
  (if t11 = 1 then
  some (1, M11)
  else (if t11 = 2 then
  some (0, M11)
  else none))
def Fb_findKind_j65 (E : Ev) (M : Mm) (x1 : Int32) (x2 : Int32) (x3 : Int32) (y0 : Int32) : Option (Nat × Int32 × Mm) :=
  (if y0 = 0 then
  some (0, (x3 + 1), M)
  else
  (f_Po_change E M x3 (-1)).bind fun M4 =>
  (f_Fb_findOrder E M4 x1 y0).bind fun (r5, M5) =>
  (if r5 = 0 then
  (f_Po_change E M5 x3 1).bind fun M6 =>
  some (0, (x3 + 1), M6)
  else
  some (1, x3, M5)))
def Fb_findKind_32b (E : Ev) (M : Mm) (x1 : Int32) (x2 : Int32) (x3 : Int32) : Option (Nat × Int32 × Mm) :=
  (if (M.1 2 3) ≤ x3 then
  some (2, x3, M)
  else
  ck (inb x3 31) <|
  (if (M.1 5 x3.toNatClampNeg) ≤ 0 then
  Fb_findKind_j65 E M x1 x2 x3 0
  else
  (f_Fb_aheadOf E M x3 x2).bind fun (r7, M7) =>
  Fb_findKind_j65 E M7 x1 x2 x3 r7))
def l_Fb_findKind_32 (E : Ev) (x1 : Int32) (x2 : Int32) : Nat → Mm → Int32 → Option (Nat × Int32 × Mm)
  | 0, _, _ => none
  | fu + 1, M, x3 => (Fb_findKind_32b E M x1 x2 x3).bind fun (t, w3, N) => if t = 0 then l_Fb_findKind_32 E x1 x2 fu N w3 else some (t, w3, N)
def f_Fb_findKind (E : Ev) (M : Mm) (x1 : Int32) : Option (Int32 × Mm) :=
  (f_Bx_everybody E M).bind fun (r0, M0) =>
  (f_Po_open E M0 r0).bind fun M1 =>
  (f_Po_bestBy E M1 x1).bind fun (r2, M2) =>
  (if r2 = (-1) then
  some ((-1), M2)
  else
  (l_Fb_findKind_32 E x1 r2 FU M2 0).bind fun (t8, v8_3, M8) =>
  (if t8 = 1 then
  some (v8_3, M8)
  else (if t8 = 2 then
  some ((-1), M8)
  else none)))
def f_B_gain (E : Ev) (M : Mm) (x1 : Int32) : Option (Int32 × Mm) :=
  (f_B_needRange E M x1 0 4).bind fun M0 =>
  (f_B_needFewCandidates E M0).bind fun M1 =>
  (f_Fb_findKind E M1 x1).bind fun (r2, M2) =>
  some (r2, M2)
def B_gainAt_j34 (E : Ev) (M : Mm) (x2 : Int32) (y0 : Int32) (y1 : Int32) : Option (Int32 × Mm) :=
  (f_B_needPlace E M y1 y0).bind fun M3 =>
  ck (inb x2 5) <|
  some ((M3.1 52 x2.toNatClampNeg), M3)
def f_B_gainAt (E : Ev) (M : Mm) (x1 : Int32) (x2 : Int32) : Option (Int32 × Mm) :=
  (f_B_needRange E M x1 0 4).bind fun M0 =>
  (f_B_needFewCandidates E M0).bind fun M1 =>
  (f_Fb_findKind E M1 x1).bind fun (r2, M2) =>
  (if r2 = (-1) then
  B_gainAt_j34 E M2 x2 0 x2
  else
  B_gainAt_j34 E M2 x2 (M2.1 2 2) x2)
def f_B_greatestDistrict (E : Ev) (M : Mm) (x1 : Int32) : Option (Int32 × Mm) :=
  (f_B_needRange E M x1 1 (M.1 219 0)).bind fun M0 =>
  (f_Wa_divide E M0 x1).bind fun (r1, M1) =>
  some (r1, M1)
def f_B_kindAt (E : Ev) (M : Mm) (x1 : Int32) (x2 : Int32) (x3 : Int32) : Option (Int32 × Mm) :=
  (f_B_needIndex E M x1 (M.1 2 3)).bind fun M0 =>
  (f_B_needIndex E M0 x2 (M0.1 2 2)).bind fun M1 =>
  (if x3 = 0 then
  ck (inb x1 31) <|
  some ((((M1.1 6 x1.toNatClampNeg) >>> (x2 &&& 31)) &&& (1 : Int32)), M1)
  else
  (f_Bx_rankOf E M1 x1 x2).bind fun (r3, M3) =>
  some (r3, M3))
def f_Li_append (E : Ev) (M : Mm) (x1 : Int32) : Option (Int32 × Mm) :=
  ck (inb (M.1 53 0) 8) <|
  ck (inb (M.1 53 0) 8) <|
  ck (inb (M.1 53 0) 8) <|
  nb (u2 (u2 (u2 M 54 (M.1 53 0).toNatClampNeg x1) 55 (M.1 53 0).toNatClampNeg 0) 56 (M.1 53 0).toNatClampNeg (M.1 53 0)) fun (M3 : Mm) =>
  some ((M.1 53 0), (u2 M3 53 0 ((M3.1 53 0) + (1 : Int32))))
def f_B_list (E : Ev) (M : Mm) (x1 : Int32) : Option (Int32 × Mm) :=
  (f_B_needRange E M x1 0 10000000).bind fun M0 =>
  (f_B_needRoom E M0 ((M0.1 53 0) + (1 : Int32)) 8).bind fun M1 =>
  (f_Li_append E M1 x1).bind fun (r2, M2) =>
  (f_B_remember E M2 5 r2 0).bind fun M3 =>
  some (r2, M3)
def f_Cl_append (E : Ev) (M : Mm) (x1 : Int32) : Option (Int32 × Mm) :=
  ck (inb (M.1 243 0) 12) <|
  nb (u2 (u2 M 244 (M.1 243 0).toNatClampNeg x1) 243 0 (((u2 M 244 (M.1 243 0).toNatClampNeg x1).1 243 0) + (1 : Int32))) fun (M1 : Mm) =>
  some ((M.1 243 0), M1)
def f_B_member (E : Ev) (M : Mm) (x1 : Int32) : Option (Int32 × Mm) :=
  (f_B_needRange E M x1 0 1000).bind fun M0 =>
  (f_B_needRoom E M0 ((M0.1 243 0) + (1 : Int32)) 12).bind fun M1 =>
  (f_Cl_append E M1 x1).bind fun (r2, M2) =>
  (f_B_remember E M2 11 r2 0).bind fun M3 =>
  some (r2, M3)
def f_B_ordersTurned (E : Ev) (M : Mm) (x1 : Int32) : Option (Int64 × Mm) :=
  (f_B_needIndex E M x1 (M.1 243 0)).bind fun M0 =>
  (f_Cl_findSums E M0).bind fun M1 =>
  (f_Cl_ordersTurnedBy E M1 x1).bind fun (r2, M2) =>
  some (r2, M2)
def f_B_outputByte (E : Ev) (M : Mm) (x1 : Int32) : Option (Int32 × Mm) :=
  (if x1 < 0 then
  some ((-1), M)
  else
  (if x1 < (M.1 1 13) then
  ck (inb x1 240) <|
  some ((M.1 249 x1.toNatClampNeg), M)
  else
  some ((-1), M)))
def f_B_pathWinners (E : Ev) (M : Mm) : Option (Int32 × Mm) :=
  (f_Bx_everybody E M).bind fun (r0, M0) =>
  (f_Po_open E M0 r0).bind fun M1 =>
  (f_Po_winnersByPaths E M1).bind fun (r2, M2) =>
  some (r2, M2)
def f_B_quota (E : Ev) (M : Mm) : Option (Int32 × Mm) :=
  (f_Co_latest E M).bind fun (r0, M0) =>
  (match r0 with
  | none =>
  some ((-1), M0)
  | some p0 =>
  ck (isCt E p0) <|
  some ((M0.1 p0 0), M0))
def B_seatAt_j24 (E : Ev) (M : Mm) (x1 : Int32) (q2 : Nat) (y0 : Int32) (y1 : Int32) : Option (Int32 × Mm) :=
  ck (isKs E q2) <|
  (f_B_needPlace E M y1 y0).bind fun M1 =>
  ck (inb x1 60) <|
  some ((M1.1 (q2 + 1) x1.toNatClampNeg), M1)
def f_B_seatAt (E : Ev) (M : Mm) (x1 : Int32) : Option (Int32 × Mm) :=
  (f_Li_latest E M).bind fun (r0, M0) =>
  ck (isKs E r0) <|
  (if (M0.1 r0 1) = 0 then
  B_seatAt_j24 E M0 x1 r0 (M0.1 r0 0) x1
  else
  B_seatAt_j24 E M0 x1 r0 0 x1)
def f_Di_clear (E : Ev) (M : Mm) (p0 : Nat) : Option Mm :=
  ck (isDi E p0) <|
  some (u2 (u2 M p0 0 0) p0 1 0)
def f_Li_isSameUnit (E : Ev) (M : Mm) (x1 : Int32) (x2 : Int32) : Option (Int32 × Mm) :=
  (if x1 = x2 then
  some (1, M)
  else
  ck (inb x1 8) <|
  (if (M.1 55 x1.toNatClampNeg) ≤ 0 then
  some (0, M)
  else
  ck (inb x1 8) <|
  ck (inb x2 8) <|
  (if (M.1 55 x1.toNatClampNeg) = (M.1 55 x2.toNatClampNeg) then
  some (1, M)
  else
  some (0, M))))
def Li_isFirstOfUnit_2b (E : Ev) (M : Mm) (x1 : Int32) (x2 : Int32) : Option (Nat × Int32 × Mm) :=
  (if x1 ≤ x2 then
  some (2, x2, M)
  else
  (f_Li_isSameUnit E M x1 x2).bind fun (r0, M0) =>
  (if r0 = 0 then
  some (0, (x2 + 1), M0)
  else
  some (1, x2, M0)))
def l_Li_isFirstOfUnit_2 (E : Ev) (x1 : Int32) : Nat → Mm → Int32 → Option (Nat × Int32 × Mm)
  | 0, _, _ => none
  | fu + 1, M, x2 => (Li_isFirstOfUnit_2b E M x1 x2).bind fun (t, w2, N) => if t = 0 then l_Li_isFirstOfUnit_2 E x1 fu N w2 else some (t, w2, N)
def f_Li_isFirstOfUnit (E : Ev) (M : Mm) (x1 : Int32) : Option (Int32 × Mm) :=
  (l_Li_isFirstOfUnit_2 E x1 FU M 0).bind fun (t1, v1_2, M1) =>
  (if t1 = 1 then
  some (0, M1)
  else (if t1 = 2 then
  some (1, M1)
  else none))
def f_Di_append (E : Ev) (M : Mm) (p0 : Nat) (x1 : Int32) (x2 : Int64) (x4 : Int32) : Option Mm :=
  ck (isDi E p0) <|
  (if 8 ≤ (M.1 p0 0) then
  some M
  else
  ck (inb (M.1 p0 0) 8) <|
  ck (inb ((u2 M (p0 + 1) (M.1 p0 0).toNatClampNeg x1).1 p0 0) 8) <|
  nb (uL (u2 M (p0 + 1) (M.1 p0 0).toNatClampNeg x1) (p0 + 2) ((u2 M (p0 + 1) (M.1 p0 0).toNatClampNeg x1).1 p0 0).toNatClampNeg x2) fun (M2 : Mm) =>
  ck (inb (M2.1 p0 0) 8) <|
  ck (inb ((u2 M2 (p0 + 3) (M2.1 p0 0).toNatClampNeg x4).1 p0 0) 8) <|
  nb (u2 (u2 M2 (p0 + 3) (M2.1 p0 0).toNatClampNeg x4) (p0 + 4) ((u2 M2 (p0 + 3) (M2.1 p0 0).toNatClampNeg x4).1 p0 0).toNatClampNeg 0) fun (M5 : Mm) =>
  some (u2 M5 p0 0 ((M5.1 p0 0) + (1 : Int32))))
def Li_appendUnit_9b (E : Ev) (M : Mm) (x1 : Int32) (x2 : Int64) (x4 : Int64) (x6 : Int32) (x7 : Int32) : Option (Nat × Int64 × Int32 × Int32 × Mm) :=
  (if (M.1 53 0) ≤ x7 then
  some (1, x4, x6, x7, M)
  else
  (f_Li_isSameUnit E M x1 x7).bind fun (r0, M0) =>
  (if r0 = 0 then
  some (0, x4, x6, (x7 + 1), M0)
  else
  ck (inb x7 8) <|
  nb ((x4 + (M0.1 54 x7.toNatClampNeg).toInt64)) fun (v2 : Int64) =>
  some (0, v2, (x6 + 1), (x7 + 1), M0)))
def l_Li_appendUnit_9 (E : Ev) (x1 : Int32) (x2 : Int64) : Nat → Mm → Int64 → Int32 → Int32 → Option (Nat × Int64 × Int32 × Int32 × Mm)
  | 0, _, _, _, _ => none
  | fu + 1, M, x4, x6, x7 => (Li_appendUnit_9b E M x1 x2 x4 x6 x7).bind fun (t, w4, w6, w7, N) => if t = 0 then l_Li_appendUnit_9 E x1 x2 fu N w4 w6 w7 else some (t, w4, w6, w7, N)
def f_Li_appendUnit (E : Ev) (M : Mm) (x1 : Int32) (x2 : Int64) : Option Mm :=
  (l_Li_appendUnit_9 E x1 x2 FU M 0 0 x1).bind fun (t3, v3_4, v3_6, v3_7, M3) =>
  ck (t3 = 1) <|
  (if (lg_cmp v3_4 0) ≤ 0 then
  some M3
  else
  (if (lg_cmp (v3_4 * (100 : Int64)) x2) < 0 then
  some M3
  else
  ck (inb x1 8) <|
  (f_Di_append E M3 57 x1 v3_4 (M3.1 56 x1.toNatClampNeg)).bind fun M5 =>
  (if (M5.1 53 6) = 0 then
  (if v3_6 ≤ 1 then
  some (u2 M5 53 6 0)
  else
  some (u2 M5 53 6 1))
  else
  some (u2 M5 53 6 1))))
def f_Di_give (E : Ev) (M : Mm) (p0 : Nat) (x1 : Int32) : Option Mm :=
  ck (isDi E p0) <|
  ck (inb x1 8) <|
  nb (((M.1 (p0 + 4) x1.toNatClampNeg) + (1 : Int32))) fun (v1 : Int32) =>
  ck (inb x1 8) <|
  (if 61 ≤ ((u2 M (p0 + 4) x1.toNatClampNeg v1).1 p0 1) then
  some (u2 M (p0 + 4) x1.toNatClampNeg v1)
  else
  ck (inb x1 8) <|
  nb (((u2 M (p0 + 4) x1.toNatClampNeg v1).1 (p0 + 1) x1.toNatClampNeg)) fun (v4 : Int32) =>
  ck (inb ((u2 M (p0 + 4) x1.toNatClampNeg v1).1 p0 1) 61) <|
  nb (u2 (u2 M (p0 + 4) x1.toNatClampNeg v1) (p0 + 6) ((u2 M (p0 + 4) x1.toNatClampNeg v1).1 p0 1).toNatClampNeg v4) fun (M6 : Mm) =>
  some (u2 M6 p0 1 ((M6.1 p0 1) + (1 : Int32))))
def f_Di_winsTie (E : Ev) (M : Mm) (p0 : Nat) (x1 : Int32) (x2 : Int32) : Option (Int32 × Mm) :=
  ck (isDi E p0) <|
  ck (inb x1 8) <|
  ck (inb x2 8) <|
  (if (lg_cmp (M.2 (p0 + 2) x1.toNatClampNeg) (M.2 (p0 + 2) x2.toNatClampNeg)) = 0 then
  ck (inb x1 8) <|
  ck (inb x2 8) <|
  (if (M.1 (p0 + 3) x1.toNatClampNeg) < (M.1 (p0 + 3) x2.toNatClampNeg) then
  some (1, M)
  else
  ck (inb x1 8) <|
  ck (inb x2 8) <|
  (if (M.1 (p0 + 3) x1.toNatClampNeg) = (M.1 (p0 + 3) x2.toNatClampNeg) then
  ck (inb x1 8) <|
  ck (inb x2 8) <|
  (if (M.1 (p0 + 1) x2.toNatClampNeg) ≤ (M.1 (p0 + 1) x1.toNatClampNeg) then
  some (0, M)
  else
  some (1, M))
  else
  some (0, M)))
  else
  ck (inb x1 8) <|
  ck (inb x2 8) <|
  (if (lg_cmp (M.2 (p0 + 2) x1.toNatClampNeg) (M.2 (p0 + 2) x2.toNatClampNeg)) ≤ 0 then
  some (0, M)
  else
  some (1, M)))
def Di_giveToGreatestRemainder_4b (E : Ev) (M : Mm) (q0 : Nat) (x1 : Int32) (x2 : Int32) : Option (Nat × Int32 × Int32 × Mm) :=
  ck (isDi E q0) <|
  (if (M.1 q0 0) ≤ x2 then
  some (1, x1, x2, M)
  else
  ck (inb x2 8) <|
  ck (inb x1 8) <|
  (if 0 < (lg_cmp (M.2 (q0 + 5) x2.toNatClampNeg) (M.2 (q0 + 5) x1.toNatClampNeg)) then
  some (0, x2, (x2 + 1), M)
  else
  ck (inb x2 8) <|
  ck (inb x1 8) <|
  (if (lg_cmp (M.2 (q0 + 5) x2.toNatClampNeg) (M.2 (q0 + 5) x1.toNatClampNeg)) = 0 then
  (f_Di_winsTie E M q0 x2 x1).bind fun (r4, M4) =>
  (if r4 = 0 then
  some (0, x1, (x2 + 1), M4)
  else
  some (0, x2, (x2 + 1), M4))
  else
  some (0, x1, (x2 + 1), M))))
def l_Di_giveToGreatestRemainder_4 (E : Ev) (q0 : Nat) : Nat → Mm → Int32 → Int32 → Option (Nat × Int32 × Int32 × Mm)
  | 0, _, _, _ => none
  | fu + 1, M, x1, x2 => (Di_giveToGreatestRemainder_4b E M q0 x1 x2).bind fun (t, w1, w2, N) => if t = 0 then l_Di_giveToGreatestRemainder_4 E q0 fu N w1 w2 else some (t, w1, w2, N)
def f_Di_giveToGreatestRemainder (E : Ev) (M : Mm) (p0 : Nat) : Option Mm :=
  ck (isDi E p0) <|
  (l_Di_giveToGreatestRemainder_4 E p0 FU M 0 1).bind fun (t5, v5_1, v5_2, M5) =>
  ck (t5 = 1) <|
  (f_Di_give E M5 p0 v5_1).bind fun M6 =>
  ck (inb v5_1 8) <|
  some (uL M6 (p0 + 5) v5_1.toNatClampNeg (-1))
def Di_distributeByRemainders_5b (E : Ev) (M : Mm) (q0 : Nat) (x1 : Int32) (x2 : Int64) (x4 : Int32) : Option (Nat × Int64 × Int32 × Mm) :=
  ck (isDi E q0) <|
  (if (M.1 q0 0) ≤ x4 then
  some (1, x2, x4, M)
  else
  ck (inb x4 8) <|
  nb ((x2 + (M.2 (q0 + 2) x4.toNatClampNeg))) fun (v1 : Int64) =>
  some (0, v1, (x4 + 1), M))
def l_Di_distributeByRemainders_5 (E : Ev) (q0 : Nat) (x1 : Int32) : Nat → Mm → Int64 → Int32 → Option (Nat × Int64 × Int32 × Mm)
  | 0, _, _, _ => none
  | fu + 1, M, x2, x4 => (Di_distributeByRemainders_5b E M q0 x1 x2 x4).bind fun (t, w2, w4, N) => if t = 0 then l_Di_distributeByRemainders_5 E q0 x1 fu N w2 w4 else some (t, w2, w4, N)
def Di_distributeByRemainders_89b (E : Ev) (M : Mm) (q0 : Nat) (x1 : Int32) (x2 : Int64) (x4 : Int32) (x5 : Int32) (x6 : Int32) (x7 : Int32) : Option (Nat × Int32 × Mm) :=
  ck (isDi E q0) <|
  (if x6 ≤ x7 then
  some (1, x7, M)
  else
  (f_Di_give E M q0 x5).bind fun M10 =>
  some (0, (x7 + 1), M10))
def l_Di_distributeByRemainders_89 (E : Ev) (q0 : Nat) (x1 : Int32) (x2 : Int64) (x4 : Int32) (x5 : Int32) (x6 : Int32) : Nat → Mm → Int32 → Option (Nat × Int32 × Mm)
  | 0, _, _ => none
  | fu + 1, M, x7 => (Di_distributeByRemainders_89b E M q0 x1 x2 x4 x5 x6 x7).bind fun (t, w7, N) => if t = 0 then l_Di_distributeByRemainders_89 E q0 x1 x2 x4 x5 x6 fu N w7 else some (t, w7, N)
def Di_distributeByRemainders_43b (E : Ev) (M : Mm) (q0 : Nat) (x1 : Int32) (x2 : Int64) (x4 : Int32) (x5 : Int32) : Option (Nat × Int32 × Int32 × Mm) :=
  ck (isDi E q0) <|
  (if (M.1 q0 0) ≤ x5 then
  some (1, x4, x5, M)
  else
  ck (inb x5 8) <|
  ck (¬ x2 = 0) <|
  nb ((((M.2 (q0 + 2) x5.toNatClampNeg) * x1.toInt64) / x2).toInt32) fun (v5 : Int32) =>
  ck (inb x5 8) <|
  ck (¬ x2 = 0) <|
  nb ((rmL ((M.2 (q0 + 2) x5.toNatClampNeg) * x1.toInt64) x2)) fun (v8 : Int64) =>
  ck (inb x5 8) <|
  (l_Di_distributeByRemainders_89 E q0 x1 x2 x4 x5 v5 FU (uL M (q0 + 5) x5.toNatClampNeg v8) 0).bind fun (t11, v11_7, M11) =>
  ck (t11 = 1) <|
  some (0, (x4 + v5), (x5 + 1), M11))
def l_Di_distributeByRemainders_43 (E : Ev) (q0 : Nat) (x1 : Int32) (x2 : Int64) : Nat → Mm → Int32 → Int32 → Option (Nat × Int32 × Int32 × Mm)
  | 0, _, _, _ => none
  | fu + 1, M, x4, x5 => (Di_distributeByRemainders_43b E M q0 x1 x2 x4 x5).bind fun (t, w4, w5, N) => if t = 0 then l_Di_distributeByRemainders_43 E q0 x1 x2 fu N w4 w5 else some (t, w4, w5, N)
def Di_distributeByRemainders_125b (E : Ev) (M : Mm) (q0 : Nat) (x1 : Int32) (x5 : Int32) : Option (Nat × Int32 × Mm) :=
  ck (isDi E q0) <|
  (if x1 ≤ x5 then
  some (1, x5, M)
  else
  (f_Di_giveToGreatestRemainder E M q0).bind fun M13 =>
  some (0, (x5 + 1), M13))
def l_Di_distributeByRemainders_125 (E : Ev) (q0 : Nat) (x1 : Int32) : Nat → Mm → Int32 → Option (Nat × Int32 × Mm)
  | 0, _, _ => none
  | fu + 1, M, x5 => (Di_distributeByRemainders_125b E M q0 x1 x5).bind fun (t, w5, N) => if t = 0 then l_Di_distributeByRemainders_125 E q0 x1 fu N w5 else some (t, w5, N)
def f_Di_distributeByRemainders (E : Ev) (M : Mm) (p0 : Nat) (x1 : Int32) : Option Mm :=
  ck (isDi E p0) <|
  (l_Di_distributeByRemainders_5 E p0 x1 FU M 0 0).bind fun (t2, v2_2, v2_4, M2) =>
  ck (t2 = 1) <|
  (if (lg_cmp v2_2 0) = 0 then
  some M2
  else
  (l_Di_distributeByRemainders_43 E p0 x1 v2_2 FU M2 0 0).bind fun (t12, v12_4, v12_5, M12) =>
  ck (t12 = 1) <|
  (l_Di_distributeByRemainders_125 E p0 x1 FU M12 v12_4).bind fun (t14, v14_5, M14) =>
  ck (t14 = 1) <|
  some M14)
def f_Di_divisor (E : Ev) (M : Mm) (p0 : Nat) (x1 : Int32) (x2 : Int32) : Option (Int64 × Mm) :=
  ck (isDi E p0) <|
  (if x1 = 0 then
  some ((x2 + (1 : Int32)).toInt64, M)
  else
  (if x1 = 1 then
  some ((((2 : Int32) * x2) + (1 : Int32)).toInt64, M)
  else
  (if x1 = 2 then
  (if x2 = 0 then
  some (14, M)
  else
  some ((((20 : Int32) * x2) + (10 : Int32)).toInt64, M))
  else
  (if x1 = 3 then
  some ((((3 : Int32) * x2) + (1 : Int32)).toInt64, M)
  else
  some ((x2 + (2 : Int32)).toInt64, M)))))
def f_Di_hasGreaterQuotient (E : Ev) (M : Mm) (p0 : Nat) (x1 : Int32) (x2 : Int32) (x3 : Int32) : Option (Int32 × Mm) :=
  ck (isDi E p0) <|
  ck (inb x1 8) <|
  ck (inb x2 8) <|
  (f_Di_divisor E M p0 x3 (M.1 (p0 + 4) x2.toNatClampNeg)).bind fun (r2, M2) =>
  nb (((M.2 (p0 + 2) x1.toNatClampNeg) * r2)) fun (v3 : Int64) =>
  ck (inb x2 8) <|
  ck (inb x1 8) <|
  (f_Di_divisor E M2 p0 x3 (M2.1 (p0 + 4) x1.toNatClampNeg)).bind fun (r6, M6) =>
  nb (((M2.2 (p0 + 2) x2.toNatClampNeg) * r6)) fun (v7 : Int64) =>
  (if 0 < (lg_cmp v3 v7) then
  some (1, M6)
  else
  (if (lg_cmp v3 v7) = 0 then
  (f_Di_winsTie E M6 p0 x1 x2).bind fun (r8, M8) =>
  (if r8 = 0 then
  some (0, M8)
  else
  some (1, M8))
  else
  some (0, M6)))
def Di_distribute_32b (E : Ev) (M : Mm) (q0 : Nat) (x1 : Int32) (x2 : Int32) (x3 : Int32) (x4 : Int32) (x5 : Int32) : Option (Nat × Int32 × Int32 × Mm) :=
  ck (isDi E q0) <|
  (if (M.1 q0 0) ≤ x5 then
  some (1, x4, x5, M)
  else
  (f_Di_hasGreaterQuotient E M q0 x5 x4 x1).bind fun (r0, M0) =>
  (if r0 = 0 then
  some (0, x4, (x5 + 1), M0)
  else
  some (0, x5, (x5 + 1), M0)))
def l_Di_distribute_32 (E : Ev) (q0 : Nat) (x1 : Int32) (x2 : Int32) (x3 : Int32) : Nat → Mm → Int32 → Int32 → Option (Nat × Int32 × Int32 × Mm)
  | 0, _, _, _ => none
  | fu + 1, M, x4, x5 => (Di_distribute_32b E M q0 x1 x2 x3 x4 x5).bind fun (t, w4, w5, N) => if t = 0 then l_Di_distribute_32 E q0 x1 x2 x3 fu N w4 w5 else some (t, w4, w5, N)
def Di_distribute_21b (E : Ev) (M : Mm) (q0 : Nat) (x1 : Int32) (x2 : Int32) (x3 : Int32) : Option (Nat × Int32 × Mm) :=
  ck (isDi E q0) <|
  (if x2 ≤ x3 then
  some (1, x3, M)
  else
  (l_Di_distribute_32 E q0 x1 x2 x3 FU M 0 1).bind fun (t1, v1_4, v1_5, M1) =>
  ck (t1 = 1) <|
  (f_Di_give E M1 q0 v1_4).bind fun M2 =>
  some (0, (x3 + 1), M2))
def l_Di_distribute_21 (E : Ev) (q0 : Nat) (x1 : Int32) (x2 : Int32) : Nat → Mm → Int32 → Option (Nat × Int32 × Mm)
  | 0, _, _ => none
  | fu + 1, M, x3 => (Di_distribute_21b E M q0 x1 x2 x3).bind fun (t, w3, N) => if t = 0 then l_Di_distribute_21 E q0 x1 x2 fu N w3 else some (t, w3, N)
def f_Di_distribute (E : Ev) (M : Mm) (p0 : Nat) (x1 : Int32) (x2 : Int32) : Option Mm :=
  ck (isDi E p0) <|
  (if (M.1 p0 0) = 0 then
  some M
  else
  (if x1 = 5 then
  (f_Di_distributeByRemainders E M p0 x2).bind fun M4 =>
  some M4
  else
  (l_Di_distribute_21 E p0 x1 x2 FU M 0).bind fun (t3, v3_3, M3) =>
  ck (t3 = 1) <|
  some M3))
def Li_spreadInside_10b (E : Ev) (M : Mm) (x1 : Int32) (x2 : Int32) (x3 : Int32) (x4 : Int32) : Option (Nat × Int32 × Mm) :=
  (if (M.1 53 0) ≤ x4 then
  some (1, x4, M)
  else
  (f_Li_isSameUnit E M x1 x4).bind fun (r1, M1) =>
  (if r1 = 0 then
  some (0, (x4 + 1), M1)
  else
  ck (inb x4 8) <|
  (if (M1.1 54 x4.toNatClampNeg) ≤ 0 then
  some (0, (x4 + 1), M1)
  else
  ck (inb x4 8) <|
  ck (inb x4 8) <|
  (f_Di_append E M1 64 x4 (M1.1 54 x4.toNatClampNeg).toInt64 (M1.1 56 x4.toNatClampNeg)).bind fun M5 =>
  some (0, (x4 + 1), M5))))
def l_Li_spreadInside_10 (E : Ev) (x1 : Int32) (x2 : Int32) (x3 : Int32) : Nat → Mm → Int32 → Option (Nat × Int32 × Mm)
  | 0, _, _ => none
  | fu + 1, M, x4 => (Li_spreadInside_10b E M x1 x2 x3 x4).bind fun (t, w4, N) => if t = 0 then l_Li_spreadInside_10 E x1 x2 x3 fu N w4 else some (t, w4, N)
def Li_spreadInside_81b (E : Ev) (M : Mm) (x4 : Int32) : Option (Nat × Int32 × Mm) :=
  (if (M.1 64 0) ≤ x4 then
  some (1, x4, M)
  else
  ck (inb x4 8) <|
  ck (inb x4 8) <|
  ck (inb (M.1 65 x4.toNatClampNeg) 8) <|
  some (0, (x4 + 1), (u2 M 71 (M.1 65 x4.toNatClampNeg).toNatClampNeg (M.1 68 x4.toNatClampNeg))))
def l_Li_spreadInside_81 (E : Ev) : Nat → Mm → Int32 → Option (Nat × Int32 × Mm)
  | 0, _, _ => none
  | fu + 1, M, x4 => (Li_spreadInside_81b E M x4).bind fun (t, w4, N) => if t = 0 then l_Li_spreadInside_81 E fu N w4 else some (t, w4, N)
def f_Li_spreadInside (E : Ev) (M : Mm) (x1 : Int32) (x2 : Int32) (x3 : Int32) : Option Mm :=
  (f_Di_clear E M 64).bind fun M0 =>
  (l_Li_spreadInside_10 E x1 x2 x3 FU M0 x1).bind fun (t6, v6_4, M6) =>
  ck (t6 = 1) <|
  (f_Di_distribute E M6 64 x2 x3).bind fun M7 =>
  (l_Li_spreadInside_81 E FU M7 0).bind fun (t11, v11_4, M11) =>
  ck (t11 = 1) <|
  some M11
def Li_spread_6b (E : Ev) (M : Mm) (x1 : Int32) (x2 : Int32) (x3 : Int32) (x4 : Int64) (x6 : Int32) : Option (Nat × Int64 × Int32 × Mm) :=
  (if (M.1 53 0) ≤ x6 then
  some (1, x4, x6, M)
  else
  ck (inb x6 8) <|
  nb ((x4 + (M.1 54 x6.toNatClampNeg).toInt64)) fun (v1 : Int64) =>
  some (0, v1, (x6 + 1), M))
def l_Li_spread_6 (E : Ev) (x1 : Int32) (x2 : Int32) (x3 : Int32) : Nat → Mm → Int64 → Int32 → Option (Nat × Int64 × Int32 × Mm)
  | 0, _, _, _ => none
  | fu + 1, M, x4, x6 => (Li_spread_6b E M x1 x2 x3 x4 x6).bind fun (t, w4, w6, N) => if t = 0 then l_Li_spread_6 E x1 x2 x3 fu N w4 w6 else some (t, w4, w6, N)
def Li_spread_49b (E : Ev) (M : Mm) (x1 : Int32) (x2 : Int32) (x3 : Int32) (x4 : Int64) (x6 : Int32) : Option (Nat × Int32 × Mm) :=
  (if (M.1 53 0) ≤ x6 then
  some (1, x6, M)
  else
  (f_Li_isFirstOfUnit E M x6).bind fun (r4, M4) =>
  (if r4 = 0 then
  some (0, (x6 + 1), M4)
  else
  (f_Li_appendUnit E M4 x6 (x3.toInt64 * x4)).bind fun M5 =>
  some (0, (x6 + 1), M5)))
def l_Li_spread_49 (E : Ev) (x1 : Int32) (x2 : Int32) (x3 : Int32) (x4 : Int64) : Nat → Mm → Int32 → Option (Nat × Int32 × Mm)
  | 0, _, _ => none
  | fu + 1, M, x6 => (Li_spread_49b E M x1 x2 x3 x4 x6).bind fun (t, w6, N) => if t = 0 then l_Li_spread_49 E x1 x2 x3 x4 fu N w6 else some (t, w6, N)
def Li_spread_104b (E : Ev) (M : Mm) (x1 : Int32) (x6 : Int32) : Option (Nat × Int32 × Mm) :=
  (if (M.1 57 0) ≤ x6 then
  some (1, x6, M)
  else
  ck (inb x6 8) <|
  ck (inb x6 8) <|
  (f_Li_spreadInside E M (M.1 58 x6.toNatClampNeg) x1 (M.1 61 x6.toNatClampNeg)).bind fun M11 =>
  some (0, (x6 + 1), M11))
def l_Li_spread_104 (E : Ev) (x1 : Int32) : Nat → Mm → Int32 → Option (Nat × Int32 × Mm)
  | 0, _, _ => none
  | fu + 1, M, x6 => (Li_spread_104b E M x1 x6).bind fun (t, w6, N) => if t = 0 then l_Li_spread_104 E x1 fu N w6 else some (t, w6, N)
def f_Li_spread (E : Ev) (M : Mm) (x1 : Int32) (x2 : Int32) (x3 : Int32) : Option (Int32 × Mm) :=
  (l_Li_spread_6 E x1 x2 x3 FU M 0 0).bind fun (t2, v2_4, v2_6, M2) =>
  ck (t2 = 1) <|
  (f_Di_clear E M2 57).bind fun M3 =>
  (l_Li_spread_49 E x1 x2 x3 v2_4 FU (u2 M3 53 6 0) 0).bind fun (t6, v6_6, M6) =>
  ck (t6 = 1) <|
  (f_Di_distribute E M6 57 x1 x2).bind fun M7 =>
  (f_Ar_fillI E M7 71 0).bind fun M8 =>
  (l_Li_spread_104 E x1 FU M8 0).bind fun (t12, v12_6, M12) =>
  ck (t12 = 1) <|
  some ((M12.1 57 0), M12)
def f_Li_keepSpread (E : Ev) (M : Mm) : Option Mm :=
  ck (inb ((u2 M 53 10 (rmI ((M.1 53 10) + (1 : Int32)) (21 : Int32))).1 53 10) 21) <|
  nb ((mnI ((u2 M 53 10 (rmI ((M.1 53 10) + (1 : Int32)) (21 : Int32))).1 57 1) 60)) fun (v1 : Int32) =>
  nb (u2 (u2 M 53 10 (rmI ((M.1 53 10) + (1 : Int32)) (21 : Int32))) (74 + 5 * ((u2 M 53 10 (rmI ((M.1 53 10) + (1 : Int32)) (21 : Int32))).1 53 10).toNatClampNeg) 0 v1) fun (M2 : Mm) =>
  ck ((M2.1 53 6) = 0 ∨ (M2.1 53 6) = 1) <|
  nb (u2 M2 (74 + 5 * ((u2 M 53 10 (rmI ((M.1 53 10) + (1 : Int32)) (21 : Int32))).1 53 10).toNatClampNeg) 1 (M2.1 53 6)) fun (M4 : Mm) =>
  nb (u2 M4 (74 + 5 * ((u2 M 53 10 (rmI ((M.1 53 10) + (1 : Int32)) (21 : Int32))).1 53 10).toNatClampNeg) 2 (M4.1 53 0)) fun (M5 : Mm) =>
  ck (¬ (0 : Int32) < 0 ∧ ¬ (0 : Int32) < 0 ∧ ¬ (M5.1 (74 + 5 * ((u2 M 53 10 (rmI ((M.1 53 10) + (1 : Int32)) (21 : Int32))).1 53 10).toNatClampNeg) 0) < 0 ∧ (0 : Int32).toNatClampNeg + (M5.1 (74 + 5 * ((u2 M 53 10 (rmI ((M.1 53 10) + (1 : Int32)) (21 : Int32))).1 53 10).toNatClampNeg) 0).toNatClampNeg ≤ 61 ∧ (0 : Int32).toNatClampNeg + (M5.1 (74 + 5 * ((u2 M 53 10 (rmI ((M.1 53 10) + (1 : Int32)) (21 : Int32))).1 53 10).toNatClampNeg) 0).toNatClampNeg ≤ 60) <|
  nb (uA M5 ((74 + 5 * ((u2 M 53 10 (rmI ((M.1 53 10) + (1 : Int32)) (21 : Int32))).1 53 10).toNatClampNeg) + 1) (va_cpy (M5.1 63) (M5.1 ((74 + 5 * ((u2 M 53 10 (rmI ((M.1 53 10) + (1 : Int32)) (21 : Int32))).1 53 10).toNatClampNeg) + 1)) (0 : Int32).toNatClampNeg (0 : Int32).toNatClampNeg (M5.1 (74 + 5 * ((u2 M 53 10 (rmI ((M.1 53 10) + (1 : Int32)) (21 : Int32))).1 53 10).toNatClampNeg) 0).toNatClampNeg)) fun (M7 : Mm) =>
  ck (¬ (0 : Int32) < 0 ∧ ¬ (0 : Int32) < 0 ∧ ¬ (8 : Int32) < 0 ∧ (0 : Int32).toNatClampNeg + (8 : Int32).toNatClampNeg ≤ 8 ∧ (0 : Int32).toNatClampNeg + (8 : Int32).toNatClampNeg ≤ 8) <|
  nb (uA M7 ((74 + 5 * ((u2 M 53 10 (rmI ((M.1 53 10) + (1 : Int32)) (21 : Int32))).1 53 10).toNatClampNeg) + 2) (va_cpy (M7.1 71) (M7.1 ((74 + 5 * ((u2 M 53 10 (rmI ((M.1 53 10) + (1 : Int32)) (21 : Int32))).1 53 10).toNatClampNeg) + 2)) (0 : Int32).toNatClampNeg (0 : Int32).toNatClampNeg (8 : Int32).toNatClampNeg)) fun (M9 : Mm) =>
  ck (¬ (0 : Int32) < 0 ∧ ¬ (0 : Int32) < 0 ∧ ¬ (8 : Int32) < 0 ∧ (0 : Int32).toNatClampNeg + (8 : Int32).toNatClampNeg ≤ 8 ∧ (0 : Int32).toNatClampNeg + (8 : Int32).toNatClampNeg ≤ 8) <|
  nb (uA M9 ((74 + 5 * ((u2 M 53 10 (rmI ((M.1 53 10) + (1 : Int32)) (21 : Int32))).1 53 10).toNatClampNeg) + 3) (va_cpy (M9.1 54) (M9.1 ((74 + 5 * ((u2 M 53 10 (rmI ((M.1 53 10) + (1 : Int32)) (21 : Int32))).1 53 10).toNatClampNeg) + 3)) (0 : Int32).toNatClampNeg (0 : Int32).toNatClampNeg (8 : Int32).toNatClampNeg)) fun (M11 : Mm) =>
  ck (¬ (0 : Int32) < 0 ∧ ¬ (0 : Int32) < 0 ∧ ¬ (8 : Int32) < 0 ∧ (0 : Int32).toNatClampNeg + (8 : Int32).toNatClampNeg ≤ 8 ∧ (0 : Int32).toNatClampNeg + (8 : Int32).toNatClampNeg ≤ 8) <|
  nb (uA M11 ((74 + 5 * ((u2 M 53 10 (rmI ((M.1 53 10) + (1 : Int32)) (21 : Int32))).1 53 10).toNatClampNeg) + 4) (va_cpy (M11.1 55) (M11.1 ((74 + 5 * ((u2 M 53 10 (rmI ((M.1 53 10) + (1 : Int32)) (21 : Int32))).1 53 10).toNatClampNeg) + 4)) (0 : Int32).toNatClampNeg (0 : Int32).toNatClampNeg (8 : Int32).toNatClampNeg)) fun (M13 : Mm) =>
  some M13
def f_B_seats (E : Ev) (M : Mm) (x1 : Int32) (x2 : Int32) (x3 : Int32) : Option (Int32 × Mm) :=
  (f_B_needRange E M x1 0 5).bind fun M0 =>
  (f_B_needRange E M0 x2 1 60).bind fun M1 =>
  (f_B_needRange E M1 x3 0 20).bind fun M2 =>
  (f_Li_spread E M2 x1 x2 x3).bind fun (r3, M3) =>
  (f_Li_keepSpread E M3).bind fun M4 =>
  (f_B_remember E M4 8 0 0).bind fun M5 =>
  some (r3, M5)
def f_B_seatsOf (E : Ev) (M : Mm) (x1 : Int32) : Option (Int32 × Mm) :=
  (f_B_needIndex E M x1 (M.1 53 0)).bind fun M0 =>
  (f_Li_latest E M0).bind fun (r1, M1) =>
  ck (isKs E r1) <|
  ck (inb x1 8) <|
  some ((M1.1 (r1 + 2) x1.toNatClampNeg), M1)
def B_setLot_j76 (E : Ev) (M : Mm) (x2 : Int32) (x5 : Int32) (y0 : Int32) : Option (Int32 × Mm) :=
  (f_B_remember E M y0 x2 x5).bind fun M4 =>
  some (x5, M4)
def B_setLot_j53 (E : Ev) (M : Mm) (x1 : Int32) (x2 : Int32) (x3 : Int32) (y0 : Nat) : Option (Int32 × Mm) :=
  ck (isIA E y0) <|
  ck (inb x2 (E.2.1 y0).2) <|
  ck (inb x2 (E.2.1 y0).2) <|
  (if x1 = 0 then
  B_setLot_j76 E (u2 M y0 x2.toNatClampNeg x3) x2 (M.1 y0 x2.toNatClampNeg) 1
  else
  B_setLot_j76 E (u2 M y0 x2.toNatClampNeg x3) x2 (M.1 y0 x2.toNatClampNeg) 2)
def B_setLot_j22 (E : Ev) (M : Mm) (x1 : Int32) (x2 : Int32) (x3 : Int32) (y0 : Int32) (y1 : Int32) : Option (Int32 × Mm) :=
  (f_B_needIndex E M y1 y0).bind fun M0 =>
  (f_B_needRange E M0 x3 0 99).bind fun M1 =>
  (if x1 = 0 then
  B_setLot_j53 E M1 x1 x2 x3 4
  else
  B_setLot_j53 E M1 x1 x2 x3 56)
def f_B_setLot (E : Ev) (M : Mm) (x1 : Int32) (x2 : Int32) (x3 : Int32) : Option (Int32 × Mm) :=
  (if x1 = 0 then
  B_setLot_j22 E M x1 x2 x3 (M.1 2 2) x2
  else
  B_setLot_j22 E M x1 x2 x3 (M.1 53 0) x2)
def f_B_setQuota (E : Ev) (M : Mm) (x1 : Int32) : Option (Int32 × Mm) :=
  (f_B_needRange E M x1 1 12000).bind fun M0 =>
  (f_B_remember E (u2 M0 243 1 x1) 12 0 (M0.1 243 1)).bind fun M1 =>
  some ((M0.1 243 1), M1)
def f_B_solidQuotas (E : Ev) (M : Mm) (x1 : Int32) : Option (Int32 × Mm) :=
  (f_Bx_everybody E M).bind fun (r0, M0) =>
  (f_B_needRange E M0 x1 1 r0).bind fun M1 =>
  (f_Co_latest E M1).bind fun (r2, M2) =>
  (match r2 with
  | none =>
  none
  | some p2 =>
  ck (isCt E p2) <|
  (if 1 ≤ (M2.1 p2 0) then
  (f_Bx_everybody E M2).bind fun (r3, M3) =>
  (f_Bx_findSupport E M3 5 (M2.1 2 3) r3).bind fun M4 =>
  ck (inb x1 256) <|
  ck (¬ (M4.1 p2 0) = 0) <|
  (f_In_bitCount E M4 x1).bind fun (r7, M7) =>
  nb ((mnI ((M4.1 40 x1.toNatClampNeg) / (M4.1 p2 0)) r7)) fun (v8 : Int32) =>
  some (v8, M7)
  else
  none))
def f_B_steps (E : Ev) (M : Mm) : Option (Int32 × Mm) :=
  (f_Co_latest E M).bind fun (r0, M0) =>
  (match r0 with
  | none =>
  some (0, M0)
  | some p0 =>
  ck (isCt E p0) <|
  some (((M0.1 p0 4) + (M0.1 p0 5)), M0))
def f_B_strongestPath (E : Ev) (M : Mm) (x1 : Int32) (x2 : Int32) : Option (Int32 × Mm) :=
  (f_B_needIndex E M x1 (M.1 2 2)).bind fun M0 =>
  (f_B_needIndex E M0 x2 (M0.1 2 2)).bind fun M1 =>
  (f_Bx_everybody E M1).bind fun (r2, M2) =>
  (f_Po_open E M2 r2).bind fun M3 =>
  (f_Po_findPaths E M3).bind fun M4 =>
  (f_Po_path E M4 x1 x2).bind fun (r5, M5) =>
  some (r5, M5)
def Cl_setsSwungBy_4b (E : Ev) (M : Mm) (x1 : Int32) (x2 : Int32) (x3 : Int32) : Option (Nat × Int32 × Int32 × Mm) :=
  (if ((1 : Int32) <<< ((M.1 243 0) &&& 31)) ≤ x3 then
  some (1, x2, x3, M)
  else
  (f_Cl_isSwung E M x3 x1).bind fun (r0, M0) =>
  (if r0 = 0 then
  some (0, x2, (x3 + 1), M0)
  else
  some (0, (x2 + 1), (x3 + 1), M0)))
def l_Cl_setsSwungBy_4 (E : Ev) (x1 : Int32) : Nat → Mm → Int32 → Int32 → Option (Nat × Int32 × Int32 × Mm)
  | 0, _, _, _ => none
  | fu + 1, M, x2, x3 => (Cl_setsSwungBy_4b E M x1 x2 x3).bind fun (t, w2, w3, N) => if t = 0 then l_Cl_setsSwungBy_4 E x1 fu N w2 w3 else some (t, w2, w3, N)
def f_Cl_setsSwungBy (E : Ev) (M : Mm) (x1 : Int32) : Option (Int32 × Mm) :=
  (l_Cl_setsSwungBy_4 E x1 FU M 0 0).bind fun (t1, v1_2, v1_3, M1) =>
  ck (t1 = 1) <|
  some (v1_2, M1)
def f_B_swings (E : Ev) (M : Mm) (x1 : Int32) : Option (Int32 × Mm) :=
  (f_B_needIndex E M x1 (M.1 243 0)).bind fun M0 =>
  (f_Cl_findSums E M0).bind fun M1 =>
  (f_Cl_setsSwungBy E M1 x1).bind fun (r2, M2) =>
  some (r2, M2)
def f_B_takeBack (E : Ev) (M : Mm) (x1 : Int32) (x2 : Int32) : Option (Int32 × Mm) :=
  (f_B_needIndex E M x1 (M.1 2 3)).bind fun M0 =>
  ck (inb x1 31) <|
  (f_B_needRange E M0 x2 1 (M0.1 5 x1.toNatClampNeg)).bind fun M2 =>
  ck (inb x1 31) <|
  (f_B_remember E M2 4 x1 (M2.1 5 x1.toNatClampNeg)).bind fun M4 =>
  ck (inb x1 31) <|
  nb (((M4.1 5 x1.toNatClampNeg) - x2)) fun (v6 : Int32) =>
  ck (inb x1 31) <|
  ck (inb x1 31) <|
  some (((u2 M4 5 x1.toNatClampNeg v6).1 5 x1.toNatClampNeg), (u2 M4 5 x1.toNatClampNeg v6))
def f_Co_goBack (E : Ev) (M : Mm) : Option Mm :=
  some (u2 M 179 2 (rmI (((M.1 179 2) + (21 : Int32)) - (1 : Int32)) (21 : Int32)))
def f_Li_takeChangeBack (E : Ev) (M : Mm) (x1 : Int32) (x2 : Int32) (x3 : Int32) : Option Mm :=
  (if x1 = 2 then
  ck (inb x2 8) <|
  some (u2 M 56 x2.toNatClampNeg x3)
  else
  (if x1 = 3 then
  some M
  else
  (if x1 = 4 then
  some M
  else
  (if x1 = 5 then
  some (u2 M 53 0 x2)
  else
  (if x1 = 6 then
  ck (inb x2 8) <|
  some (u2 M 54 x2.toNatClampNeg x3)
  else
  (if x1 = 7 then
  ck (inb x2 8) <|
  some (u2 M 55 x2.toNatClampNeg x3)
  else
  (if x1 = 8 then
  some (u2 M 53 10 (rmI (((M.1 53 10) + (21 : Int32)) - (1 : Int32)) (21 : Int32)))
  else
  some M)))))))
def f_B_takeChangeBack (E : Ev) (M : Mm) (x1 : Int32) (x2 : Int32) (x3 : Int32) : Option Mm :=
  (if x1 = 0 then
  some (u2 M 2 2 x2)
  else
  (if x1 = 1 then
  ck (inb x2 8) <|
  some (u2 M 4 x2.toNatClampNeg x3)
  else
  (if x1 = 2 then
  (f_Li_takeChangeBack E M x1 x2 x3).bind fun M2 =>
  some M2
  else
  (if x1 = 3 then
  some (u2 M 2 3 x2)
  else
  (if x1 = 4 then
  ck (inb x2 31) <|
  some (u2 M 5 x2.toNatClampNeg x3)
  else
  (if x1 = 5 then
  (f_Li_takeChangeBack E M x1 x2 x3).bind fun M4 =>
  some M4
  else
  (if x1 = 6 then
  (f_Li_takeChangeBack E M x1 x2 x3).bind fun M5 =>
  some M5
  else
  (if x1 = 7 then
  (f_Li_takeChangeBack E M x1 x2 x3).bind fun M6 =>
  some M6
  else
  (if x1 = 8 then
  (f_Li_takeChangeBack E M x1 x2 x3).bind fun M7 =>
  some M7
  else
  (if x1 = 9 then
  (f_Co_goBack E M).bind fun M8 =>
  some M8
  else
  (if x1 = 10 then
  some (u2 M 219 0 x2)
  else
  (if x1 = 11 then
  some (u2 M 243 0 x2)
  else
  (if x1 = 12 then
  some (u2 M 243 1 x3)
  else
  (f_Li_takeChangeBack E M x1 x2 x3).bind fun M9 =>
  some M9)))))))))))))
def f_Bx_appendSign (E : Ev) (M : Mm) (x1 : Int32) : Option Mm :=
  (if x1 = 0 then
  some M
  else
  (if 30 ≤ (M.1 2 1) then
  some M
  else
  ck (inb (M.1 2 1) 30) <|
  nb (u2 (u2 M 3 (M.1 2 1).toNatClampNeg x1) 2 1 (((u2 M 3 (M.1 2 1).toNatClampNeg x1).1 2 1) + (1 : Int32))) fun (M1 : Mm) =>
  some M1))
def B_type_6b (E : Ev) (M : Mm) (x1 : Int64) (x3 : Int32) (x4 : Int32) : Option (Nat × Int32 × Int32 × Mm) :=
  (if x4 < 0 then
  some (1, x3, x4, M)
  else
  (if (lg_cmp ((x1 >>> (x4.toInt64 &&& 63)) &&& (255 : Int64)) 0) = 0 then
  some (0, x3, (x4 + (-8)), M)
  else
  some (0, (x3 + 1), (x4 + (-8)), M)))
def l_B_type_6 (E : Ev) (x1 : Int64) : Nat → Mm → Int32 → Int32 → Option (Nat × Int32 × Int32 × Mm)
  | 0, _, _, _ => none
  | fu + 1, M, x3, x4 => (B_type_6b E M x1 x3 x4).bind fun (t, w3, w4, N) => if t = 0 then l_B_type_6 E x1 fu N w3 w4 else some (t, w3, w4, N)
def B_type_51b (E : Ev) (M : Mm) (x1 : Int64) (x4 : Int32) : Option (Nat × Int32 × Mm) :=
  (if x4 < 0 then
  some (1, x4, M)
  else
  (f_Bx_appendSign E M ((x1 >>> (x4.toInt64 &&& 63)) &&& (255 : Int64)).toInt32).bind fun M2 =>
  some (0, (x4 + (-8)), M2))
def l_B_type_51 (E : Ev) (x1 : Int64) : Nat → Mm → Int32 → Option (Nat × Int32 × Mm)
  | 0, _, _ => none
  | fu + 1, M, x4 => (B_type_51b E M x1 x4).bind fun (t, w4, N) => if t = 0 then l_B_type_51 E x1 fu N w4 else some (t, w4, N)
def f_B_type (E : Ev) (M : Mm) (x1 : Int64) : Option (Int32 × Mm) :=
  (l_B_type_6 E x1 FU M 0 56).bind fun (t0, v0_3, v0_4, M0) =>
  ck (t0 = 1) <|
  (f_B_needRoom E M0 ((M0.1 2 1) + v0_3) 30).bind fun M1 =>
  (l_B_type_51 E x1 FU M1 56).bind fun (t3, v3_4, M3) =>
  ck (t3 = 1) <|
  some ((M3.1 2 1), M3)
def f_B_undo (E : Ev) (M : Mm) : Option (Int32 × Mm) :=
  (if (M.1 1 11) = 0 then
  some ((-1), M)
  else
  ck (inb (M.1 1 10) 20) <|
  ck (inb (M.1 1 10) 20) <|
  ck (inb (M.1 1 10) 20) <|
  (f_B_takeChangeBack E M (M.1 246 (M.1 1 10).toNatClampNeg) (M.1 247 (M.1 1 10).toNatClampNeg) (M.1 248 (M.1 1 10).toNatClampNeg)).bind fun M3 =>
  nb (u2 (u2 M3 1 10 (rmI (((M3.1 1 10) + (20 : Int32)) - (1 : Int32)) (20 : Int32))) 1 11 (((u2 M3 1 10 (rmI (((M3.1 1 10) + (20 : Int32)) - (1 : Int32)) (20 : Int32))).1 1 11) - (1 : Int32))) fun (M4 : Mm) =>
  some ((M4.1 1 11), M4))
def f_Wa_append (E : Ev) (M : Mm) (x1 : Int32) (x2 : Int32) (x3 : Int32) : Option (Int32 × Mm) :=
  ck (inb (M.1 219 0) 16) <|
  ck (inb (M.1 219 0) 16) <|
  ck (inb (M.1 219 0) 16) <|
  nb (u2 (u2 (u2 M 220 (M.1 219 0).toNatClampNeg x1) 222 (M.1 219 0).toNatClampNeg x2) 223 (M.1 219 0).toNatClampNeg x3) fun (M3 : Mm) =>
  some ((M.1 219 0), (u2 M3 219 0 ((M3.1 219 0) + (1 : Int32))))
def f_B_ward (E : Ev) (M : Mm) (x1 : Int32) (x2 : Int32) (x3 : Int32) : Option (Int32 × Mm) :=
  (f_B_needRange E M x1 1 100000).bind fun M0 =>
  (f_B_needRange E M0 x2 0 100000).bind fun M1 =>
  (f_B_needRange E M1 x3 0 100000).bind fun M2 =>
  (f_B_needRoom E M2 ((M2.1 219 0) + (1 : Int32)) 16).bind fun M3 =>
  (f_Wa_append E M3 x1 x2 x3).bind fun (r4, M4) =>
  (f_B_remember E M4 10 r4 0).bind fun M5 =>
  some (r4, M5)
def B_wasted_32b (E : Ev) (M : Mm) (x1 : Int32) (x2 : Int32) (x3 : Int32) (x4 : Int32) : Option (Nat × Int32 × Int32 × Mm) :=
  (if x1 ≤ x4 then
  some (1, x3, x4, M)
  else
  (f_Wa_votesIn E M x4 x2).bind fun (r3, M3) =>
  (f_Wa_votesIn E M3 x4 ((1 : Int32) - x2)).bind fun (r4, M4) =>
  (if r3 ≤ r4 then
  some (0, (x3 + r3), (x4 + 1), M4)
  else
  nb ((x3 + ((r3 - ((r3 + r4) / (2 : Int32))) - (1 : Int32)))) fun (v5 : Int32) =>
  some (0, v5, (x4 + 1), M4)))
def l_B_wasted_32 (E : Ev) (x1 : Int32) (x2 : Int32) : Nat → Mm → Int32 → Int32 → Option (Nat × Int32 × Int32 × Mm)
  | 0, _, _, _ => none
  | fu + 1, M, x3, x4 => (B_wasted_32b E M x1 x2 x3 x4).bind fun (t, w3, w4, N) => if t = 0 then l_B_wasted_32 E x1 x2 fu N w3 w4 else some (t, w3, w4, N)
def f_B_wasted (E : Ev) (M : Mm) (x1 : Int32) (x2 : Int32) : Option (Int32 × Mm) :=
  (f_B_needRange E M x1 1 (M.1 219 0)).bind fun M0 =>
  (f_B_needRange E M0 x2 0 1).bind fun M1 =>
  (f_Wa_divide E M1 x1).bind fun (r2, M2) =>
  (l_B_wasted_32 E x1 x2 FU M2 0 0).bind fun (t6, v6_3, v6_4, M6) =>
  ck (t6 = 1) <|
  some (v6_3, M6)
def f_B_winner (E : Ev) (M : Mm) (x1 : Int32) : Option (Int32 × Mm) :=
  (f_B_needRange E M x1 0 4).bind fun M0 =>
  (f_Bx_everybody E M0).bind fun (r1, M1) =>
  (f_Po_open E M1 r1).bind fun M2 =>
  (f_Po_bestBy E M2 x1).bind fun (r3, M3) =>
  some (r3, M3)
def f_Na_copyFrom (E : Ev) (M : Mm) (p0 : Nat) (p1 : Nat) : Option Mm :=
  ck (isNa E p0) <|
  ck (isNa E p1) <|
  ck (¬ (0 : Int32) < 0 ∧ ¬ (0 : Int32) < 0 ∧ ¬ (M.1 p1 1) < 0 ∧ (0 : Int32).toNatClampNeg + (M.1 p1 1).toNatClampNeg ≤ 13 ∧ (0 : Int32).toNatClampNeg + (M.1 p1 1).toNatClampNeg ≤ 13) <|
  nb (uA M (p0 + 1) (va_cpy (M.1 (p1 + 1)) (M.1 (p0 + 1)) (0 : Int32).toNatClampNeg (0 : Int32).toNatClampNeg (M.1 p1 1).toNatClampNeg)) fun (M1 : Mm) =>
  some (u2 M1 p0 1 (M1.1 p1 1))
def Na_subtractMultiple_j50 (E : Ev) (M : Mm) (q0 : Nat) (q1 : Nat) (x2 : Int32) (x3 : Int64) (x7 : Int32) (y0 : Int64) (y1 : Int64) (y2 : Int64) : Option (Nat × Int64 × Int32 × Mm) :=
  ck (isNa E q0) <|
  ck (isNa E q1) <|
  nb (((y2 + (y1 - y0)) &&& (1073741823 : Int64)).toInt32) fun (v1 : Int32) =>
  ck (inb (x2 + x7) 13) <|
  nb (((y2 + (y1 - y0)) >>> ((30 : Int32).toInt64 &&& 63))) fun (v3 : Int64) =>
  some (0, v3, (x7 + 1), (u2 M (q0 + 1) (x2 + x7).toNatClampNeg v1))
def Na_subtractMultiple_6b (E : Ev) (M : Mm) (q0 : Nat) (q1 : Nat) (x2 : Int32) (x3 : Int64) (x5 : Int64) (x7 : Int32) : Option (Nat × Int64 × Int32 × Mm) :=
  ck (isNa E q0) <|
  ck (isNa E q1) <|
  (if (M.1 q1 1) < x7 then
  some (1, x5, x7, M)
  else
  ck (inb (x2 + x7) 13) <|
  (if (M.1 q1 1) ≤ x7 then
  Na_subtractMultiple_j50 E M q0 q1 x2 x3 x7 0 (M.1 (q0 + 1) (x2 + x7).toNatClampNeg).toInt64 x5
  else
  ck (inb x7 13) <|
  Na_subtractMultiple_j50 E M q0 q1 x2 x3 x7 (x3 * (M.1 (q1 + 1) x7.toNatClampNeg).toInt64) (M.1 (q0 + 1) (x2 + x7).toNatClampNeg).toInt64 x5))
def l_Na_subtractMultiple_6 (E : Ev) (q0 : Nat) (q1 : Nat) (x2 : Int32) (x3 : Int64) : Nat → Mm → Int64 → Int32 → Option (Nat × Int64 × Int32 × Mm)
  | 0, _, _, _ => none
  | fu + 1, M, x5, x7 => (Na_subtractMultiple_6b E M q0 q1 x2 x3 x5 x7).bind fun (t, w5, w7, N) => if t = 0 then l_Na_subtractMultiple_6 E q0 q1 x2 x3 fu N w5 w7 else some (t, w5, w7, N)
def f_Na_subtractMultiple (E : Ev) (M : Mm) (p0 : Nat) (p1 : Nat) (x2 : Int32) (x3 : Int64) : Option (Int64 × Mm) :=
  ck (isNa E p0) <|
  ck (isNa E p1) <|
  (l_Na_subtractMultiple_6 E p0 p1 x2 x3 FU M 0 0).bind fun (t5, v5_5, v5_7, M5) =>
  ck (t5 = 1) <|
  some (v5_5, M5)
def Na_takeMultiple_78b (E : Ev) (M : Mm) (q0 : Nat) (q1 : Nat) (x2 : Int32) (x3 : Int32) (x4 : Int64) (x8 : Int64) (x10 : Int64) (x12 : Int32) : Option (Nat × Int64 × Int64 × Int32 × Mm) :=
  ck (isNa E q0) <|
  ck (isNa E q1) <|
  (if 2 ≤ x12 then
  some (1, x8, x10, x12, M)
  else
  (if 0 < (lg_cmp x10 1073741823) then
  some (1, x8, x10, x12, M)
  else
  ck (inb ((M.1 q1 1) - (2 : Int32)) 13) <|
  ck (inb (x3 - (2 : Int32)) 13) <|
  (if (lg_cmp (x8 * (M.1 (q1 + 1) ((M.1 q1 1) - (2 : Int32)).toNatClampNeg).toInt64) ((x10 <<< ((30 : Int32).toInt64 &&& 63)) + (M.1 (q0 + 1) (x3 - (2 : Int32)).toNatClampNeg).toInt64)) ≤ 0 then
  some (0, x8, x10, (x12 + 1), M)
  else
  some (0, (x8 - (1 : Int64)), (x10 + x4), (x12 + 1), M))))
def l_Na_takeMultiple_78 (E : Ev) (q0 : Nat) (q1 : Nat) (x2 : Int32) (x3 : Int32) (x4 : Int64) : Nat → Mm → Int64 → Int64 → Int32 → Option (Nat × Int64 × Int64 × Int32 × Mm)
  | 0, _, _, _, _ => none
  | fu + 1, M, x8, x10, x12 => (Na_takeMultiple_78b E M q0 q1 x2 x3 x4 x8 x10 x12).bind fun (t, w8, w10, w12, N) => if t = 0 then l_Na_takeMultiple_78 E q0 q1 x2 x3 x4 fu N w8 w10 w12 else some (t, w8, w10, w12, N)
def Na_takeMultiple_j146 (E : Ev) (M : Mm) (q0 : Nat) (q1 : Nat) (x2 : Int32) (x8 : Int64) : Option (Int32 × Mm) :=
  ck (isNa E q0) <|
  ck (isNa E q1) <|
  (f_Na_subtractMultiple E M q0 q1 x2 x8).bind fun (r10, M10) =>
  (if 0 ≤ (lg_cmp r10 0) then
  some (x8.toInt32, M10)
  else
  (f_Na_subtractMultiple E M10 q0 q1 x2 (-1)).bind fun (r11, M11) =>
  some ((x8 - (1 : Int64)).toInt32, M11))
def f_Na_takeMultiple (E : Ev) (M : Mm) (p0 : Nat) (p1 : Nat) (x2 : Int32) : Option (Int32 × Mm) :=
  ck (isNa E p0) <|
  ck (isNa E p1) <|
  ck (inb ((M.1 p1 1) - (1 : Int32)) 13) <|
  nb ((M.1 (p1 + 1) ((M.1 p1 1) - (1 : Int32)).toNatClampNeg).toInt64) fun (v1 : Int64) =>
  (if (lg_cmp v1 0) = 0 then
  some (0, M)
  else
  ck (inb (x2 + (M.1 p1 1)) 13) <|
  ck (inb ((x2 + (M.1 p1 1)) - (1 : Int32)) 13) <|
  nb ((((M.1 (p0 + 1) (x2 + (M.1 p1 1)).toNatClampNeg).toInt64 <<< ((30 : Int32).toInt64 &&& 63)) + (M.1 (p0 + 1) ((x2 + (M.1 p1 1)) - (1 : Int32)).toNatClampNeg).toInt64)) fun (v4 : Int64) =>
  ck (¬ v1 = 0) <|
  nb ((v4 - ((mnL (v4 / v1) 1073741823) * v1))) fun (v6 : Int64) =>
  (l_Na_takeMultiple_78 E p0 p1 x2 (x2 + (M.1 p1 1)) v1 FU M (mnL (v4 / v1) 1073741823) v6 0).bind fun (t9, v9_8, v9_10, v9_12, M9) =>
  ck (t9 = 1) <|
  Na_takeMultiple_j146 E M9 p0 p1 x2 v9_8)
def Na_divide_43b (E : Ev) (M : Mm) (q0 : Nat) (q1 : Nat) (q2 : Nat) (q3 : Nat) (x4 : Int32) : Option (Nat × Int32 × Mm) :=
  ck (isNa E q0) <|
  ck (isNa E q1) <|
  ck (isNa E q2) <|
  ck (isNa E q3) <|
  (if 30 ≤ x4 then
  some (1, x4, M)
  else
  ck (inb ((M.1 q1 1) - (1 : Int32)) 13) <|
  (if (((M.1 (q1 + 1) ((M.1 q1 1) - (1 : Int32)).toNatClampNeg) <<< (x4 &&& 31)) >>> ((29 : Int32) &&& 31)) = 0 then
  some (0, (x4 + 1), M)
  else
  some (1, x4, M)))
def l_Na_divide_43 (E : Ev) (q0 : Nat) (q1 : Nat) (q2 : Nat) (q3 : Nat) : Nat → Mm → Int32 → Option (Nat × Int32 × Mm)
  | 0, _, _ => none
  | fu + 1, M, x4 => (Na_divide_43b E M q0 q1 q2 q3 x4).bind fun (t, w4, N) => if t = 0 then l_Na_divide_43 E q0 q1 q2 q3 fu N w4 else some (t, w4, N)
def Na_divide_103b (E : Ev) (M : Mm) (q0 : Nat) (q2 : Nat) (q3 : Nat) (x4 : Int32) (x5 : Int32) : Option (Nat × Int32 × Mm) :=
  ck (isNa E q0) <|
  ck (isNa E q2) <|
  ck (isNa E q3) <|
  (if 13 ≤ x5 then
  some (1, x5, M)
  else
  ck (inb x5 13) <|
  some (0, (x5 + 1), (u2 M (q0 + 1) x5.toNatClampNeg 0)))
def l_Na_divide_103 (E : Ev) (q0 : Nat) (q2 : Nat) (q3 : Nat) (x4 : Int32) : Nat → Mm → Int32 → Option (Nat × Int32 × Mm)
  | 0, _, _ => none
  | fu + 1, M, x5 => (Na_divide_103b E M q0 q2 q3 x4 x5).bind fun (t, w5, N) => if t = 0 then l_Na_divide_103 E q0 q2 q3 x4 fu N w5 else some (t, w5, N)
def Na_divide_148b (E : Ev) (M : Mm) (q0 : Nat) (q2 : Nat) (q3 : Nat) (x4 : Int32) (x5 : Int32) : Option (Nat × Int32 × Mm) :=
  ck (isNa E q0) <|
  ck (isNa E q2) <|
  ck (isNa E q3) <|
  (if x5 < 0 then
  some (1, x5, M)
  else
  (f_Na_takeMultiple E M q0 q3 x5).bind fun (r9, M9) =>
  ck (inb x5 13) <|
  some (0, (x5 + (-1)), (u2 M9 (q2 + 1) x5.toNatClampNeg r9)))
def l_Na_divide_148 (E : Ev) (q0 : Nat) (q2 : Nat) (q3 : Nat) (x4 : Int32) : Nat → Mm → Int32 → Option (Nat × Int32 × Mm)
  | 0, _, _ => none
  | fu + 1, M, x5 => (Na_divide_148b E M q0 q2 q3 x4 x5).bind fun (t, w5, N) => if t = 0 then l_Na_divide_148 E q0 q2 q3 x4 fu N w5 else some (t, w5, N)
def Na_divide_j76 (E : Ev) (M : Mm) (q0 : Nat) (q1 : Nat) (q2 : Nat) (q3 : Nat) (x4 : Int32) : Option Mm :=
  ck (isNa E q0) <|
  ck (isNa E q1) <|
  ck (isNa E q2) <|
  ck (isNa E q3) <|
  (f_Na_copyFrom E M q3 q1).bind fun M2 =>
  (f_Na_multiplySmall E M2 q3 ((1 : Int32) <<< (x4 &&& 31))).bind fun M3 =>
  (f_Na_multiplySmall E M3 q0 ((1 : Int32) <<< (x4 &&& 31))).bind fun M4 =>
  (l_Na_divide_103 E q0 q2 q3 x4 FU M4 (M4.1 q0 1)).bind fun (t6, v6_5, M6) =>
  ck (t6 = 1) <|
  (f_Ar_fillI E M6 (q2 + 1) 0).bind fun M7 =>
  nb (((mnI (M7.1 q0 1) 12) - (M7.1 q3 1))) fun (v8 : Int32) =>
  (l_Na_divide_148 E q0 q2 q3 x4 FU M7 v8).bind fun (t11, v11_5, M11) =>
  ck (t11 = 1) <|
  (f_Na_trimTo E M11 q2 13).bind fun M12 =>
  (f_Na_trimTo E M12 q0 13).bind fun M13 =>
  (f_Na_divideSmall E M13 q0 ((1 : Int32) <<< (x4 &&& 31))).bind fun (r14, M14) =>
  some M14
def Na_divide_j36 (E : Ev) (M : Mm) (y0 : Int64) (y1 : Nat) : Option Mm :=
  ck (isNa E y1) <|
  (f_Na_become E M y1 y0).bind fun M17 =>
  some M17
def f_Na_divide (E : Ev) (M : Mm) (p0 : Nat) (p1 : Nat) (p2 : Nat) (p3 : Nat) : Option Mm :=
  ck (isNa E p0) <|
  ck (isNa E p1) <|
  ck (isNa E p2) <|
  ck (isNa E p3) <|
  (if 1 < (M.1 p1 1) then
  (l_Na_divide_43 E p0 p1 p2 p3 FU M 0).bind fun (t1, v1_4, M1) =>
  ck (t1 = 1) <|
  Na_divide_j76 E M1 p0 p1 p2 p3 v1_4
  else
  (f_Na_copyFrom E M p2 p0).bind fun M15 =>
  (if (M15.1 p1 1) = 0 then
  Na_divide_j36 E M15 0 p0
  else
  (f_Na_divideSmall E M15 p2 (M15.1 (p1 + 1) 0)).bind fun (r16, M16) =>
  Na_divide_j36 E M16 r16.toInt64 p0))
def f_Na_isOne (E : Ev) (M : Mm) (p0 : Nat) : Option (Int32 × Mm) :=
  ck (isNa E p0) <|
  (if (M.1 p0 1) = 1 then
  (if (M.1 (p0 + 1) 0) = 1 then
  some (1, M)
  else
  some (0, M))
  else
  some (0, M))
def Co_reduce_28b (E : Ev) (M : Mm) (q1 : Nat) (q2 : Nat) (x3 : Int32) : Option (Nat × Nat × Nat × Int32 × Mm) :=
  ck (isNa E q1) <|
  ck (isNa E q2) <|
  (if 1000 ≤ x3 then
  some (1, q1, q2, x3, M)
  else
  (if (M.1 q2 1) ≤ 0 then
  some (1, q1, q2, x3, M)
  else
  (f_Na_divide E M q1 q2 197 199).bind fun M2 =>
  some (0, q2, q1, (x3 + 1), M2)))
def l_Co_reduce_28 (E : Ev) : Nat → Mm → Nat → Nat → Int32 → Option (Nat × Nat × Nat × Int32 × Mm)
  | 0, _, _, _, _ => none
  | fu + 1, M, q1, q2, x3 => (Co_reduce_28b E M q1 q2 x3).bind fun (t, w1, w2, w3, N) => if t = 0 then l_Co_reduce_28 E fu N w1 w2 w3 else some (t, w1, w2, w3, N)
def Co_reduce_j69 (E : Ev) (M : Mm) (q1 : Nat) : Option Mm :=
  ck (isNa E q1) <|
  (f_Na_isOne E M q1).bind fun (r4, M4) =>
  (if r4 = 0 then
  (f_Na_divide E M4 189 q1 197 199).bind fun M5 =>
  (f_Na_copyFrom E M5 189 197).bind fun M6 =>
  (f_Na_divide E M6 191 q1 197 199).bind fun M7 =>
  (f_Na_copyFrom E M7 191 197).bind fun M8 =>
  some M8
  else
  some M4)
def f_Co_reduce (E : Ev) (M : Mm) : Option Mm :=
  (f_Na_copyFrom E M 193 191).bind fun M0 =>
  (f_Na_copyFrom E M0 195 189).bind fun M1 =>
  (l_Co_reduce_28 E FU M1 193 195 0).bind fun (t3, v3_1, v3_2, v3_3, M3) =>
  ck (t3 = 1) <|
  ck (isNa E v3_1) <|
  Co_reduce_j69 E M3 v3_1
def B_writePile_j72 (E : Ev) (M : Mm) (y0 : Int32) (y1 : Int32) (y2 : Nat) : Option (Int32 × Mm) :=
  ck (isCt E y2) <|
  (f_Co_loadPile E M y2 y1 y0).bind fun M1 =>
  (f_Co_reduce E M1).bind fun M2 =>
  (f_B_appendNumber E (u2 M2 1 13 0) 189).bind fun M3 =>
  (f_Na_isOne E M3 191).bind fun (r4, M4) =>
  (if r4 = 0 then
  (f_B_appendByte E M4 47).bind fun M5 =>
  (f_B_appendNumber E M5 191).bind fun M6 =>
  some ((M6.1 1 13), M6)
  else
  some ((M4.1 1 13), M4))
def B_writePile_j16 (E : Ev) (M : Mm) (x1 : Int32) (x2 : Int32) : Option (Int32 × Mm) :=
  (f_Co_latest E M).bind fun (r0, M0) =>
  (match r0 with
  | none =>
  none
  | some p0 =>
  ck (isCt E p0) <|
  (if x1 < 0 then
  none
  else
  (if x1 ≤ ((M0.1 p0 4) + (M0.1 p0 5)) then
  (if x2 = (-1) then
  B_writePile_j72 E M0 8 x1 p0
  else
  B_writePile_j72 E M0 x2 x1 p0)
  else
  none)))
def f_B_writePile (E : Ev) (M : Mm) (x1 : Int32) (x2 : Int32) : Option (Int32 × Mm) :=
  (if x2 = (-1) then
  B_writePile_j16 E M x1 x2
  else
  (f_B_needIndex E M x2 (M.1 2 2)).bind fun M7 =>
  B_writePile_j16 E M7 x1 x2)
def f_Co_elect (E : Ev) (M : Mm) (p1 : Nat) (x2 : Int32) : Option Mm :=
  ck (isCt E p1) <|
  (if 3 ≤ ((u2 M 179 3 ((M.1 179 3) &&& (((1 : Int32) <<< (x2 &&& 31)) ^^^ (-1 : Int32)))).1 p1 4) then
  some (u2 M 179 3 ((M.1 179 3) &&& (((1 : Int32) <<< (x2 &&& 31)) ^^^ (-1 : Int32))))
  else
  ck (inb ((u2 M 179 3 ((M.1 179 3) &&& (((1 : Int32) <<< (x2 &&& 31)) ^^^ (-1 : Int32)))).1 p1 4) 3) <|
  nb (u2 (u2 M 179 3 ((M.1 179 3) &&& (((1 : Int32) <<< (x2 &&& 31)) ^^^ (-1 : Int32)))) (p1 + 2) ((u2 M 179 3 ((M.1 179 3) &&& (((1 : Int32) <<< (x2 &&& 31)) ^^^ (-1 : Int32)))).1 p1 4).toNatClampNeg x2) fun (M1 : Mm) =>
  some (u2 M1 p1 4 ((M1.1 p1 4) + (1 : Int32))))
def f_Co_weightOf (E : Ev) (M : Mm) (x1 : Int32) (x2 : Int32) : Option (Nat × Mm) :=
  ck (inb ((x1 * (8 : Int32)) + x2) 240) <|
  (E.2.2 181 ((x1 * (8 : Int32)) + x2).toNatClampNeg).bind fun p1 =>
  ck (isNa E p1) <|
  ck (inb ((x1 * (8 : Int32)) + x2) 240) <|
  (E.2.2 181 ((x1 * (8 : Int32)) + x2).toNatClampNeg).bind fun p3 =>
  ck (isNa E p3) <|
  some (p3, M)
def Co_passOn_46b (E : Ev) (M : Mm) (x1 : Int32) (x2 : Int32) (x3 : Int32) : Option (Nat × Int32 × Mm) :=
  (if (M.1 2 2) ≤ x3 then
  some (1, x3, M)
  else
  (f_B_has E M x2 x3).bind fun (r3, M3) =>
  (if r3 = 0 then
  some (0, (x3 + 1), M3)
  else
  (f_Co_weightOf E M3 x1 x3).bind fun (r4, M4) =>
  ck (isNa E r4) <|
  (f_Na_add E M4 r4 185).bind fun M5 =>
  ck (inb x3 9) <|
  (f_Na_add E M5 (201 + 2 * x3.toNatClampNeg) 185).bind fun M7 =>
  some (0, (x3 + 1), M7)))
def l_Co_passOn_46 (E : Ev) (x1 : Int32) (x2 : Int32) : Nat → Mm → Int32 → Option (Nat × Int32 × Mm)
  | 0, _, _ => none
  | fu + 1, M, x3 => (Co_passOn_46b E M x1 x2 x3).bind fun (t, w3, N) => if t = 0 then l_Co_passOn_46 E x1 x2 fu N w3 else some (t, w3, N)
def f_Co_passOn (E : Ev) (M : Mm) (x1 : Int32) : Option Mm :=
  (f_Bx_topOf E M x1 (M.1 179 3)).bind fun (r0, M0) =>
  (if r0 = 0 then
  (f_Na_add E M0 217 185).bind fun M9 =>
  some M9
  else
  (f_In_bitCount E M0 r0).bind fun (r1, M1) =>
  (f_Na_divideSmall E M1 185 r1).bind fun (r2, M2) =>
  (l_Co_passOn_46 E x1 r0 FU M2 0).bind fun (t8, v8_3, M8) =>
  ck (t8 = 1) <|
  some M8)
def Co_exclude_55b (E : Ev) (M : Mm) (q1 : Nat) (x2 : Int32) (x3 : Int32) : Option (Nat × Int32 × Mm) :=
  ck (isCt E q1) <|
  (if (M.1 q1 2) ≤ x3 then
  some (1, x3, M)
  else
  (f_Co_weightOf E M x3 x2).bind fun (r2, M2) =>
  ck (isNa E r2) <|
  (f_Na_copyFrom E M2 185 r2).bind fun M3 =>
  (f_Co_passOn E M3 x3).bind fun M4 =>
  some (0, (x3 + 1), M4))
def l_Co_exclude_55 (E : Ev) (q1 : Nat) (x2 : Int32) : Nat → Mm → Int32 → Option (Nat × Int32 × Mm)
  | 0, _, _ => none
  | fu + 1, M, x3 => (Co_exclude_55b E M q1 x2 x3).bind fun (t, w3, N) => if t = 0 then l_Co_exclude_55 E q1 x2 fu N w3 else some (t, w3, N)
def Co_exclude_j43 (E : Ev) (M : Mm) (q1 : Nat) (x2 : Int32) : Option Mm :=
  ck (isCt E q1) <|
  ck (inb x2 9) <|
  (f_Na_become E M (201 + 2 * x2.toNatClampNeg) 0).bind fun M1 =>
  (l_Co_exclude_55 E q1 x2 FU M1 0).bind fun (t5, v5_3, M5) =>
  ck (t5 = 1) <|
  some M5
def f_Co_exclude (E : Ev) (M : Mm) (p1 : Nat) (x2 : Int32) : Option Mm :=
  ck (isCt E p1) <|
  (if 8 ≤ ((u2 M 179 3 ((M.1 179 3) &&& (((1 : Int32) <<< (x2 &&& 31)) ^^^ (-1 : Int32)))).1 p1 5) then
  Co_exclude_j43 E (u2 M 179 3 ((M.1 179 3) &&& (((1 : Int32) <<< (x2 &&& 31)) ^^^ (-1 : Int32)))) p1 x2
  else
  ck (inb ((u2 M 179 3 ((M.1 179 3) &&& (((1 : Int32) <<< (x2 &&& 31)) ^^^ (-1 : Int32)))).1 p1 5) 8) <|
  nb (u2 (u2 M 179 3 ((M.1 179 3) &&& (((1 : Int32) <<< (x2 &&& 31)) ^^^ (-1 : Int32)))) (p1 + 3) ((u2 M 179 3 ((M.1 179 3) &&& (((1 : Int32) <<< (x2 &&& 31)) ^^^ (-1 : Int32)))).1 p1 5).toNatClampNeg x2) fun (M7 : Mm) =>
  Co_exclude_j43 E (u2 M7 p1 5 ((M7.1 p1 5) + (1 : Int32))) p1 x2)
def f_Co_isAhead (E : Ev) (M : Mm) (x1 : Int32) (x2 : Int32) : Option (Int32 × Mm) :=
  ck (inb x1 9) <|
  ck (inb x2 9) <|
  (f_Na_compareWith E M (201 + 2 * x1.toNatClampNeg) (201 + 2 * x2.toNatClampNeg)).bind fun (r2, M2) =>
  (if 0 < r2 then
  some (1, M2)
  else
  (if r2 = 0 then
  (f_Bx_winsLot E M2 x1 x2).bind fun (r3, M3) =>
  (if r3 = 0 then
  some (0, M3)
  else
  some (1, M3))
  else
  some (0, M2)))
def Co_greatestPile_4b (E : Ev) (M : Mm) (x1 : Int32) (x2 : Int32) : Option (Nat × Int32 × Int32 × Mm) :=
  (if (M.1 2 2) ≤ x2 then
  some (1, x1, x2, M)
  else
  (f_B_has E M (M.1 179 3) x2).bind fun (r0, M0) =>
  (if r0 = 0 then
  some (0, x1, (x2 + 1), M0)
  else
  (if x1 = (-1) then
  some (0, x2, (x2 + 1), M0)
  else
  (f_Co_isAhead E M0 x2 x1).bind fun (r1, M1) =>
  (if r1 = 0 then
  some (0, x1, (x2 + 1), M1)
  else
  some (0, x2, (x2 + 1), M1)))))
def l_Co_greatestPile_4 (E : Ev) : Nat → Mm → Int32 → Int32 → Option (Nat × Int32 × Int32 × Mm)
  | 0, _, _, _ => none
  | fu + 1, M, x1, x2 => (Co_greatestPile_4b E M x1 x2).bind fun (t, w1, w2, N) => if t = 0 then l_Co_greatestPile_4 E fu N w1 w2 else some (t, w1, w2, N)
def f_Co_greatestPile (E : Ev) (M : Mm) : Option (Int32 × Mm) :=
  (l_Co_greatestPile_4 E FU M (-1) 0).bind fun (t2, v2_1, v2_2, M2) =>
  ck (t2 = 1) <|
  some (v2_1, M2)
def Na_store_2b (E : Ev) (M : Mm) (q0 : Nat) (q1 : Nat) (x2 : Int32) (x3 : Int32) : Option (Nat × Int32 × Mm) :=
  ck (isNa E q0) <|
  ck (isIA E q1) <|
  (if 13 ≤ x3 then
  some (1, x3, M)
  else
  (f_Na_limbAt E M q0 x3).bind fun (r0, M0) =>
  ck (inb (x2 + x3) (E.2.1 q1).2) <|
  some (0, (x3 + 1), (u2 M0 q1 (x2 + x3).toNatClampNeg r0)))
def l_Na_store_2 (E : Ev) (q0 : Nat) (q1 : Nat) (x2 : Int32) : Nat → Mm → Int32 → Option (Nat × Int32 × Mm)
  | 0, _, _ => none
  | fu + 1, M, x3 => (Na_store_2b E M q0 q1 x2 x3).bind fun (t, w3, N) => if t = 0 then l_Na_store_2 E q0 q1 x2 fu N w3 else some (t, w3, N)
def f_Na_store (E : Ev) (M : Mm) (p0 : Nat) (p1 : Nat) (x2 : Int32) : Option Mm :=
  ck (isNa E p0) <|
  ck (isIA E p1) <|
  (l_Na_store_2 E p0 p1 x2 FU M 0).bind fun (t2, v2_3, M2) =>
  ck (t2 = 1) <|
  some M2
def Co_keepMoment_12b (E : Ev) (M : Mm) (q1 : Nat) (x2 : Int32) (x3 : Int32) : Option (Nat × Int32 × Mm) :=
  ck (isCt E q1) <|
  (if 9 ≤ x3 then
  some (1, x3, M)
  else
  ck (inb x3 9) <|
  (f_Ct_placeOf E M q1 x2 x3).bind fun (r1, M1) =>
  (f_Na_store E M1 (201 + 2 * x3.toNatClampNeg) (q1 + 4) r1).bind fun M2 =>
  some (0, (x3 + 1), M2))
def l_Co_keepMoment_12 (E : Ev) (q1 : Nat) (x2 : Int32) : Nat → Mm → Int32 → Option (Nat × Int32 × Mm)
  | 0, _, _ => none
  | fu + 1, M, x3 => (Co_keepMoment_12b E M q1 x2 x3).bind fun (t, w3, N) => if t = 0 then l_Co_keepMoment_12 E q1 x2 fu N w3 else some (t, w3, N)
def f_Co_keepMoment (E : Ev) (M : Mm) (p1 : Nat) : Option Mm :=
  ck (isCt E p1) <|
  (l_Co_keepMoment_12 E p1 ((M.1 p1 4) + (M.1 p1 5)) FU M 0).bind fun (t3, v3_3, M3) =>
  ck (t3 = 1) <|
  (f_Ct_placeOf E M3 p1 ((M.1 p1 4) + (M.1 p1 5)) 9).bind fun (r4, M4) =>
  (f_Na_store E M4 183 (p1 + 4) r4).bind fun M5 =>
  some M5
def Na_multiply_24b (E : Ev) (M : Mm) (q0 : Nat) (q1 : Nat) (q2 : Nat) (x3 : Int32) (x4 : Int64) (x6 : Int32) : Option (Nat × Int64 × Int32 × Mm) :=
  ck (isNa E q0) <|
  ck (isNa E q1) <|
  ck (isNa E q2) <|
  (if (M.1 q2 1) < x6 then
  some (1, x4, x6, M)
  else
  (if 13 ≤ (x3 + x6) then
  some (1, x4, x6, M)
  else
  ck (inb x3 13) <|
  (f_Na_limbAt E M q2 x6).bind fun (r2, M2) =>
  ck (inb (x3 + x6) 13) <|
  nb ((x4 + (((M.1 (q1 + 1) x3.toNatClampNeg).toInt64 * r2.toInt64) + (M2.1 (q0 + 1) (x3 + x6).toNatClampNeg).toInt64))) fun (v4 : Int64) =>
  nb ((v4 &&& (1073741823 : Int64)).toInt32) fun (v5 : Int32) =>
  ck (inb (x3 + x6) 13) <|
  nb ((v4 >>> ((30 : Int32).toInt64 &&& 63))) fun (v7 : Int64) =>
  some (0, v7, (x6 + 1), (u2 M2 (q0 + 1) (x3 + x6).toNatClampNeg v5))))
def l_Na_multiply_24 (E : Ev) (q0 : Nat) (q1 : Nat) (q2 : Nat) (x3 : Int32) : Nat → Mm → Int64 → Int32 → Option (Nat × Int64 × Int32 × Mm)
  | 0, _, _, _ => none
  | fu + 1, M, x4, x6 => (Na_multiply_24b E M q0 q1 q2 x3 x4 x6).bind fun (t, w4, w6, N) => if t = 0 then l_Na_multiply_24 E q0 q1 q2 x3 fu N w4 w6 else some (t, w4, w6, N)
def Na_multiply_10b (E : Ev) (M : Mm) (q0 : Nat) (q1 : Nat) (q2 : Nat) (x3 : Int32) : Option (Nat × Int32 × Mm) :=
  ck (isNa E q0) <|
  ck (isNa E q1) <|
  ck (isNa E q2) <|
  (if (M.1 q1 1) ≤ x3 then
  some (1, x3, M)
  else
  (l_Na_multiply_24 E q0 q1 q2 x3 FU M 0 0).bind fun (t8, v8_4, v8_6, M8) =>
  ck (t8 = 1) <|
  some (0, (x3 + 1), M8))
def l_Na_multiply_10 (E : Ev) (q0 : Nat) (q1 : Nat) (q2 : Nat) : Nat → Mm → Int32 → Option (Nat × Int32 × Mm)
  | 0, _, _ => none
  | fu + 1, M, x3 => (Na_multiply_10b E M q0 q1 q2 x3).bind fun (t, w3, N) => if t = 0 then l_Na_multiply_10 E q0 q1 q2 fu N w3 else some (t, w3, N)
def f_Na_multiply (E : Ev) (M : Mm) (p0 : Nat) (p1 : Nat) (p2 : Nat) : Option Mm :=
  ck (isNa E p0) <|
  ck (isNa E p1) <|
  ck (isNa E p2) <|
  (f_Ar_fillI E M (p0 + 1) 0).bind fun M0 =>
  (l_Na_multiply_10 E p0 p1 p2 FU M0 0).bind fun (t9, v9_3, M9) =>
  ck (t9 = 1) <|
  (f_Na_trimTo E M9 p0 13).bind fun M10 =>
  some M10
def f_Co_multiply (E : Ev) (M : Mm) (p1 : Nat) (p2 : Nat) : Option Mm :=
  ck (isNa E p1) <|
  ck (isNa E p2) <|
  (if (M.1 p1 1) ≤ 0 then
  some M
  else
  (f_Na_multiply E M 199 p1 p2).bind fun M0 =>
  (f_Na_copyFrom E M0 p1 199).bind fun M1 =>
  some M1)
def Co_multiplyAll_11b (E : Ev) (M : Mm) (q1 : Nat) (x2 : Int32) : Option (Nat × Int32 × Mm) :=
  ck (isNa E q1) <|
  (if 9 ≤ x2 then
  some (1, x2, M)
  else
  ck (inb x2 9) <|
  (f_Co_multiply E M (201 + 2 * x2.toNatClampNeg) q1).bind fun M2 =>
  some (0, (x2 + 1), M2))
def l_Co_multiplyAll_11 (E : Ev) (q1 : Nat) : Nat → Mm → Int32 → Option (Nat × Int32 × Mm)
  | 0, _, _ => none
  | fu + 1, M, x2 => (Co_multiplyAll_11b E M q1 x2).bind fun (t, w2, N) => if t = 0 then l_Co_multiplyAll_11 E q1 fu N w2 else some (t, w2, N)
def Co_multiplyAll_49b (E : Ev) (M : Mm) (q1 : Nat) (x2 : Int32) (x3 : Int32) : Option (Nat × Int32 × Mm) :=
  ck (isNa E q1) <|
  (if (M.1 2 2) ≤ x3 then
  some (1, x3, M)
  else
  (f_B_has E M (M.1 179 3) x3).bind fun (r4, M4) =>
  (if r4 = 0 then
  some (0, (x3 + 1), M4)
  else
  (f_Co_weightOf E M4 x2 x3).bind fun (r5, M5) =>
  ck (isNa E r5) <|
  (f_Co_multiply E M5 r5 q1).bind fun M6 =>
  some (0, (x3 + 1), M6)))
def l_Co_multiplyAll_49 (E : Ev) (q1 : Nat) (x2 : Int32) : Nat → Mm → Int32 → Option (Nat × Int32 × Mm)
  | 0, _, _ => none
  | fu + 1, M, x3 => (Co_multiplyAll_49b E M q1 x2 x3).bind fun (t, w3, N) => if t = 0 then l_Co_multiplyAll_49 E q1 x2 fu N w3 else some (t, w3, N)
def Co_multiplyAll_36b (E : Ev) (M : Mm) (q1 : Nat) (x2 : Int32) : Option (Nat × Int32 × Mm) :=
  ck (isNa E q1) <|
  (if (M.1 2 3) ≤ x2 then
  some (1, x2, M)
  else
  (l_Co_multiplyAll_49 E q1 x2 FU M 0).bind fun (t7, v7_3, M7) =>
  ck (t7 = 1) <|
  some (0, (x2 + 1), M7))
def l_Co_multiplyAll_36 (E : Ev) (q1 : Nat) : Nat → Mm → Int32 → Option (Nat × Int32 × Mm)
  | 0, _, _ => none
  | fu + 1, M, x2 => (Co_multiplyAll_36b E M q1 x2).bind fun (t, w2, N) => if t = 0 then l_Co_multiplyAll_36 E q1 fu N w2 else some (t, w2, N)
def f_Co_multiplyAll (E : Ev) (M : Mm) (p1 : Nat) : Option Mm :=
  ck (isNa E p1) <|
  (f_Co_multiply E M 183 p1).bind fun M0 =>
  (l_Co_multiplyAll_11 E p1 FU M0 0).bind fun (t3, v3_2, M3) =>
  ck (t3 = 1) <|
  (l_Co_multiplyAll_36 E p1 FU M3 0).bind fun (t8, v8_2, M8) =>
  ck (t8 = 1) <|
  some M8
def Na_subtract_4b (E : Ev) (M : Mm) (q0 : Nat) (q1 : Nat) (x2 : Int32) (x3 : Int32) : Option (Nat × Int32 × Int32 × Mm) :=
  ck (isNa E q0) <|
  ck (isNa E q1) <|
  (if (M.1 q0 1) ≤ x3 then
  some (1, x2, x3, M)
  else
  ck (inb x3 13) <|
  (f_Na_limbAt E M q1 x3).bind fun (r1, M1) =>
  nb ((((M.1 (q0 + 1) x3.toNatClampNeg) - r1) + x2)) fun (v2 : Int32) =>
  nb ((v2 &&& (1073741823 : Int32))) fun (v3 : Int32) =>
  ck (inb x3 13) <|
  nb ((v2 >>> ((30 : Int32) &&& 31))) fun (v5 : Int32) =>
  some (0, v5, (x3 + 1), (u2 M1 (q0 + 1) x3.toNatClampNeg v3)))
def l_Na_subtract_4 (E : Ev) (q0 : Nat) (q1 : Nat) : Nat → Mm → Int32 → Int32 → Option (Nat × Int32 × Int32 × Mm)
  | 0, _, _, _ => none
  | fu + 1, M, x2, x3 => (Na_subtract_4b E M q0 q1 x2 x3).bind fun (t, w2, w3, N) => if t = 0 then l_Na_subtract_4 E q0 q1 fu N w2 w3 else some (t, w2, w3, N)
def f_Na_subtract (E : Ev) (M : Mm) (p0 : Nat) (p1 : Nat) : Option Mm :=
  ck (isNa E p0) <|
  ck (isNa E p1) <|
  (l_Na_subtract_4 E p0 p1 FU M 0 0).bind fun (t6, v6_2, v6_3, M6) =>
  ck (t6 = 1) <|
  (f_Na_trimTo E M6 p0 (M6.1 p0 1)).bind fun M7 =>
  some M7
def Co_passSurplus_64b (E : Ev) (M : Mm) (x1 : Int32) (x2 : Int32) : Option (Nat × Int32 × Mm) :=
  (if (M.1 2 3) ≤ x2 then
  some (1, x2, M)
  else
  (f_Co_weightOf E M x2 x1).bind fun (r9, M9) =>
  ck (isNa E r9) <|
  (f_Na_multiply E M9 185 r9 189).bind fun M10 =>
  (f_Co_passOn E M10 x2).bind fun M11 =>
  some (0, (x2 + 1), M11))
def l_Co_passSurplus_64 (E : Ev) (x1 : Int32) : Nat → Mm → Int32 → Option (Nat × Int32 × Mm)
  | 0, _, _ => none
  | fu + 1, M, x2 => (Co_passSurplus_64b E M x1 x2).bind fun (t, w2, N) => if t = 0 then l_Co_passSurplus_64 E x1 fu N w2 else some (t, w2, N)
def f_Co_passSurplus (E : Ev) (M : Mm) (x1 : Int32) : Option Mm :=
  ck (inb x1 9) <|
  (f_Na_copyFrom E M 189 (201 + 2 * x1.toNatClampNeg)).bind fun M1 =>
  (f_Na_subtract E M1 189 187).bind fun M2 =>
  ck (inb x1 9) <|
  (f_Na_copyFrom E M2 191 (201 + 2 * x1.toNatClampNeg)).bind fun M4 =>
  (f_Co_reduce E M4).bind fun M5 =>
  ck (inb x1 9) <|
  (f_Na_copyFrom E M5 (201 + 2 * x1.toNatClampNeg) 187).bind fun M7 =>
  (f_Co_multiplyAll E M7 191).bind fun M8 =>
  (l_Co_passSurplus_64 E x1 FU M8 0).bind fun (t12, v12_2, M12) =>
  ck (t12 = 1) <|
  some M12
def Co_smallestPile_4b (E : Ev) (M : Mm) (x1 : Int32) (x2 : Int32) : Option (Nat × Int32 × Int32 × Mm) :=
  (if (M.1 2 2) ≤ x2 then
  some (1, x1, x2, M)
  else
  (f_B_has E M (M.1 179 3) x2).bind fun (r0, M0) =>
  (if r0 = 0 then
  some (0, x1, (x2 + 1), M0)
  else
  (if x1 = (-1) then
  some (0, x2, (x2 + 1), M0)
  else
  (f_Co_isAhead E M0 x1 x2).bind fun (r1, M1) =>
  (if r1 = 0 then
  some (0, x1, (x2 + 1), M1)
  else
  some (0, x2, (x2 + 1), M1)))))
def l_Co_smallestPile_4 (E : Ev) : Nat → Mm → Int32 → Int32 → Option (Nat × Int32 × Int32 × Mm)
  | 0, _, _, _ => none
  | fu + 1, M, x1, x2 => (Co_smallestPile_4b E M x1 x2).bind fun (t, w1, w2, N) => if t = 0 then l_Co_smallestPile_4 E fu N w1 w2 else some (t, w1, w2, N)
def f_Co_smallestPile (E : Ev) (M : Mm) : Option (Int32 × Mm) :=
  (l_Co_smallestPile_4 E FU M (-1) 0).bind fun (t2, v2_1, v2_2, M2) =>
  ck (t2 = 1) <|
  some (v2_1, M2)
def Co_takeStep_j79 (E : Ev) (M : Mm) (x4 : Int32) : Option (Int32 × Mm) :=
  (if x4 ≤ 0 then
  some (0, M)
  else
  some (1, M))
def f_Co_takeStep (E : Ev) (M : Mm) (p1 : Nat) (x2 : Int32) (x3 : Int32) : Option (Int32 × Mm) :=
  ck (isCt E p1) <|
  (f_In_bitCount E M (M.1 179 3)).bind fun (r0, M0) =>
  (if x3 < r0 then
  (f_Na_copyFrom E M0 187 183).bind fun M1 =>
  (f_Na_multiplySmall E M1 187 (M1.1 p1 0)).bind fun M2 =>
  ck (inb x2 9) <|
  (f_Na_compareWith E M2 (201 + 2 * x2.toNatClampNeg) 187).bind fun (r4, M4) =>
  (if r4 < 0 then
  (f_Co_smallestPile E M4).bind fun (r5, M5) =>
  (f_Co_exclude E M5 p1 r5).bind fun M6 =>
  Co_takeStep_j79 E M6 r4
  else
  (f_Co_elect E M4 p1 x2).bind fun M7 =>
  Co_takeStep_j79 E M7 r4)
  else
  (f_Co_elect E M0 p1 x2).bind fun M8 =>
  some (0, M8))
