/-! WHAT EACH METHOD DOES TO THE MEMORY: printed out of the bytecode by wip/p56/gen -/
def f_B_needIndex (E : Ev) (M : Mm) (x0 : Int) (x1 : Int) : Option Unit :=
  ck (rgI x0) <|
  (if x0 < 0 then
  none
  else
  ck (rgI x1) <|
  (if x0 < x1 then
  some ()
  else
  none))
def f_Bx_everybody (E : Ev) (M : Mm) : Option Int :=
  ck (shI (M 2 2)) <|
  some ((2 ^ (M 2 2).toNat) - 1)
def Ar_fillI_5b (E : Ev) (M : Mm) (q0 : Nat) (x1 : Int) (x3 : Int) (x2 : Int) : Option (Nat × Int × Mm) :=
  ck (isIA E q0) <|
  ck (rgI x2) <|
  ck (rgI x3) <|
  (if x3 ≤ x2 then
  some (1, x2, M)
  else
  ck (inb x2 (tE E q0).2) <|
  some (0, (x2 + 1), (u2 M q0 x2.toNat x1)))
def l_Ar_fillI_5 (E : Ev) (q0 : Nat) (x1 : Int) (x3 : Int) : Nat → Mm → Int → Option (Nat × Int × Mm)
  | 0, _, _ => none
  | fu + 1, M, x2 => (Ar_fillI_5b E M q0 x1 x3 x2).bind fun (t, w2, N) => if t = 0 then l_Ar_fillI_5 E q0 x1 x3 fu N w2 else some (t, w2, N)
def f_Ar_fillI (E : Ev) (M : Mm) (p0 : Nat) (x1 : Int) : Option Mm :=
  ck (isIA E p0) <|
  (l_Ar_fillI_5 E p0 x1 ((tE E p0).2 : Int) FU M 0).bind fun (t3, v3_2, M3) =>
  ck (t3 = 1) <|
  some M3
def Bx_topOf_2b (E : Ev) (M : Mm) (x1 : Int) (x2 : Int) (x3 : Int) : Option (Nat × Int × Int) :=
  ck (inb x1 31) <|
  ck (rgI x3) <|
  ck (rgI (M 7 x1.toNat)) <|
  (if (M 7 x1.toNat) ≤ x3 then
  some (2, x3, 0)
  else
  ck (inb x3 8) <|
  ck (nnI (M (9 + x1.toNat) x3.toNat)) <|
  ck (nnI x2) <|
  nb ((andI (M (9 + x1.toNat) x3.toNat) x2)) fun (v6 : Int) =>
  (if v6 = 0 then
  some (0, (x3 + 1), v6)
  else
  some (1, x3, v6)))
def l_Bx_topOf_2 (E : Ev) (x1 : Int) (x2 : Int) : Nat → Mm → Int → Option (Nat × Int × Int)
  | 0, _, _ => none
  | fu + 1, M, x3 => (Bx_topOf_2b E M x1 x2 x3).bind fun (t, w3, w4) => if t = 0 then l_Bx_topOf_2 E x1 x2 fu M w3 else some (t, w3, w4)
def f_Bx_topOf (E : Ev) (M : Mm) (x1 : Int) (x2 : Int) : Option Int :=
  (l_Bx_topOf_2 E x1 x2 FU M 0).bind fun (t7, v7_3, v7_4) =>
  (if t7 = 1 then
  some v7_4
  else (if t7 = 2 then
  some 0
  else none))
def f_In_bitCount (E : Ev) (M : Mm) (x0 : Int) : Option Int :=
  nb ((x0 - (andI (ushI x0 1) 1431655765))) fun (v0 : Int) =>
  ck (nnI v0) <|
  nb (((andI v0 858993459) + (andI (ushI v0 2) 858993459))) fun (v2 : Int) =>
  ck (nnI (v2 + (ushI v2 4))) <|
  nb ((andI (v2 + (ushI v2 4)) 252645135)) fun (v4 : Int) =>
  nb (((v4 + (ushI v4 8)) + (ushI (v4 + (ushI v4 8)) 16))) fun (v5 : Int) =>
  some (v5 % 64)
def f_Bx_soleTopOf (E : Ev) (M : Mm) (x1 : Int) (x2 : Int) : Option Int :=
  (f_Bx_topOf E M x1 x2).bind fun r0 =>
  (f_In_bitCount E M r0).bind fun r1 =>
  ck (rgI r1) <|
  (if r1 = 1 then
  (f_In_bitCount E M (r0 - 1)).bind fun r3 =>
  some r3
  else
  some (-1))
def f_B_has (E : Ev) (M : Mm) (x0 : Int) (x1 : Int) : Option Int :=
  ck (rgI x0) <|
  ck (shI x1) <|
  (if ((x0 / 2 ^ x1.toNat) % 2) = 0 then
  some 0
  else
  some 1)
def Po_changePairs_27b (E : Ev) (M : Mm) (x1 : Int) (x2 : Int) (x3 : Int) (x4 : Int) (x5 : Int) : Option (Nat × Int × Mm) :=
  ck (rgI x5) <|
  ck (rgI (M 2 2)) <|
  (if (M 2 2) ≤ x5 then
  some (1, x5, M)
  else
  (f_B_has E M x2 x5).bind fun r6 =>
  ck (rgI r6) <|
  (if r6 = 0 then
  some (0, (x5 + 1), M)
  else
  ck (inb ((x4 * 8) + x5) 64) <|
  nb (((M 45 ((x4 * 8) + x5).toNat) + x3)) fun (v9 : Int) =>
  some (0, (x5 + 1), (u2 M 45 ((x4 * 8) + x5).toNat v9))))
def l_Po_changePairs_27 (E : Ev) (x1 : Int) (x2 : Int) (x3 : Int) (x4 : Int) : Nat → Mm → Int → Option (Nat × Int × Mm)
  | 0, _, _ => none
  | fu + 1, M, x5 => (Po_changePairs_27b E M x1 x2 x3 x4 x5).bind fun (t, w5, N) => if t = 0 then l_Po_changePairs_27 E x1 x2 x3 x4 fu N w5 else some (t, w5, N)
def Po_changePairs_3b (E : Ev) (M : Mm) (x1 : Int) (x2 : Int) (x3 : Int) (x4 : Int) : Option (Nat × Int × Mm) :=
  ck (rgI x4) <|
  ck (rgI (M 2 2)) <|
  (if (M 2 2) ≤ x4 then
  some (1, x4, M)
  else
  (f_B_has E M x1 x4).bind fun r2 =>
  ck (rgI r2) <|
  (if r2 = 0 then
  some (0, (x4 + 1), M)
  else
  (l_Po_changePairs_27 E x1 x2 x3 x4 FU M 0).bind fun (t10, v10_5, M10) =>
  ck (t10 = 1) <|
  some (0, (x4 + 1), M10)))
def l_Po_changePairs_3 (E : Ev) (x1 : Int) (x2 : Int) (x3 : Int) : Nat → Mm → Int → Option (Nat × Int × Mm)
  | 0, _, _ => none
  | fu + 1, M, x4 => (Po_changePairs_3b E M x1 x2 x3 x4).bind fun (t, w4, N) => if t = 0 then l_Po_changePairs_3 E x1 x2 x3 fu N w4 else some (t, w4, N)
def f_Po_changePairs (E : Ev) (M : Mm) (x1 : Int) (x2 : Int) (x3 : Int) : Option Mm :=
  (l_Po_changePairs_3 E x1 x2 x3 FU M 0).bind fun (t11, v11_4, M11) =>
  ck (t11 = 1) <|
  some M11
def Po_change_62b (E : Ev) (M : Mm) (x1 : Int) (x2 : Int) (x4 : Int) (x5 : Int) : Option (Nat × Int × Int × Mm) :=
  ck (inb x1 31) <|
  ck (rgI x5) <|
  ck (rgI (M 7 x1.toNat)) <|
  (if (M 7 x1.toNat) ≤ x5 then
  some (1, x4, x5, M)
  else
  ck (inb x5 8) <|
  ck (nnI (M (9 + x1.toNat) x5.toNat)) <|
  ck (nnI (M 41 1)) <|
  nb ((andI (M (9 + x1.toNat) x5.toNat) (M 41 1))) fun (v11 : Int) =>
  ck (nnI x4) <|
  ck (nnI v11) <|
  (f_Po_changePairs E M v11 (dfI x4 v11) x2).bind fun M14 =>
  some (0, (dfI x4 v11), (x5 + 1), M14))
def l_Po_change_62 (E : Ev) (x1 : Int) (x2 : Int) : Nat → Mm → Int → Int → Option (Nat × Int × Int × Mm)
  | 0, _, _, _ => none
  | fu + 1, M, x4, x5 => (Po_change_62b E M x1 x2 x4 x5).bind fun (t, w4, w5, N) => if t = 0 then l_Po_change_62 E x1 x2 fu N w4 w5 else some (t, w4, w5, N)
def Po_change_122b (E : Ev) (M : Mm) (x1 : Int) (x2 : Int) (x5 : Int) : Option (Nat × Int × Mm) :=
  ck (rgI x5) <|
  ck (rgI (M 2 2)) <|
  (if (M 2 2) ≤ x5 then
  some (1, x5, M)
  else
  ck (inb x1 31) <|
  ck (nnI (M 6 x1.toNat)) <|
  ck (nnI (M 41 1)) <|
  (f_B_has E M (andI (M 6 x1.toNat) (M 41 1)) x5).bind fun r21 =>
  ck (rgI r21) <|
  (if r21 = 0 then
  some (0, (x5 + 1), M)
  else
  ck (inb x5 8) <|
  some (0, (x5 + 1), (u2 M 44 x5.toNat ((M 44 x5.toNat) + x2)))))
def l_Po_change_122 (E : Ev) (x1 : Int) (x2 : Int) : Nat → Mm → Int → Option (Nat × Int × Mm)
  | 0, _, _ => none
  | fu + 1, M, x5 => (Po_change_122b E M x1 x2 x5).bind fun (t, w5, N) => if t = 0 then l_Po_change_122 E x1 x2 fu N w5 else some (t, w5, N)
def f_Po_change (E : Ev) (M : Mm) (x1 : Int) (x2 : Int) : Option Mm :=
  ck (rgI x2) <|
  (if x2 = 0 then
  some M
  else
  ck (inb x1 31) <|
  nb (u2 (u2 M 42 x1.toNat ((M 42 x1.toNat) + x2)) 41 2 (((u2 M 42 x1.toNat ((M 42 x1.toNat) + x2)) 41 2) + x2)) fun (M2 : Mm) =>
  (f_Bx_soleTopOf E M2 x1 (M2 41 1)).bind fun r3 =>
  ck (rgI r3) <|
  (if r3 = (-1) then
  (l_Po_change_62 E x1 x2 FU M2 (M2 41 1) 0).bind fun (t15, v15_4, v15_5, M15) =>
  ck (t15 = 1) <|
  (l_Po_change_122 E x1 x2 FU M15 0).bind fun (t24, v24_5, M24) =>
  ck (t24 = 1) <|
  some M24
  else
  ck (inb r3 8) <|
  nb (((u2 M2 43 r3.toNat ((M2 43 r3.toNat) + x2)) 41 1)) fun (v26 : Int) =>
  (l_Po_change_62 E x1 x2 FU (u2 M2 43 r3.toNat ((M2 43 r3.toNat) + x2)) v26 0).bind fun (t27, v27_4, v27_5, M27) =>
  ck (t27 = 1) <|
  (l_Po_change_122 E x1 x2 FU M27 0).bind fun (t28, v28_5, M28) =>
  ck (t28 = 1) <|
  some M28))
def Po_open_44b (E : Ev) (M : Mm) (x2 : Int) : Option (Nat × Int × Mm) :=
  ck (rgI x2) <|
  ck (rgI (M 2 3)) <|
  (if (M 2 3) ≤ x2 then
  some (1, x2, M)
  else
  ck (inb x2 31) <|
  (f_Po_change E M x2 (M 5 x2.toNat)).bind fun M7 =>
  some (0, (x2 + 1), M7))
def l_Po_open_44 (E : Ev) : Nat → Mm → Int → Option (Nat × Int × Mm)
  | 0, _, _ => none
  | fu + 1, M, x2 => (Po_open_44b E M x2).bind fun (t, w2, N) => if t = 0 then l_Po_open_44 E fu N w2 else some (t, w2, N)
def f_Po_open (E : Ev) (M : Mm) (x1 : Int) : Option Mm :=
  (f_Ar_fillI E (u2 (u2 M 41 1 x1) 41 2 0) 42 0).bind fun M0 =>
  (f_Ar_fillI E M0 43 0).bind fun M1 =>
  (f_Ar_fillI E M1 44 0).bind fun M2 =>
  (f_Ar_fillI E M2 45 0).bind fun M3 =>
  (l_Po_open_44 E FU M3 0).bind fun (t8, v8_2, M8) =>
  ck (t8 = 1) <|
  some M8
def f_Po_pair (E : Ev) (M : Mm) (x1 : Int) (x2 : Int) : Option Int :=
  ck (inb ((x1 * 8) + x2) 64) <|
  some (M 45 ((x1 * 8) + x2).toNat)
def f_B_ahead (E : Ev) (M : Mm) (x1 : Int) (x2 : Int) : Option (Int × Mm) :=
  (f_B_needIndex E M x1 (M 2 2)).bind fun _u =>
  (f_B_needIndex E M x2 (M 2 2)).bind fun _u =>
  (f_Bx_everybody E M).bind fun r2 =>
  (f_Po_open E M r2).bind fun M3 =>
  (f_Po_pair E M3 x1 x2).bind fun r4 =>
  some (r4, M3)
def Bx_ballotsOf_5b (E : Ev) (M : Mm) (q1 : Nat) (x2 : Int) (x3 : Int) (x4 : Int) : Option (Nat × Int × Int) :=
  ck (isIA E q1) <|
  ck (rgI x4) <|
  ck (rgI x2) <|
  (if x2 ≤ x4 then
  some (1, x3, x4)
  else
  ck (inb x4 (tE E q1).2) <|
  some (0, (x3 + (M q1 x4.toNat)), (x4 + 1)))
def l_Bx_ballotsOf_5 (E : Ev) (q1 : Nat) (x2 : Int) : Nat → Mm → Int → Int → Option (Nat × Int × Int)
  | 0, _, _, _ => none
  | fu + 1, M, x3, x4 => (Bx_ballotsOf_5b E M q1 x2 x3 x4).bind fun (t, w3, w4) => if t = 0 then l_Bx_ballotsOf_5 E q1 x2 fu M w3 w4 else some (t, w3, w4)
def f_Bx_ballotsOf (E : Ev) (M : Mm) (p1 : Nat) (x2 : Int) : Option Int :=
  ck (isIA E p1) <|
  (l_Bx_ballotsOf_5 E p1 x2 FU M 0 0).bind fun (t3, v3_3, v3_4) =>
  ck (t3 = 1) <|
  some v3_3
def f_B_allBallots (E : Ev) (M : Mm) : Option Int :=
  (f_Bx_ballotsOf E M 5 (M 2 3)).bind fun r0 =>
  some r0
def f_B_needRange (E : Ev) (M : Mm) (x0 : Int) (x1 : Int) (x2 : Int) : Option Unit :=
  ck (rgI x0) <|
  ck (rgI x1) <|
  (if x0 < x1 then
  none
  else
  ck (rgI x2) <|
  (if x0 ≤ x2 then
  some ()
  else
  none))
def f_B_remember (E : Ev) (M : Mm) (x1 : Int) (x2 : Int) (x3 : Int) : Option Mm :=
  ck (nnI ((M 1 10) + 1)) <|
  ck (inb ((u2 M 1 10 (((M 1 10) + 1) % 20)) 1 10) 20) <|
  nb (u2 (u2 M 1 10 (((M 1 10) + 1) % 20)) 246 ((u2 M 1 10 (((M 1 10) + 1) % 20)) 1 10).toNat x1) fun (M2 : Mm) =>
  ck (inb (M2 1 10) 20) <|
  ck (inb ((u2 M2 247 (M2 1 10).toNat x2) 1 10) 20) <|
  ck (rgI (((u2 (u2 M2 247 (M2 1 10).toNat x2) 248 ((u2 M2 247 (M2 1 10).toNat x2) 1 10).toNat x3) 1 11) + 1)) <|
  nb ((min (((u2 (u2 M2 247 (M2 1 10).toNat x2) 248 ((u2 M2 247 (M2 1 10).toNat x2) 1 10).toNat x3) 1 11) + 1) 20)) fun (v6 : Int) =>
  nb (u2 (u2 (u2 M2 247 (M2 1 10).toNat x2) 248 ((u2 M2 247 (M2 1 10).toNat x2) 1 10).toNat x3) 1 11 v6) fun (M7 : Mm) =>
  some M7
def f_B_ally (E : Ev) (M : Mm) (x1 : Int) (x2 : Int) : Option (Int × Mm) :=
  (f_B_needIndex E M x1 (M 53 0)).bind fun _u =>
  (f_B_needRange E M x2 0 4).bind fun _u =>
  ck (inb x1 8) <|
  (f_B_remember E (u2 M 55 x1.toNat x2) 7 x1 (M 55 x1.toNat)).bind fun M3 =>
  some ((M 55 x1.toNat), M3)
def f_B_appendByte (E : Ev) (M : Mm) (x1 : Int) : Option Mm :=
  ck (rgI (M 1 13)) <|
  (if 240 ≤ (M 1 13) then
  some M
  else
  ck (inb (M 1 13) 240) <|
  some (u2 (u2 M 249 (M 1 13).toNat x1) 1 13 (((u2 M 249 (M 1 13).toNat x1) 1 13) + 1)))
def Na_trimTo_10b (E : Ev) (M : Mm) (q0 : Nat) : Option (Nat × Mm) :=
  ck (isNa E q0) <|
  ck (rgI (M q0 1)) <|
  (if (M q0 1) ≤ 0 then
  some (1, M)
  else
  ck (inb ((M q0 1) - 1) 13) <|
  ck (rgI (M (q0 + 1) ((M q0 1) - 1).toNat)) <|
  (if (M (q0 + 1) ((M q0 1) - 1).toNat) = 0 then
  some (0, (u2 M q0 1 ((M q0 1) - 1)))
  else
  some (1, M)))
def l_Na_trimTo_10 (E : Ev) (q0 : Nat) : Nat → Mm → Option (Nat × Mm)
  | 0, _ => none
  | fu + 1, M => (Na_trimTo_10b E M q0).bind fun (t, N) => if t = 0 then l_Na_trimTo_10 E q0 fu N else some (t, N)
def f_Na_trimTo (E : Ev) (M : Mm) (p0 : Nat) (x1 : Int) : Option Mm :=
  ck (isNa E p0) <|
  ck (rgI x1) <|
  (l_Na_trimTo_10 E p0 FU (u2 M p0 1 (min x1 13))).bind fun (t4, M4) =>
  ck (t4 = 1) <|
  some M4
def Na_divideSmall_16b (E : Ev) (M : Mm) (q0 : Nat) (x1 : Int) (x2 : Int) (x4 : Int) : Option (Nat × Int × Int × Mm) :=
  ck (isNa E q0) <|
  ck (rgI x4) <|
  (if x4 < 0 then
  some (1, x2, x4, M)
  else
  ck (inb x4 13) <|
  ck (rgI (M (q0 + 1) x4.toNat)) <|
  nb (((x2 * 1073741824) + (M (q0 + 1) x4.toNat))) fun (v4 : Int) =>
  ck (rgI x1) <|
  ck (nnJ v4) <|
  ck (psJ x1) <|
  ck (psJ x1) <|
  some (0, (v4 % x1), (x4 + (-1)), (u2 M (q0 + 1) x4.toNat (v4 / x1))))
def l_Na_divideSmall_16 (E : Ev) (q0 : Nat) (x1 : Int) : Nat → Mm → Int → Int → Option (Nat × Int × Int × Mm)
  | 0, _, _, _ => none
  | fu + 1, M, x2, x4 => (Na_divideSmall_16b E M q0 x1 x2 x4).bind fun (t, w2, w4, N) => if t = 0 then l_Na_divideSmall_16 E q0 x1 fu N w2 w4 else some (t, w2, w4, N)
def f_Na_divideSmall (E : Ev) (M : Mm) (p0 : Nat) (x1 : Int) : Option (Int × Mm) :=
  ck (isNa E p0) <|
  ck (rgI x1) <|
  (if 0 < x1 then
  (l_Na_divideSmall_16 E p0 x1 FU M 0 ((M p0 1) - 1)).bind fun (t9, v9_2, v9_4, M9) =>
  ck (t9 = 1) <|
  (f_Na_trimTo E M9 p0 (M9 p0 1)).bind fun M10 =>
  some (v9_2, M10)
  else
  some (0, M))
def B_appendNumber_20b (E : Ev) (M : Mm) (q1 : Nat) (x2 : Int) (x3 : Int) : Option (Nat × Int × Mm) :=
  ck (isNa E q1) <|
  ck (rgI x3) <|
  (if 240 ≤ x3 then
  some (1, x3, M)
  else
  ck (rgI (M q1 1)) <|
  (if (M q1 1) ≤ 0 then
  some (1, x3, M)
  else
  (f_Na_divideSmall E M q1 10).bind fun (r4, M4) =>
  (f_B_appendByte E M4 (48 + r4)).bind fun M5 =>
  some (0, (x3 + 1), M5)))
def l_B_appendNumber_20 (E : Ev) (q1 : Nat) (x2 : Int) : Nat → Mm → Int → Option (Nat × Int × Mm)
  | 0, _, _ => none
  | fu + 1, M, x3 => (B_appendNumber_20b E M q1 x2 x3).bind fun (t, w3, N) => if t = 0 then l_B_appendNumber_20 E q1 x2 fu N w3 else some (t, w3, N)
def B_appendNumber_63b (E : Ev) (M : Mm) (x3 : Int) (x4 : Int) : Option (Nat × Int × Int × Mm) :=
  ck (rgI x3) <|
  ck (rgI x4) <|
  (if x4 ≤ x3 then
  some (1, x3, x4, M)
  else
  ck (inb x3 240) <|
  ck (inb x4 240) <|
  some (0, (x3 + 1), (x4 + (-1)), (u2 (u2 M 249 x3.toNat (M 249 x4.toNat)) 249 x4.toNat (M 249 x3.toNat))))
def l_B_appendNumber_63 (E : Ev) : Nat → Mm → Int → Int → Option (Nat × Int × Int × Mm)
  | 0, _, _, _ => none
  | fu + 1, M, x3, x4 => (B_appendNumber_63b E M x3 x4).bind fun (t, w3, w4, N) => if t = 0 then l_B_appendNumber_63 E fu N w3 w4 else some (t, w3, w4, N)
def f_B_appendNumber (E : Ev) (M : Mm) (p1 : Nat) : Option Mm :=
  ck (isNa E p1) <|
  (f_Na_divideSmall E M p1 10).bind fun (r0, M0) =>
  (f_B_appendByte E M0 (48 + r0)).bind fun M1 =>
  (l_B_appendNumber_20 E p1 (M 1 13) FU M1 1).bind fun (t6, v6_3, M6) =>
  ck (t6 = 1) <|
  (l_B_appendNumber_63 E FU M6 (M 1 13) ((M6 1 13) - 1)).bind fun (t11, v11_3, v11_4, M11) =>
  ck (t11 = 1) <|
  some M11
def f_Bx_clearTrial (E : Ev) (M : Mm) : Option Mm :=
  (f_Ar_fillI E (u2 (u2 M 7 30 0) 6 30 0) 39 0).bind fun M0 =>
  some M0
def Bx_rankOnTrial_j27 (E : Ev) (M : Mm) (x1 : Int) : Option Mm :=
  ck (rgI ((M 7 30) - 1)) <|
  ck (inb (max ((M 7 30) - 1) 0) 8) <|
  ck (shI x1) <|
  ck (nnI (M 39 (max ((M 7 30) - 1) 0).toNat)) <|
  ck (nnI (2 ^ x1.toNat)) <|
  nb ((orI (M 39 (max ((M 7 30) - 1) 0).toNat) (2 ^ x1.toNat))) fun (v6 : Int) =>
  some (u2 M 39 (max ((M 7 30) - 1) 0).toNat v6)
def f_Bx_rankOnTrial (E : Ev) (M : Mm) (x1 : Int) (x2 : Int) : Option Mm :=
  ck (rgI x2) <|
  (if x2 = 0 then
  Bx_rankOnTrial_j27 E M x1
  else
  ck (rgI (M 7 30)) <|
  (if 8 ≤ (M 7 30) then
  Bx_rankOnTrial_j27 E M x1
  else
  Bx_rankOnTrial_j27 E (u2 M 7 30 ((M 7 30) + 1)) x1))
def Bx_readTrial_j146 (E : Ev) (M : Mm) (x1 : Int) (x2 : Int) (x4 : Int) (x5 : Int) (y0 : Int) : Option (Nat × Int × Int × Int × Int × Int × Mm) :=
  ck (rgI x4) <|
  (if x4 = 0 then
  some (0, x1, x2, y0, 1, (x5 + 1), M)
  else
  some (0, x1, x2, y0, 0, (x5 + 1), M))
def Bx_readTrial_j134 (E : Ev) (M : Mm) (x1 : Int) (x2 : Int) (x4 : Int) (x5 : Int) (x6 : Int) : Option (Nat × Int × Int × Int × Int × Int × Mm) :=
  ck (rgI x6) <|
  (if x6 = 61 then
  Bx_readTrial_j146 E M x1 x2 x4 x5 0
  else
  Bx_readTrial_j146 E M x1 x2 x4 x5 1)
def Bx_readTrial_j117 (E : Ev) (M : Mm) (x1 : Int) (x2 : Int) (x4 : Int) (x5 : Int) (x6 : Int) : Option (Nat × Int × Int × Int × Int × Int × Mm) :=
  ck (rgI x6) <|
  (if x6 = 62 then
  Bx_readTrial_j134 E M x1 x2 x4 x5 x6
  else
  (if x6 = 61 then
  Bx_readTrial_j134 E M x1 x2 x4 x5 x6
  else
  some (2, x1, x2, 0, x4, x5, M)))
def Bx_readTrial_27b (E : Ev) (M : Mm) (x1 : Int) (x2 : Int) (x3 : Int) (x4 : Int) (x5 : Int) : Option (Nat × Int × Int × Int × Int × Int × Mm) :=
  ck (rgI x5) <|
  ck (rgI (M 2 1)) <|
  (if (M 2 1) ≤ x5 then
  some (3, x1, x2, x3, x4, x5, M)
  else
  ck (inb x5 30) <|
  ck (rgI x4) <|
  (if x4 = 0 then
  ck (rgI (M 3 x5.toNat)) <|
  (if (M 3 x5.toNat) = 124 then
  ck (rgI x2) <|
  (if x2 = (-1) then
  Bx_readTrial_j134 E M x1 x1 x4 x5 (M 3 x5.toNat)
  else
  Bx_readTrial_j117 E M x1 x2 x4 x5 (M 3 x5.toNat))
  else
  Bx_readTrial_j117 E M x1 x2 x4 x5 (M 3 x5.toNat))
  else
  ck (rgI ((M 3 x5.toNat) - 65)) <|
  (if ((M 3 x5.toNat) - 65) < 0 then
  some (1, x1, x2, x3, x4, x5, M)
  else
  ck (rgI (M 2 2)) <|
  (if (M 2 2) ≤ ((M 3 x5.toNat) - 65) then
  some (1, x1, x2, x3, x4, x5, M)
  else
  (f_B_has E M x1 ((M 3 x5.toNat) - 65)).bind fun r13 =>
  ck (rgI r13) <|
  (if r13 = 0 then
  ck (shI ((M 3 x5.toNat) - 65)) <|
  ck (nnI x1) <|
  ck (nnI (2 ^ ((M 3 x5.toNat) - 65).toNat)) <|
  nb ((orI x1 (2 ^ ((M 3 x5.toNat) - 65).toNat))) fun (v18 : Int) =>
  (f_Bx_rankOnTrial E M ((M 3 x5.toNat) - 65) x3).bind fun M19 =>
  Bx_readTrial_j134 E M19 v18 x2 x4 x5 (M 3 x5.toNat)
  else
  some (1, x1, x2, x3, x4, x5, M))))))
def l_Bx_readTrial_27 (E : Ev) : Nat → Mm → Int → Int → Int → Int → Int → Option (Nat × Int × Int × Int × Int × Int × Mm)
  | 0, _, _, _, _, _, _ => none
  | fu + 1, M, x1, x2, x3, x4, x5 => (Bx_readTrial_27b E M x1 x2 x3 x4 x5).bind fun (t, w1, w2, w3, w4, w5, N) => if t = 0 then l_Bx_readTrial_27 E fu N w1 w2 w3 w4 w5 else some (t, w1, w2, w3, w4, w5, N)
def Bx_readTrial_j199 (E : Ev) (M : Mm) (y0 : Int) (y1 : Int) (y2 : Nat) : Option (Int × Mm) :=
  ck (isIA E y2) <|
  ck (inb y1 (tE E y2).2) <|
  some ((-1), (u2 M y2 y1.toNat y0))
def f_Bx_readTrial (E : Ev) (M : Mm) : Option (Int × Mm) :=
  (f_Bx_clearTrial E M).bind fun M0 =>
  ck (rgI (M0 2 1)) <|
  (if (M0 2 1) ≤ 0 then
  (l_Bx_readTrial_27 E FU M0 0 (-1) 1 0 0).bind fun (t20, v20_1, v20_2, v20_3, v20_4, v20_5, M20) =>
  (if t20 = 1 then
  some (v20_5, M20)
  else (if t20 = 2 then
  some (v20_5, M20)
  else (if t20 = 3 then
  ck (rgI v20_4) <|
  (if v20_4 = 0 then
  ck (rgI v20_2) <|
  (if v20_2 = (-1) then
  Bx_readTrial_j199 E M20 (M20 39 0) 30 6
  else
  Bx_readTrial_j199 E M20 v20_2 30 6)
  else
  some ((M20 2 1), M20))
  else none)))
  else
  (l_Bx_readTrial_27 E FU M0 0 (-1) 1 1 0).bind fun (t24, v24_1, v24_2, v24_3, v24_4, v24_5, M24) =>
  (if t24 = 1 then
  some (v24_5, M24)
  else (if t24 = 2 then
  some (v24_5, M24)
  else (if t24 = 3 then
  ck (rgI v24_4) <|
  (if v24_4 = 0 then
  ck (rgI v24_2) <|
  (if v24_2 = (-1) then
  Bx_readTrial_j199 E M24 (M24 39 0) 30 6
  else
  Bx_readTrial_j199 E M24 v24_2 30 6)
  else
  some ((M24 2 1), M24))
  else none))))
def Bx_isLikeTrial_36b (E : Ev) (M : Mm) (x1 : Int) (x2 : Int) : Option (Nat × Int) :=
  ck (inb x1 31) <|
  ck (rgI x2) <|
  ck (rgI (M 7 x1.toNat)) <|
  (if (M 7 x1.toNat) ≤ x2 then
  some (2, x2)
  else
  ck (inb x2 8) <|
  ck (rgI (M (9 + x1.toNat) x2.toNat)) <|
  ck (rgI (M 39 x2.toNat)) <|
  (if (M (9 + x1.toNat) x2.toNat) = (M 39 x2.toNat) then
  some (0, (x2 + 1))
  else
  some (1, x2)))
def l_Bx_isLikeTrial_36 (E : Ev) (x1 : Int) : Nat → Mm → Int → Option (Nat × Int)
  | 0, _, _ => none
  | fu + 1, M, x2 => (Bx_isLikeTrial_36b E M x1 x2).bind fun (t, w2) => if t = 0 then l_Bx_isLikeTrial_36 E x1 fu M w2 else some (t, w2)
def f_Bx_isLikeTrial (E : Ev) (M : Mm) (x1 : Int) : Option Int :=
  ck (inb x1 31) <|
  ck (rgI (M 7 x1.toNat)) <|
  ck (rgI (M 7 30)) <|
  (if (M 7 x1.toNat) = (M 7 30) then
  ck (rgI (M 6 x1.toNat)) <|
  ck (rgI (M 6 30)) <|
  (if (M 6 x1.toNat) = (M 6 30) then
  (l_Bx_isLikeTrial_36 E x1 FU M 0).bind fun (t11, v11_2) =>
  (if t11 = 1 then
  some 0
  else (if t11 = 2 then
  some 1
  else none))
  else
  some 0)
  else
  some 0)
def Bx_kindOfTrial_2b (E : Ev) (M : Mm) (x1 : Int) : Option (Nat × Int) :=
  ck (rgI x1) <|
  ck (rgI (M 2 3)) <|
  (if (M 2 3) ≤ x1 then
  some (2, x1)
  else
  (f_Bx_isLikeTrial E M x1).bind fun r2 =>
  ck (rgI r2) <|
  (if r2 = 0 then
  some (0, (x1 + 1))
  else
  some (1, x1)))
def l_Bx_kindOfTrial_2 (E : Ev) : Nat → Mm → Int → Option (Nat × Int)
  | 0, _, _ => none
  | fu + 1, M, x1 => (Bx_kindOfTrial_2b E M x1).bind fun (t, w1) => if t = 0 then l_Bx_kindOfTrial_2 E fu M w1 else some (t, w1)
def f_Bx_kindOfTrial (E : Ev) (M : Mm) : Option Int :=
  (l_Bx_kindOfTrial_2 E FU M 0).bind fun (t4, v4_1) =>
  (if t4 = 1 then
  some v4_1
  else (if t4 = 2 then
  some (-1)
  else none))
def f_B_needRoom (E : Ev) (M : Mm) (x0 : Int) (x1 : Int) : Option Unit :=
  ck (rgI x0) <|
  ck (rgI x1) <|
  (if x0 ≤ x1 then
  some ()
  else
  none)
def f_Bx_keepTrial (E : Ev) (M : Mm) : Option (Int × Mm) :=
  ck (inb (M 2 3) 31) <|
  nb (((u2 M 5 (M 2 3).toNat 0) 6 30)) fun (v1 : Int) =>
  nb (((u2 (u2 M 5 (M 2 3).toNat 0) 6 (M 2 3).toNat v1) 7 30)) fun (v2 : Int) =>
  ck (cpk 0 0 8 8 8) <|
  nb (uA (u2 (u2 (u2 M 5 (M 2 3).toNat 0) 6 (M 2 3).toNat v1) 7 (M 2 3).toNat v2) (9 + (M 2 3).toNat) (va_cpy ((u2 (u2 (u2 M 5 (M 2 3).toNat 0) 6 (M 2 3).toNat v1) 7 (M 2 3).toNat v2) 39) ((u2 (u2 (u2 M 5 (M 2 3).toNat 0) 6 (M 2 3).toNat v1) 7 (M 2 3).toNat v2) (9 + (M 2 3).toNat)) 0 0 8)) fun (M4 : Mm) =>
  some ((M 2 3), (u2 M4 2 3 ((M4 2 3) + 1)))
def B_ballots_j109 (E : Ev) (M : Mm) (x1 : Int) (x3 : Int) : Option (Int × Mm) :=
  ck (inb x3 31) <|
  nb ((((u2 M 2 1 0) 5 x3.toNat) + x1)) fun (v9 : Int) =>
  some (x3, (u2 (u2 M 2 1 0) 5 x3.toNat v9))
def f_B_ballots (E : Ev) (M : Mm) (x1 : Int) : Option (Int × Mm) :=
  (f_B_needRange E M x1 1 100000).bind fun _u =>
  (f_Bx_readTrial E M).bind fun (r1, M1) =>
  ck (rgI r1) <|
  (if r1 = (-1) then
  (f_Bx_kindOfTrial E M1).bind fun r3 =>
  ck (rgI r3) <|
  (if r3 = (-1) then
  (f_B_needRoom E M1 ((M1 2 3) + 1) 30).bind fun _u =>
  (f_Bx_keepTrial E M1).bind fun (r11, M11) =>
  (f_B_remember E M11 3 r11 0).bind fun M12 =>
  B_ballots_j109 E M12 x1 r11
  else
  ck (inb r3 31) <|
  (f_B_needRoom E M1 ((M1 5 r3.toNat) + x1) 1000000).bind fun _u =>
  (f_B_remember E M1 4 r3 (M1 5 r3.toNat)).bind fun M7 =>
  B_ballots_j109 E M7 x1 r3)
  else
  some (((-3) - r1), (u2 M1 2 1 0)))
def f_Po_beats (E : Ev) (M : Mm) (x1 : Int) (x2 : Int) : Option Int :=
  (f_Po_pair E M x1 x2).bind fun r0 =>
  (f_Po_pair E M x2 x1).bind fun r1 =>
  ck (rgI r0) <|
  ck (rgI r1) <|
  (if r0 ≤ r1 then
  some 0
  else
  some 1)
def Po_findBeaten_23b (E : Ev) (M : Mm) (x1 : Int) (x2 : Int) : Option (Nat × Int × Mm) :=
  ck (rgI x2) <|
  ck (rgI (M 2 2)) <|
  (if (M 2 2) ≤ x2 then
  some (1, x2, M)
  else
  (f_Po_beats E M x1 x2).bind fun r5 =>
  ck (rgI r5) <|
  (if r5 = 0 then
  some (0, (x2 + 1), M)
  else
  ck (inb x1 8) <|
  ck (shI x2) <|
  ck (nnI (M 46 x1.toNat)) <|
  ck (nnI (2 ^ x2.toNat)) <|
  nb ((orI (M 46 x1.toNat) (2 ^ x2.toNat))) fun (v11 : Int) =>
  some (0, (x2 + 1), (u2 M 46 x1.toNat v11))))
def l_Po_findBeaten_23 (E : Ev) (x1 : Int) : Nat → Mm → Int → Option (Nat × Int × Mm)
  | 0, _, _ => none
  | fu + 1, M, x2 => (Po_findBeaten_23b E M x1 x2).bind fun (t, w2, N) => if t = 0 then l_Po_findBeaten_23 E x1 fu N w2 else some (t, w2, N)
def Po_findBeaten_10b (E : Ev) (M : Mm) (x1 : Int) : Option (Nat × Int × Mm) :=
  ck (rgI x1) <|
  ck (rgI (M 2 2)) <|
  (if (M 2 2) ≤ x1 then
  some (1, x1, M)
  else
  (l_Po_findBeaten_23 E x1 FU M 0).bind fun (t12, v12_2, M12) =>
  ck (t12 = 1) <|
  some (0, (x1 + 1), M12))
def l_Po_findBeaten_10 (E : Ev) : Nat → Mm → Int → Option (Nat × Int × Mm)
  | 0, _, _ => none
  | fu + 1, M, x1 => (Po_findBeaten_10b E M x1).bind fun (t, w1, N) => if t = 0 then l_Po_findBeaten_10 E fu N w1 else some (t, w1, N)
def f_Po_findBeaten (E : Ev) (M : Mm) : Option Mm :=
  (f_Ar_fillI E M 46 0).bind fun M0 =>
  (l_Po_findBeaten_10 E FU M0 0).bind fun (t13, v13_1, M13) =>
  ck (t13 = 1) <|
  some M13
def Po_isBeatingSet_2b (E : Ev) (M : Mm) (x1 : Int) (x2 : Int) : Option (Nat × Int) :=
  ck (rgI x2) <|
  ck (rgI (M 2 2)) <|
  (if (M 2 2) ≤ x2 then
  some (2, x2)
  else
  (f_B_has E M x1 x2).bind fun r2 =>
  ck (rgI r2) <|
  (if r2 = 0 then
  some (0, (x2 + 1))
  else
  ck (inb x2 8) <|
  ck (nnI (M 46 x2.toNat)) <|
  ck (nnI x1) <|
  ck (rgI (orI (M 46 x2.toNat) x1)) <|
  ck (rgI (M 41 1)) <|
  (if (orI (M 46 x2.toNat) x1) = (M 41 1) then
  some (0, (x2 + 1))
  else
  some (1, x2))))
def l_Po_isBeatingSet_2 (E : Ev) (x1 : Int) : Nat → Mm → Int → Option (Nat × Int)
  | 0, _, _ => none
  | fu + 1, M, x2 => (Po_isBeatingSet_2b E M x1 x2).bind fun (t, w2) => if t = 0 then l_Po_isBeatingSet_2 E x1 fu M w2 else some (t, w2)
def f_Po_isBeatingSet (E : Ev) (M : Mm) (x1 : Int) : Option Int :=
  (l_Po_isBeatingSet_2 E x1 FU M 0).bind fun (t9, v9_2) =>
  (if t9 = 1 then
  some 0
  else (if t9 = 2 then
  some 1
  else none))
def Po_smallestBeatingSet_11b (E : Ev) (M : Mm) (x1 : Int) (x2 : Int) : Option (Nat × Int × Int × Mm) :=
  ck (rgI x2) <|
  ck (rgI (M 41 1)) <|
  (if (M 41 1) ≤ x2 then
  some (1, x1, x2, M)
  else
  (f_In_bitCount E M x2).bind fun r3 =>
  (f_In_bitCount E M x1).bind fun r4 =>
  ck (rgI r3) <|
  ck (rgI r4) <|
  (if r4 ≤ r3 then
  some (0, x1, (x2 + 1), M)
  else
  (f_Po_isBeatingSet E M x2).bind fun r7 =>
  ck (rgI r7) <|
  (if r7 = 0 then
  some (0, x1, (x2 + 1), M)
  else
  some (0, x2, (x2 + 1), M))))
def l_Po_smallestBeatingSet_11 (E : Ev) : Nat → Mm → Int → Int → Option (Nat × Int × Int × Mm)
  | 0, _, _, _ => none
  | fu + 1, M, x1, x2 => (Po_smallestBeatingSet_11b E M x1 x2).bind fun (t, w1, w2, N) => if t = 0 then l_Po_smallestBeatingSet_11 E fu N w1 w2 else some (t, w1, w2, N)
def f_Po_smallestBeatingSet (E : Ev) (M : Mm) : Option (Int × Mm) :=
  (f_Po_findBeaten E M).bind fun M0 =>
  (l_Po_smallestBeatingSet_11 E FU M0 (M0 41 1) 1).bind fun (t9, v9_1, v9_2, M9) =>
  ck (t9 = 1) <|
  some (v9_1, M9)
def f_B_beatingSet (E : Ev) (M : Mm) : Option (Int × Mm) :=
  (f_Bx_everybody E M).bind fun r0 =>
  (f_Po_open E M r0).bind fun M1 =>
  (f_Po_smallestBeatingSet E M1).bind fun (r2, M2) =>
  some (r2, M2)
def Po_beaterOfAll_6b (E : Ev) (M : Mm) (x1 : Int) : Option (Nat × Int × Mm) :=
  ck (rgI x1) <|
  ck (rgI (M 2 2)) <|
  (if (M 2 2) ≤ x1 then
  some (2, x1, M)
  else
  ck (inb x1 8) <|
  ck (shI x1) <|
  ck (nnI (M 41 1)) <|
  ck (nnI (2 ^ x1.toNat)) <|
  ck (rgI (M 46 x1.toNat)) <|
  (if (M 46 x1.toNat) = (dfI (M 41 1) (2 ^ x1.toNat)) then
  some (1, x1, M)
  else
  some (0, (x1 + 1), M)))
def l_Po_beaterOfAll_6 (E : Ev) : Nat → Mm → Int → Option (Nat × Int × Mm)
  | 0, _, _ => none
  | fu + 1, M, x1 => (Po_beaterOfAll_6b E M x1).bind fun (t, w1, N) => if t = 0 then l_Po_beaterOfAll_6 E fu N w1 else some (t, w1, N)
def f_Po_beaterOfAll (E : Ev) (M : Mm) : Option (Int × Mm) :=
  (f_Po_findBeaten E M).bind fun M0 =>
  (l_Po_beaterOfAll_6 E FU M0 0).bind fun (t8, v8_1, M8) =>
  (if t8 = 1 then
  some (v8_1, M8)
  else (if t8 = 2 then
  some ((-1), M8)
  else none))
def f_B_beatsAll (E : Ev) (M : Mm) : Option (Int × Mm) :=
  (f_Bx_everybody E M).bind fun r0 =>
  (f_Po_open E M r0).bind fun M1 =>
  (f_Po_beaterOfAll E M1).bind fun (r2, M2) =>
  some (r2, M2)
def f_B_candidate (E : Ev) (M : Mm) : Option (Int × Mm) :=
  (f_B_needRoom E M ((M 2 2) + 1) 8).bind fun _u =>
  ck (inb (M 2 2) 8) <|
  (f_B_remember E (u2 (u2 M 4 (M 2 2).toNat (M 2 2)) 2 2 (((u2 M 4 (M 2 2).toNat (M 2 2)) 2 2) + 1)) 0 (M 2 2) 0).bind fun M2 =>
  some ((M 2 2), M2)
def f_B_needPlace (E : Ev) (M : Mm) (x0 : Int) (x1 : Int) : Option Unit :=
  ck (rgI x0) <|
  (if x0 < 0 then
  none
  else
  ck (rgI x1) <|
  (if x0 < x1 then
  some ()
  else
  none))
def Po_distanceWithFirst_19b (E : Ev) (M : Mm) (x2 : Int) (x3 : Int) (x4 : Int) (x6 : Int) : Option (Nat × Int × Int) :=
  ck (rgI x6) <|
  ck (rgI (M 2 2)) <|
  (if (M 2 2) ≤ x6 then
  some (1, x4, x6)
  else
  (f_B_has E M x3 x6).bind fun r7 =>
  ck (rgI r7) <|
  (if r7 = 0 then
  some (0, x4, (x6 + 1))
  else
  (f_Po_pair E M x6 x2).bind fun r9 =>
  ck (rgI r9) <|
  some (0, (x4 + r9), (x6 + 1))))
def l_Po_distanceWithFirst_19 (E : Ev) (x2 : Int) (x3 : Int) : Nat → Mm → Int → Int → Option (Nat × Int × Int)
  | 0, _, _, _ => none
  | fu + 1, M, x4, x6 => (Po_distanceWithFirst_19b E M x2 x3 x4 x6).bind fun (t, w4, w6) => if t = 0 then l_Po_distanceWithFirst_19 E x2 x3 fu M w4 w6 else some (t, w4, w6)
def f_Po_distanceWithFirst (E : Ev) (M : Mm) (x1 : Int) (x2 : Int) : Option Int :=
  ck (shI x2) <|
  ck (nnI x1) <|
  ck (nnI (2 ^ x2.toNat)) <|
  ck (inb (dfI x1 (2 ^ x2.toNat)) 256) <|
  nb ((M 50 (dfI x1 (2 ^ x2.toNat)).toNat)) fun (v4 : Int) =>
  (l_Po_distanceWithFirst_19 E x2 (dfI x1 (2 ^ x2.toNat)) FU M v4 0).bind fun (t11, v11_4, v11_6) =>
  ck (t11 = 1) <|
  some v11_4
def Po_findDistances_24b (E : Ev) (M : Mm) (x1 : Int) (x2 : Int) (x4 : Int) : Option (Nat × Int × Int × Mm) :=
  ck (rgI x4) <|
  ck (rgI (M 2 2)) <|
  (if (M 2 2) ≤ x4 then
  some (1, x2, x4, M)
  else
  (f_B_has E M x1 x4).bind fun r4 =>
  ck (rgI r4) <|
  (if r4 = 0 then
  some (0, x2, (x4 + 1), M)
  else
  (f_Po_distanceWithFirst E M x1 x4).bind fun r6 =>
  ck (rgJ x2) <|
  (if x2 = (-1) then
  some (0, r6, (x4 + 1), M)
  else
  ck (rgJ r6) <|
  some (0, (min x2 r6), (x4 + 1), M))))
def l_Po_findDistances_24 (E : Ev) (x1 : Int) : Nat → Mm → Int → Int → Option (Nat × Int × Int × Mm)
  | 0, _, _, _ => none
  | fu + 1, M, x2, x4 => (Po_findDistances_24b E M x1 x2 x4).bind fun (t, w2, w4, N) => if t = 0 then l_Po_findDistances_24 E x1 fu N w2 w4 else some (t, w2, w4, N)
def Po_findDistances_9b (E : Ev) (M : Mm) (x1 : Int) : Option (Nat × Int × Mm) :=
  ck (rgI x1) <|
  ck (rgI (M 41 1)) <|
  (if (M 41 1) < x1 then
  some (1, x1, M)
  else
  (l_Po_findDistances_24 E x1 FU M (-1) 0).bind fun (t9, v9_2, v9_4, M9) =>
  ck (t9 = 1) <|
  ck (inb x1 256) <|
  some (0, (x1 + 1), (u2 M9 50 x1.toNat v9_2)))
def l_Po_findDistances_9 (E : Ev) : Nat → Mm → Int → Option (Nat × Int × Mm)
  | 0, _, _ => none
  | fu + 1, M, x1 => (Po_findDistances_9b E M x1).bind fun (t, w1, N) => if t = 0 then l_Po_findDistances_9 E fu N w1 else some (t, w1, N)
def f_Po_findDistances (E : Ev) (M : Mm) : Option Mm :=
  (l_Po_findDistances_9 E FU (u2 M 50 0 0) 1).bind fun (t11, v11_1, M11) =>
  ck (t11 = 1) <|
  some M11
def Po_firstOfConsensus_2b (E : Ev) (M : Mm) (x1 : Int) (x2 : Int) : Option (Nat × Int) :=
  ck (rgI x2) <|
  ck (rgI (M 2 2)) <|
  (if (M 2 2) ≤ x2 then
  some (2, x2)
  else
  (f_B_has E M x1 x2).bind fun r2 =>
  ck (rgI r2) <|
  (if r2 = 0 then
  some (0, (x2 + 1))
  else
  (f_Po_distanceWithFirst E M x1 x2).bind fun r4 =>
  ck (inb x1 256) <|
  ck (rgJ r4) <|
  ck (rgJ (M 50 x1.toNat)) <|
  (if r4 = (M 50 x1.toNat) then
  some (1, x2)
  else
  some (0, (x2 + 1)))))
def l_Po_firstOfConsensus_2 (E : Ev) (x1 : Int) : Nat → Mm → Int → Option (Nat × Int)
  | 0, _, _ => none
  | fu + 1, M, x2 => (Po_firstOfConsensus_2b E M x1 x2).bind fun (t, w2) => if t = 0 then l_Po_firstOfConsensus_2 E x1 fu M w2 else some (t, w2)
def f_Po_firstOfConsensus (E : Ev) (M : Mm) (x1 : Int) : Option Int :=
  (l_Po_firstOfConsensus_2 E x1 FU M 0).bind fun (t8, v8_2) =>
  (if t8 = 1 then
  some v8_2
  else (if t8 = 2 then
  some 0
  else none))
def Po_consensusPlace_10b (E : Ev) (M : Mm) (x1 : Int) (x2 : Int) (x3 : Int) (x4 : Int) : Option (Nat × Int × Int × Int) :=
  ck (rgI x4) <|
  ck (rgI x1) <|
  (if x1 < x4 then
  some (1, x2, x3, x4)
  else
  ck (rgI x2) <|
  (if x2 = 0 then
  some (1, x2, x3, x4)
  else
  (f_Po_firstOfConsensus E M x2).bind fun r3 =>
  ck (shI r3) <|
  ck (nnI x2) <|
  ck (nnI (2 ^ r3.toNat)) <|
  some (0, (dfI x2 (2 ^ r3.toNat)), r3, (x4 + 1))))
def l_Po_consensusPlace_10 (E : Ev) (x1 : Int) : Nat → Mm → Int → Int → Int → Option (Nat × Int × Int × Int)
  | 0, _, _, _, _ => none
  | fu + 1, M, x2, x3, x4 => (Po_consensusPlace_10b E M x1 x2 x3 x4).bind fun (t, w2, w3, w4) => if t = 0 then l_Po_consensusPlace_10 E x1 fu M w2 w3 w4 else some (t, w2, w3, w4)
def f_Po_consensusPlace (E : Ev) (M : Mm) (x1 : Int) : Option Int :=
  (l_Po_consensusPlace_10 E x1 FU M (M 41 1) (-1) 0).bind fun (t7, v7_2, v7_3, v7_4) =>
  ck (t7 = 1) <|
  some v7_3
def f_B_consensusAt (E : Ev) (M : Mm) (x1 : Int) : Option (Int × Mm) :=
  (f_B_needPlace E M x1 (M 2 2)).bind fun _u =>
  (f_Bx_everybody E M).bind fun r1 =>
  (f_Po_open E M r1).bind fun M2 =>
  (f_Po_findDistances E M2).bind fun M3 =>
  (f_Po_consensusPlace E M3 x1).bind fun r4 =>
  some (r4, M3)
def f_B_consensusDistance (E : Ev) (M : Mm) : Option (Int × Mm) :=
  (f_Bx_everybody E M).bind fun r0 =>
  (f_Po_open E M r0).bind fun M1 =>
  (f_Po_findDistances E M1).bind fun M2 =>
  (f_Bx_everybody E M2).bind fun r3 =>
  ck (inb r3 256) <|
  some ((M2 50 r3.toNat), M2)
def f_Co_latest (E : Ev) (M : Mm) : Option ((Option Nat)) :=
  ck (inb (M 179 2) 21) <|
  some (rE E 180 (M 179 2).toNat)
def Na_become_10b (E : Ev) (M : Mm) (q0 : Nat) (x3 : Int) (x5 : Int) : Option (Nat × Int × Int × Mm) :=
  ck (isNa E q0) <|
  ck (rgI x5) <|
  (if 13 ≤ x5 then
  some (1, x3, x5, M)
  else
  ck (rgJ x3) <|
  (if x3 ≤ 0 then
  some (1, x3, x5, M)
  else
  ck (inb x5 13) <|
  nb (u2 (u2 M (q0 + 1) x5.toNat (x3 % 1073741824)) q0 1 (((u2 M (q0 + 1) x5.toNat (x3 % 1073741824)) q0 1) + 1)) fun (M3 : Mm) =>
  some (0, (x3 / 1073741824), (x5 + 1), M3)))
def l_Na_become_10 (E : Ev) (q0 : Nat) : Nat → Mm → Int → Int → Option (Nat × Int × Int × Mm)
  | 0, _, _, _ => none
  | fu + 1, M, x3, x5 => (Na_become_10b E M q0 x3 x5).bind fun (t, w3, w5, N) => if t = 0 then l_Na_become_10 E q0 fu N w3 w5 else some (t, w3, w5, N)
def f_Na_become (E : Ev) (M : Mm) (p0 : Nat) (x1 : Int) : Option Mm :=
  ck (isNa E p0) <|
  (l_Na_become_10 E p0 FU (u2 M p0 1 0) x1 0).bind fun (t4, v4_3, v4_5, M4) =>
  ck (t4 = 1) <|
  some M4
def f_Ct_placeOf (E : Ev) (M : Mm) (p0 : Nat) (x1 : Int) (x2 : Int) : Option Int :=
  ck (isCt E p0) <|
  some (((x1 * 10) + x2) * 13)
def f_Na_load (E : Ev) (M : Mm) (p0 : Nat) (p1 : Nat) (x2 : Int) : Option Mm :=
  ck (isNa E p0) <|
  ck (isIA E p1) <|
  ck (cpk x2 0 13 (tE E p1).2 13) <|
  (f_Na_trimTo E (uA M (p0 + 1) (va_cpy (M p1) (M (p0 + 1)) x2.toNat 0 13)) p0 13).bind fun M1 =>
  some M1
def f_Co_loadPile (E : Ev) (M : Mm) (p1 : Nat) (x2 : Int) (x3 : Int) : Option Mm :=
  ck (isCt E p1) <|
  (f_Ct_placeOf E M p1 x2 x3).bind fun r0 =>
  (f_Na_load E M 189 (p1 + 4) r0).bind fun M1 =>
  (f_Ct_placeOf E M1 p1 x2 9).bind fun r2 =>
  (f_Na_load E M1 191 (p1 + 4) r2).bind fun M3 =>
  some M3
def f_Na_limbAt (E : Ev) (M : Mm) (p0 : Nat) (x1 : Int) : Option Int :=
  ck (isNa E p0) <|
  ck (rgI x1) <|
  ck (rgI (M p0 1)) <|
  (if (M p0 1) ≤ x1 then
  some 0
  else
  ck (inb x1 13) <|
  some (M (p0 + 1) x1.toNat))
def Na_add_24b (E : Ev) (M : Mm) (q0 : Nat) (q1 : Nat) (x2 : Int) (x3 : Int) (x4 : Int) : Option (Nat × Int × Int × Mm) :=
  ck (isNa E q0) <|
  ck (isNa E q1) <|
  ck (rgI x4) <|
  ck (rgI x2) <|
  (if x2 ≤ x4 then
  some (1, x3, x4, M)
  else
  (f_Na_limbAt E M q0 x4).bind fun r6 =>
  (f_Na_limbAt E M q1 x4).bind fun r7 =>
  nb ((((r6 + r7) + x3) % 1073741824)) fun (v8 : Int) =>
  ck (inb x4 13) <|
  ck (rgI ((r6 + r7) + x3)) <|
  nb ((((r6 + r7) + x3) / 1073741824)) fun (v11 : Int) =>
  some (0, v11, (x4 + 1), (u2 M (q0 + 1) x4.toNat v8)))
def l_Na_add_24 (E : Ev) (q0 : Nat) (q1 : Nat) (x2 : Int) : Nat → Mm → Int → Int → Option (Nat × Int × Int × Mm)
  | 0, _, _, _ => none
  | fu + 1, M, x3, x4 => (Na_add_24b E M q0 q1 x2 x3 x4).bind fun (t, w3, w4, N) => if t = 0 then l_Na_add_24 E q0 q1 x2 fu N w3 w4 else some (t, w3, w4, N)
def f_Na_add (E : Ev) (M : Mm) (p0 : Nat) (p1 : Nat) : Option Mm :=
  ck (isNa E p0) <|
  ck (isNa E p1) <|
  ck (rgI (M p0 1)) <|
  ck (rgI (M p1 1)) <|
  ck (rgI ((max (M p0 1) (M p1 1)) + 1)) <|
  nb ((min ((max (M p0 1) (M p1 1)) + 1) 13)) fun (v3 : Int) =>
  (l_Na_add_24 E p0 p1 v3 FU M 0 0).bind fun (t12, v12_3, v12_4, M12) =>
  ck (t12 = 1) <|
  (f_Na_trimTo E M12 p0 v3).bind fun M13 =>
  some M13
def Na_multiplySmall_17b (E : Ev) (M : Mm) (q0 : Nat) (x1 : Int) (x2 : Int) (x3 : Int) (x5 : Int) : Option (Nat × Int × Int × Mm) :=
  ck (isNa E q0) <|
  ck (rgI x5) <|
  ck (rgI x2) <|
  (if x2 ≤ x5 then
  some (1, x3, x5, M)
  else
  (f_Na_limbAt E M q0 x5).bind fun r3 =>
  ck (rgI r3) <|
  ck (rgI x1) <|
  nb (((x3 + (r3 * x1)) % 1073741824)) fun (v6 : Int) =>
  ck (inb x5 13) <|
  ck (rgJ (x3 + (r3 * x1))) <|
  nb (((x3 + (r3 * x1)) / 1073741824)) fun (v9 : Int) =>
  some (0, v9, (x5 + 1), (u2 M (q0 + 1) x5.toNat v6)))
def l_Na_multiplySmall_17 (E : Ev) (q0 : Nat) (x1 : Int) (x2 : Int) : Nat → Mm → Int → Int → Option (Nat × Int × Int × Mm)
  | 0, _, _, _ => none
  | fu + 1, M, x3, x5 => (Na_multiplySmall_17b E M q0 x1 x2 x3 x5).bind fun (t, w3, w5, N) => if t = 0 then l_Na_multiplySmall_17 E q0 x1 x2 fu N w3 w5 else some (t, w3, w5, N)
def f_Na_multiplySmall (E : Ev) (M : Mm) (p0 : Nat) (x1 : Int) : Option Mm :=
  ck (isNa E p0) <|
  ck (rgI ((M p0 1) + 2)) <|
  (l_Na_multiplySmall_17 E p0 x1 (min ((M p0 1) + 2) 13) FU M 0 0).bind fun (t10, v10_3, v10_5, M10) =>
  ck (t10 = 1) <|
  (f_Na_trimTo E M10 p0 (min ((M p0 1) + 2) 13)).bind fun M11 =>
  some M11
def Na_compareWith_14b (E : Ev) (M : Mm) (q0 : Nat) (q1 : Nat) (x2 : Int) : Option (Nat × Int) :=
  ck (isNa E q0) <|
  ck (isNa E q1) <|
  ck (rgI x2) <|
  (if x2 < 0 then
  some (2, x2)
  else
  (f_Na_limbAt E M q0 x2).bind fun r4 =>
  (f_Na_limbAt E M q1 x2).bind fun r5 =>
  ck (rgI r4) <|
  ck (rgI r5) <|
  (if r4 = r5 then
  some (0, (x2 + (-1)))
  else
  some (1, x2)))
def l_Na_compareWith_14 (E : Ev) (q0 : Nat) (q1 : Nat) : Nat → Mm → Int → Option (Nat × Int)
  | 0, _, _ => none
  | fu + 1, M, x2 => (Na_compareWith_14b E M q0 q1 x2).bind fun (t, w2) => if t = 0 then l_Na_compareWith_14 E q0 q1 fu M w2 else some (t, w2)
def f_Na_compareWith (E : Ev) (M : Mm) (p0 : Nat) (p1 : Nat) : Option Int :=
  ck (isNa E p0) <|
  ck (isNa E p1) <|
  ck (rgI (M p0 1)) <|
  ck (rgI (M p1 1)) <|
  nb (((max (M p0 1) (M p1 1)) - 1)) fun (v2 : Int) =>
  (l_Na_compareWith_14 E p0 p1 FU M v2).bind fun (t8, v8_2) =>
  (if t8 = 1 then
  (f_Na_limbAt E M p0 v8_2).bind fun r9 =>
  (f_Na_limbAt E M p1 v8_2).bind fun r10 =>
  ck (rgI r9) <|
  ck (rgI r10) <|
  (if r10 ≤ r9 then
  some 1
  else
  some (-1))
  else (if t8 = 2 then
  some 0
  else none))
def Co_unbalancedSteps_28b (E : Ev) (M : Mm) (q1 : Nat) (x2 : Int) (x3 : Int) (x4 : Int) : Option (Nat × Int × Mm) :=
  ck (isCt E q1) <|
  ck (rgI x4) <|
  (if 9 ≤ x4 then
  some (1, x4, M)
  else
  (f_Co_loadPile E M q1 x3 x4).bind fun M4 =>
  (f_Na_add E M4 185 189).bind fun M5 =>
  some (0, (x4 + 1), M5))
def l_Co_unbalancedSteps_28 (E : Ev) (q1 : Nat) (x2 : Int) (x3 : Int) : Nat → Mm → Int → Option (Nat × Int × Mm)
  | 0, _, _ => none
  | fu + 1, M, x4 => (Co_unbalancedSteps_28b E M q1 x2 x3 x4).bind fun (t, w4, N) => if t = 0 then l_Co_unbalancedSteps_28 E q1 x2 x3 fu N w4 else some (t, w4, N)
def Co_unbalancedSteps_4b (E : Ev) (M : Mm) (q1 : Nat) (x2 : Int) (x3 : Int) : Option (Nat × Int × Int × Mm) :=
  ck (isCt E q1) <|
  ck (rgI x3) <|
  ck (rgI ((M q1 4) + (M q1 5))) <|
  (if ((M q1 4) + (M q1 5)) < x3 then
  some (1, x2, x3, M)
  else
  (f_Na_become E M 185 0).bind fun M2 =>
  (l_Co_unbalancedSteps_28 E q1 x2 x3 FU M2 0).bind fun (t6, v6_4, M6) =>
  ck (t6 = 1) <|
  (f_Na_multiplySmall E M6 191 (M6 q1 3)).bind fun M7 =>
  (f_Na_compareWith E M7 185 191).bind fun r8 =>
  ck (rgI r8) <|
  (if r8 = 0 then
  some (0, x2, (x3 + 1), M7)
  else
  some (0, (x2 + 1), (x3 + 1), M7)))
def l_Co_unbalancedSteps_4 (E : Ev) (q1 : Nat) : Nat → Mm → Int → Int → Option (Nat × Int × Int × Mm)
  | 0, _, _, _ => none
  | fu + 1, M, x2, x3 => (Co_unbalancedSteps_4b E M q1 x2 x3).bind fun (t, w2, w3, N) => if t = 0 then l_Co_unbalancedSteps_4 E q1 fu N w2 w3 else some (t, w2, w3, N)
def f_Co_unbalancedSteps (E : Ev) (M : Mm) (p1 : Nat) : Option (Int × Mm) :=
  ck (isCt E p1) <|
  (l_Co_unbalancedSteps_4 E p1 FU M 0 1).bind fun (t10, v10_2, v10_3, M10) =>
  ck (t10 = 1) <|
  some (v10_2, M10)
def Bx_findSupport_23b (E : Ev) (M : Mm) (q1 : Nat) (x2 : Int) (x3 : Int) (x4 : Int) (x5 : Int) (x6 : Int) : Option (Nat × Int × Int × Mm) :=
  ck (isIA E q1) <|
  ck (inb x4 31) <|
  ck (rgI x6) <|
  ck (rgI (M 7 x4.toNat)) <|
  (if (M 7 x4.toNat) ≤ x6 then
  some (1, x5, x6, M)
  else
  ck (inb x6 8) <|
  ck (nnI x5) <|
  ck (nnI (M (9 + x4.toNat) x6.toNat)) <|
  nb ((orI x5 (M (9 + x4.toNat) x6.toNat))) fun (v9 : Int) =>
  ck (rgI v9) <|
  ck (rgI x3) <|
  (if v9 = x3 then
  some (0, v9, (x6 + 1), M)
  else
  ck (inb v9 256) <|
  ck (inb x4 (tE E q1).2) <|
  nb (((M 40 v9.toNat) + (M q1 x4.toNat))) fun (v14 : Int) =>
  some (0, v9, (x6 + 1), (u2 M 40 v9.toNat v14))))
def l_Bx_findSupport_23 (E : Ev) (q1 : Nat) (x2 : Int) (x3 : Int) (x4 : Int) : Nat → Mm → Int → Int → Option (Nat × Int × Int × Mm)
  | 0, _, _, _ => none
  | fu + 1, M, x5, x6 => (Bx_findSupport_23b E M q1 x2 x3 x4 x5 x6).bind fun (t, w5, w6, N) => if t = 0 then l_Bx_findSupport_23 E q1 x2 x3 x4 fu N w5 w6 else some (t, w5, w6, N)
def Bx_findSupport_11b (E : Ev) (M : Mm) (q1 : Nat) (x2 : Int) (x3 : Int) (x4 : Int) : Option (Nat × Int × Mm) :=
  ck (isIA E q1) <|
  ck (rgI x4) <|
  ck (rgI x2) <|
  (if x2 ≤ x4 then
  some (1, x4, M)
  else
  (l_Bx_findSupport_23 E q1 x2 x3 x4 FU M 0 0).bind fun (t15, v15_5, v15_6, M15) =>
  ck (t15 = 1) <|
  some (0, (x4 + 1), M15))
def l_Bx_findSupport_11 (E : Ev) (q1 : Nat) (x2 : Int) (x3 : Int) : Nat → Mm → Int → Option (Nat × Int × Mm)
  | 0, _, _ => none
  | fu + 1, M, x4 => (Bx_findSupport_11b E M q1 x2 x3 x4).bind fun (t, w4, N) => if t = 0 then l_Bx_findSupport_11 E q1 x2 x3 fu N w4 else some (t, w4, N)
def f_Bx_findSupport (E : Ev) (M : Mm) (p1 : Nat) (x2 : Int) (x3 : Int) : Option Mm :=
  ck (isIA E p1) <|
  (f_Ar_fillI E M 40 0).bind fun M0 =>
  (l_Bx_findSupport_11 E p1 x2 x3 FU M0 0).bind fun (t16, v16_4, M16) =>
  ck (t16 = 1) <|
  (f_Bx_ballotsOf E M16 p1 x2).bind fun r17 =>
  ck (inb x3 256) <|
  some (u2 M16 40 x3.toNat r17)
def B_countErrors_36b (E : Ev) (M : Mm) (q1 : Nat) (x2 : Int) (x3 : Int) (x4 : Int) : Option (Nat × Int × Int × Mm) :=
  ck (isCt E q1) <|
  ck (rgI x4) <|
  ck (rgI (M q1 4)) <|
  (if (M q1 4) ≤ x4 then
  some (1, x3, x4, M)
  else
  ck (inb x4 3) <|
  ck (shI (M (q1 + 2) x4.toNat)) <|
  ck (nnI x3) <|
  ck (nnI (2 ^ (M (q1 + 2) x4.toNat).toNat)) <|
  nb ((orI x3 (2 ^ (M (q1 + 2) x4.toNat).toNat))) fun (v9 : Int) =>
  some (0, v9, (x4 + 1), M))
def l_B_countErrors_36 (E : Ev) (q1 : Nat) (x2 : Int) : Nat → Mm → Int → Int → Option (Nat × Int × Int × Mm)
  | 0, _, _, _ => none
  | fu + 1, M, x3, x4 => (B_countErrors_36b E M q1 x2 x3 x4).bind fun (t, w3, w4, N) => if t = 0 then l_B_countErrors_36 E q1 x2 fu N w3 w4 else some (t, w3, w4, N)
def B_countErrors_j128 (E : Ev) (M : Mm) (q1 : Nat) (x2 : Int) (x3 : Int) (x4 : Int) (x5 : Int) (y0 : Int) : Option (Nat × Int × Int × Mm) :=
  ck (isCt E q1) <|
  ck (rgI y0) <|
  (if y0 = 0 then
  some (0, x4, (x5 + 1), M)
  else
  ck (nnI x5) <|
  ck (nnI x3) <|
  (if (dfI x5 x3) = 0 then
  some (0, x4, (x5 + 1), M)
  else
  some (0, (x4 + 1), (x5 + 1), M)))
def B_countErrors_92b (E : Ev) (M : Mm) (q1 : Nat) (x2 : Int) (x3 : Int) (x4 : Int) (x5 : Int) : Option (Nat × Int × Int × Mm) :=
  ck (isCt E q1) <|
  ck (rgI x5) <|
  ck (rgI x2) <|
  (if x2 < x5 then
  some (1, x4, x5, M)
  else
  ck (inb x5 256) <|
  ck (nnI (M 40 x5.toNat)) <|
  ck (psI (M q1 0)) <|
  ck (nnI x3) <|
  (f_In_bitCount E M (andI x5 x3)).bind fun r19 =>
  ck (rgI ((M 40 x5.toNat) / (M q1 0))) <|
  ck (rgI r19) <|
  (if ((M 40 x5.toNat) / (M q1 0)) ≤ r19 then
  B_countErrors_j128 E M q1 x2 x3 x4 x5 0
  else
  B_countErrors_j128 E M q1 x2 x3 x4 x5 1))
def l_B_countErrors_92 (E : Ev) (q1 : Nat) (x2 : Int) (x3 : Int) : Nat → Mm → Int → Int → Option (Nat × Int × Int × Mm)
  | 0, _, _, _ => none
  | fu + 1, M, x4, x5 => (B_countErrors_92b E M q1 x2 x3 x4 x5).bind fun (t, w4, w5, N) => if t = 0 then l_B_countErrors_92 E q1 x2 x3 fu N w4 w5 else some (t, w4, w5, N)
def f_B_countErrors (E : Ev) (M : Mm) : Option (Int × Mm) :=
  (f_Co_latest E M).bind fun r0 =>
  (match r0 with
  | none =>
  some (0, M)
  | some p0 =>
  ck (isCt E p0) <|
  ck (rgI (M p0 0)) <|
  (if 1 ≤ (M p0 0) then
  ck (shI (M p0 1)) <|
  (l_B_countErrors_36 E p0 ((2 ^ (M p0 1).toNat) - 1) FU M 0 0).bind fun (t10, v10_3, v10_4, M10) =>
  ck (t10 = 1) <|
  (f_Co_unbalancedSteps E M10 p0).bind fun (r11, M11) =>
  (f_Bx_findSupport E M11 (p0 + 1) (M11 p0 2) ((2 ^ (M p0 1).toNat) - 1)).bind fun M12 =>
  (l_B_countErrors_92 E p0 ((2 ^ (M p0 1).toNat) - 1) v10_3 FU M12 r11 1).bind fun (t25, v25_4, v25_5, M25) =>
  ck (t25 = 1) <|
  some (v25_4, M25)
  else
  some (0, M)))
def f_B_countOf (E : Ev) (M : Mm) (x1 : Int) : Option Int :=
  (f_B_needIndex E M x1 (M 2 3)).bind fun _u =>
  ck (inb x1 31) <|
  some (M 5 x1.toNat)
def f_Wa_greatestBehind (E : Ev) (M : Mm) (x1 : Int) (x2 : Int) : Option Int :=
  ck (rgI (x1 + 1)) <|
  ck (rgI (M 219 0)) <|
  (if (M 219 0) ≤ (x1 + 1) then
  some 0
  else
  ck (rgI x2) <|
  (if x2 ≤ 1 then
  some 1600001
  else
  ck (inb (x2 - 1) 17) <|
  ck (inb (x1 + 1) 16) <|
  some (M (225 + (x2 - 1).toNat) (x1 + 1).toNat)))
def Wa_greatestOf_9b (E : Ev) (M : Mm) (x1 : Int) (x3 : Int) (x4 : Int) (x5 : Int) : Option (Nat × Int × Int × Int) :=
  ck (rgI x5) <|
  ck (rgI ((M 219 0) - x1)) <|
  (if ((M 219 0) - x1) < x5 then
  some (1, x3, x4, x5)
  else
  ck (inb x5 16) <|
  (f_Wa_greatestBehind E M x5 x1).bind fun r3 =>
  ck (rgI (x4 + (M 220 x5.toNat))) <|
  ck (rgI r3) <|
  nb ((max (x4 + (M 220 x5.toNat)) r3)) fun (v6 : Int) =>
  ck (rgI x3) <|
  some (0, (min x3 v6), (x4 + (M 220 x5.toNat)), (x5 + 1)))
def l_Wa_greatestOf_9 (E : Ev) (x1 : Int) : Nat → Mm → Int → Int → Int → Option (Nat × Int × Int × Int)
  | 0, _, _, _, _ => none
  | fu + 1, M, x3, x4, x5 => (Wa_greatestOf_9b E M x1 x3 x4 x5).bind fun (t, w3, w4, w5) => if t = 0 then l_Wa_greatestOf_9 E x1 fu M w3 w4 w5 else some (t, w3, w4, w5)
def f_Wa_greatestOf (E : Ev) (M : Mm) (x1 : Int) (x2 : Int) : Option Int :=
  (l_Wa_greatestOf_9 E x1 FU M 1600001 0 x2).bind fun (t8, v8_3, v8_4, v8_5) =>
  ck (t8 = 1) <|
  some v8_3
def Wa_firstEnd_3b (E : Ev) (M : Mm) (x2 : Int) (x3 : Int) (x4 : Int) : Option (Nat × Int) :=
  ck (rgI x4) <|
  ck (rgI ((M 219 0) - x2)) <|
  (if ((M 219 0) - x2) ≤ x4 then
  some (1, x4)
  else
  (f_Wa_greatestBehind E M x4 x2).bind fun r2 =>
  ck (rgI r2) <|
  ck (rgI x3) <|
  (if r2 ≤ x3 then
  some (1, x4)
  else
  some (0, (x4 + 1))))
def l_Wa_firstEnd_3 (E : Ev) (x2 : Int) (x3 : Int) : Nat → Mm → Int → Option (Nat × Int)
  | 0, _, _ => none
  | fu + 1, M, x4 => (Wa_firstEnd_3b E M x2 x3 x4).bind fun (t, w4) => if t = 0 then l_Wa_firstEnd_3 E x2 x3 fu M w4 else some (t, w4)
def f_Wa_firstEnd (E : Ev) (M : Mm) (x1 : Int) (x2 : Int) (x3 : Int) : Option Int :=
  (l_Wa_firstEnd_3 E x2 x3 FU M x1).bind fun (t5, v5_4) =>
  ck (t5 = 1) <|
  some v5_4
def Wa_divide_9b (E : Ev) (M : Mm) (x1 : Int) (x2 : Int) (x3 : Int) : Option (Nat × Int × Mm) :=
  ck (rgI x3) <|
  ck (rgI ((M 219 0) - x2)) <|
  (if ((M 219 0) - x2) < x3 then
  some (1, x3, M)
  else
  ck (inb x2 17) <|
  (f_Wa_greatestOf E M x2 x3).bind fun r5 =>
  ck (inb x3 16) <|
  some (0, (x3 + 1), (u2 M (225 + x2.toNat) x3.toNat r5)))
def l_Wa_divide_9 (E : Ev) (x1 : Int) (x2 : Int) : Nat → Mm → Int → Option (Nat × Int × Mm)
  | 0, _, _ => none
  | fu + 1, M, x3 => (Wa_divide_9b E M x1 x2 x3).bind fun (t, w3, N) => if t = 0 then l_Wa_divide_9 E x1 x2 fu N w3 else some (t, w3, N)
def Wa_divide_2b (E : Ev) (M : Mm) (x1 : Int) (x2 : Int) : Option (Nat × Int × Mm) :=
  ck (rgI x2) <|
  ck (rgI x1) <|
  (if x1 < x2 then
  some (1, x2, M)
  else
  (l_Wa_divide_9 E x1 x2 FU M 0).bind fun (t7, v7_3, M7) =>
  ck (t7 = 1) <|
  some (0, (x2 + 1), M7))
def l_Wa_divide_2 (E : Ev) (x1 : Int) : Nat → Mm → Int → Option (Nat × Int × Mm)
  | 0, _, _ => none
  | fu + 1, M, x2 => (Wa_divide_2b E M x1 x2).bind fun (t, w2, N) => if t = 0 then l_Wa_divide_2 E x1 fu N w2 else some (t, w2, N)
def Wa_divide_59b (E : Ev) (M : Mm) (x1 : Int) (x2 : Int) (x3 : Int) (x4 : Int) : Option (Nat × Int × Int × Mm) :=
  ck (rgI x4) <|
  ck (rgI x1) <|
  (if x1 ≤ x4 then
  some (1, x3, x4, M)
  else
  (f_Wa_firstEnd E M x3 (x1 - x4) x2).bind fun r12 =>
  ck (inb x4 16) <|
  nb ((((u2 M 242 x4.toNat r12) 242 x4.toNat) + 1)) fun (v14 : Int) =>
  some (0, v14, (x4 + 1), (u2 M 242 x4.toNat r12)))
def l_Wa_divide_59 (E : Ev) (x1 : Int) (x2 : Int) : Nat → Mm → Int → Int → Option (Nat × Int × Int × Mm)
  | 0, _, _, _ => none
  | fu + 1, M, x3, x4 => (Wa_divide_59b E M x1 x2 x3 x4).bind fun (t, w3, w4, N) => if t = 0 then l_Wa_divide_59 E x1 x2 fu N w3 w4 else some (t, w3, w4, N)
def f_Wa_divide (E : Ev) (M : Mm) (x1 : Int) : Option (Int × Mm) :=
  (l_Wa_divide_2 E x1 FU M 1).bind fun (t8, v8_2, M8) =>
  ck (t8 = 1) <|
  ck (inb x1 17) <|
  (l_Wa_divide_59 E x1 (M8 (225 + x1.toNat) 0) FU M8 0 0).bind fun (t15, v15_3, v15_4, M15) =>
  ck (t15 = 1) <|
  some ((M8 (225 + x1.toNat) 0), M15)
def f_B_districtEnd (E : Ev) (M : Mm) (x1 : Int) (x2 : Int) : Option (Int × Mm) :=
  (f_B_needRange E M x1 1 (M 219 0)).bind fun _u =>
  (f_B_needPlace E M x2 x1).bind fun _u =>
  (f_Wa_divide E M x1).bind fun (r2, M2) =>
  ck (inb x2 16) <|
  some ((M2 242 x2.toNat), M2)
def Wa_votesIn_22b (E : Ev) (M : Mm) (x1 : Int) (x2 : Int) (x3 : Int) (x4 : Int) : Option (Nat × Int × Int) :=
  ck (inb x1 16) <|
  ck (rgI x4) <|
  ck (rgI (M 242 x1.toNat)) <|
  (if (M 242 x1.toNat) < x4 then
  some (1, x3, x4)
  else
  ck (inb x2 2) <|
  ck (inb x4 16) <|
  nb ((x3 + (M (222 + x2.toNat) x4.toNat))) fun (v7 : Int) =>
  some (0, v7, (x4 + 1)))
def l_Wa_votesIn_22 (E : Ev) (x1 : Int) (x2 : Int) : Nat → Mm → Int → Int → Option (Nat × Int × Int)
  | 0, _, _, _ => none
  | fu + 1, M, x3, x4 => (Wa_votesIn_22b E M x1 x2 x3 x4).bind fun (t, w3, w4) => if t = 0 then l_Wa_votesIn_22 E x1 x2 fu M w3 w4 else some (t, w3, w4)
def f_Wa_votesIn (E : Ev) (M : Mm) (x1 : Int) (x2 : Int) : Option Int :=
  ck (rgI x1) <|
  (if x1 = 0 then
  (l_Wa_votesIn_22 E x1 x2 FU M 0 0).bind fun (t9, v9_3, v9_4) =>
  ck (t9 = 1) <|
  some v9_3
  else
  ck (inb (x1 - 1) 16) <|
  (l_Wa_votesIn_22 E x1 x2 FU M 0 ((M 242 (x1 - 1).toNat) + 1)).bind fun (t8, v8_3, v8_4) =>
  ck (t8 = 1) <|
  some v8_3)
def B_districtsWon_32b (E : Ev) (M : Mm) (x1 : Int) (x2 : Int) (x3 : Int) (x4 : Int) : Option (Nat × Int × Int × Mm) :=
  ck (rgI x4) <|
  ck (rgI x1) <|
  (if x1 ≤ x4 then
  some (1, x3, x4, M)
  else
  (f_Wa_votesIn E M x4 x2).bind fun r5 =>
  (f_Wa_votesIn E M x4 (1 - x2)).bind fun r6 =>
  ck (rgI r5) <|
  ck (rgI r6) <|
  (if r5 ≤ r6 then
  some (0, x3, (x4 + 1), M)
  else
  some (0, (x3 + 1), (x4 + 1), M)))
def l_B_districtsWon_32 (E : Ev) (x1 : Int) (x2 : Int) : Nat → Mm → Int → Int → Option (Nat × Int × Int × Mm)
  | 0, _, _, _ => none
  | fu + 1, M, x3, x4 => (B_districtsWon_32b E M x1 x2 x3 x4).bind fun (t, w3, w4, N) => if t = 0 then l_B_districtsWon_32 E x1 x2 fu N w3 w4 else some (t, w3, w4, N)
def f_B_districtsWon (E : Ev) (M : Mm) (x1 : Int) (x2 : Int) : Option (Int × Mm) :=
  (f_B_needRange E M x1 1 (M 219 0)).bind fun _u =>
  (f_B_needRange E M x2 0 1).bind fun _u =>
  (f_Wa_divide E M x1).bind fun (r2, M2) =>
  (l_B_districtsWon_32 E x1 x2 FU M2 0 0).bind fun (t9, v9_3, v9_4, M9) =>
  ck (t9 = 1) <|
  some (v9_3, M9)
def f_B_electedAt (E : Ev) (M : Mm) (x1 : Int) : Option Int :=
  (f_Co_latest E M).bind fun r0 =>
  (match r0 with
  | none =>
  none
  | some p0 =>
  ck (isCt E p0) <|
  ck (rgI x1) <|
  (if x1 < 0 then
  none
  else
  ck (rgI (M p0 4)) <|
  (if x1 < (M p0 4) then
  ck (inb x1 3) <|
  some (M (p0 + 2) x1.toNat)
  else
  none)))
def f_Li_latest (E : Ev) (M : Mm) : Option Nat :=
  ck (inb (M 53 10) 21) <|
  some (74 + 5 * (M 53 10).toNat)
def f_Li_isAsThen (E : Ev) (M : Mm) (x1 : Int) : Option Int :=
  (f_Li_latest E M).bind fun r0 =>
  ck (isKs E r0) <|
  ck (rgI x1) <|
  ck (rgI (M r0 2)) <|
  (if (M r0 2) ≤ x1 then
  some 0
  else
  ck (inb x1 8) <|
  ck (rgI (M 55 x1.toNat)) <|
  (if (M 55 x1.toNat) = 0 then
  ck (rgI (M (r0 + 4) x1.toNat)) <|
  (if (M (r0 + 4) x1.toNat) = 0 then
  ck (rgI (M 54 x1.toNat)) <|
  ck (rgI (M (r0 + 3) x1.toNat)) <|
  (if (M 54 x1.toNat) = (M (r0 + 3) x1.toNat) then
  some 1
  else
  some 0)
  else
  some 0)
  else
  some 0))
def Li_isUnjust_20b (E : Ev) (M : Mm) (q1 : Nat) (x2 : Int) (x3 : Int) : Option (Nat × Int) :=
  ck (isIA E q1) <|
  ck (rgI x3) <|
  ck (rgI (M 53 0)) <|
  (if (M 53 0) ≤ x3 then
  some (2, x3)
  else
  ck (inb x2 8) <|
  ck (inb x3 8) <|
  ck (rgI (M 54 x2.toNat)) <|
  ck (rgI (M 54 x3.toNat)) <|
  (if (M 54 x2.toNat) ≤ (M 54 x3.toNat) then
  some (0, (x3 + 1))
  else
  ck (inb x2 (tE E q1).2) <|
  ck (inb x3 (tE E q1).2) <|
  ck (rgI (M q1 x2.toNat)) <|
  ck (rgI (M q1 x3.toNat)) <|
  (if (M q1 x3.toNat) ≤ (M q1 x2.toNat) then
  some (0, (x3 + 1))
  else
  (f_Li_isAsThen E M x2).bind fun r13 =>
  ck (rgI r13) <|
  (if r13 = 0 then
  some (0, (x3 + 1))
  else
  (f_Li_isAsThen E M x3).bind fun r15 =>
  ck (rgI r15) <|
  (if r15 = 0 then
  some (0, (x3 + 1))
  else
  some (1, x3))))))
def l_Li_isUnjust_20 (E : Ev) (q1 : Nat) (x2 : Int) : Nat → Mm → Int → Option (Nat × Int)
  | 0, _, _ => none
  | fu + 1, M, x3 => (Li_isUnjust_20b E M q1 x2 x3).bind fun (t, w3) => if t = 0 then l_Li_isUnjust_20 E q1 x2 fu M w3 else some (t, w3)
def Li_isUnjust_10b (E : Ev) (M : Mm) (q1 : Nat) (x2 : Int) : Option (Nat × Int) :=
  ck (isIA E q1) <|
  ck (rgI x2) <|
  ck (rgI (M 53 0)) <|
  (if (M 53 0) ≤ x2 then
  some (2, x2)
  else
  (l_Li_isUnjust_20 E q1 x2 FU M 0).bind fun (t17, v17_3) =>
  (if t17 = 1 then
  some (1, 0)
  else (if t17 = 2 then
  some (0, (x2 + 1))
  else none)))
def l_Li_isUnjust_10 (E : Ev) (q1 : Nat) : Nat → Mm → Int → Option (Nat × Int)
  | 0, _, _ => none
  | fu + 1, M, x2 => (Li_isUnjust_10b E M q1 x2).bind fun (t, w2) => if t = 0 then l_Li_isUnjust_10 E q1 fu M w2 else some (t, w2)
def f_Li_isUnjust (E : Ev) (M : Mm) : Option Int :=
  (f_Li_latest E M).bind fun r0 =>
  ck (isKs E r0) <|
  (l_Li_isUnjust_10 E (r0 + 2) FU M 0).bind fun (t18, v18_2) =>
  (if t18 = 1 then
  some 1
  else (if t18 = 2 then
  some 0
  else none))
def f_Po_path (E : Ev) (M : Mm) (x1 : Int) (x2 : Int) : Option Int :=
  ck (inb ((x1 * 8) + x2) 64) <|
  some (M 47 ((x1 * 8) + x2).toNat)
def Po_widenPaths_10b (E : Ev) (M : Mm) (x1 : Int) (x2 : Int) (x3 : Int) (x4 : Int) : Option (Nat × Int × Mm) :=
  ck (rgI x4) <|
  ck (rgI (M 2 2)) <|
  (if (M 2 2) ≤ x4 then
  some (1, x4, M)
  else
  (f_Po_path E M x2 x4).bind fun r3 =>
  ck (rgI x3) <|
  ck (rgI r3) <|
  ck (rgI x1) <|
  (if x4 = x1 then
  some (0, (x4 + 1), M)
  else
  (f_Po_path E M x1 x4).bind fun r7 =>
  ck (rgI r7) <|
  (if (min x3 r3) ≤ r7 then
  some (0, (x4 + 1), M)
  else
  ck (inb ((x1 * 8) + x4) 64) <|
  some (0, (x4 + 1), (u2 M 47 ((x1 * 8) + x4).toNat (min x3 r3))))))
def l_Po_widenPaths_10 (E : Ev) (x1 : Int) (x2 : Int) (x3 : Int) : Nat → Mm → Int → Option (Nat × Int × Mm)
  | 0, _, _ => none
  | fu + 1, M, x4 => (Po_widenPaths_10b E M x1 x2 x3 x4).bind fun (t, w4, N) => if t = 0 then l_Po_widenPaths_10 E x1 x2 x3 fu N w4 else some (t, w4, N)
def f_Po_widenPaths (E : Ev) (M : Mm) (x1 : Int) (x2 : Int) : Option Mm :=
  (f_Po_path E M x1 x2).bind fun r0 =>
  (l_Po_widenPaths_10 E x1 x2 r0 FU M 0).bind fun (t10, v10_4, M10) =>
  ck (t10 = 1) <|
  some M10
def Po_findPaths_j55 (E : Ev) (M : Mm) (x1 : Int) (x2 : Int) (y0 : Int) (y1 : Int) (y2 : Nat) : Option (Nat × Int × Mm) :=
  ck (isIA E y2) <|
  ck (inb y1 (tE E y2).2) <|
  some (0, (x2 + 1), (u2 M y2 y1.toNat y0))
def Po_findPaths_15b (E : Ev) (M : Mm) (x1 : Int) (x2 : Int) : Option (Nat × Int × Mm) :=
  ck (rgI x2) <|
  ck (rgI (M 2 2)) <|
  (if (M 2 2) ≤ x2 then
  some (1, x2, M)
  else
  (f_Po_beats E M x1 x2).bind fun r4 =>
  ck (rgI r4) <|
  (if r4 = 0 then
  Po_findPaths_j55 E M x1 x2 0 ((x1 * 8) + x2) 47
  else
  (f_Po_pair E M x1 x2).bind fun r7 =>
  Po_findPaths_j55 E M x1 x2 r7 ((x1 * 8) + x2) 47))
def l_Po_findPaths_15 (E : Ev) (x1 : Int) : Nat → Mm → Int → Option (Nat × Int × Mm)
  | 0, _, _ => none
  | fu + 1, M, x2 => (Po_findPaths_15b E M x1 x2).bind fun (t, w2, N) => if t = 0 then l_Po_findPaths_15 E x1 fu N w2 else some (t, w2, N)
def Po_findPaths_2b (E : Ev) (M : Mm) (x1 : Int) : Option (Nat × Int × Mm) :=
  ck (rgI x1) <|
  ck (rgI (M 2 2)) <|
  (if (M 2 2) ≤ x1 then
  some (1, x1, M)
  else
  (l_Po_findPaths_15 E x1 FU M 0).bind fun (t8, v8_2, M8) =>
  ck (t8 = 1) <|
  some (0, (x1 + 1), M8))
def l_Po_findPaths_2 (E : Ev) : Nat → Mm → Int → Option (Nat × Int × Mm)
  | 0, _, _ => none
  | fu + 1, M, x1 => (Po_findPaths_2b E M x1).bind fun (t, w1, N) => if t = 0 then l_Po_findPaths_2 E fu N w1 else some (t, w1, N)
def Po_findPaths_83b (E : Ev) (M : Mm) (x1 : Int) (x2 : Int) : Option (Nat × Int × Mm) :=
  ck (rgI x2) <|
  ck (rgI (M 2 2)) <|
  (if (M 2 2) ≤ x2 then
  some (1, x2, M)
  else
  ck (rgI x1) <|
  (if x2 = x1 then
  some (0, (x2 + 1), M)
  else
  (f_Po_path E M x2 x1).bind fun r15 =>
  ck (rgI r15) <|
  (if r15 ≤ 0 then
  some (0, (x2 + 1), M)
  else
  (f_Po_widenPaths E M x2 x1).bind fun M17 =>
  some (0, (x2 + 1), M17))))
def l_Po_findPaths_83 (E : Ev) (x1 : Int) : Nat → Mm → Int → Option (Nat × Int × Mm)
  | 0, _, _ => none
  | fu + 1, M, x2 => (Po_findPaths_83b E M x1 x2).bind fun (t, w2, N) => if t = 0 then l_Po_findPaths_83 E x1 fu N w2 else some (t, w2, N)
def Po_findPaths_70b (E : Ev) (M : Mm) (x1 : Int) : Option (Nat × Int × Mm) :=
  ck (rgI x1) <|
  ck (rgI (M 2 2)) <|
  (if (M 2 2) ≤ x1 then
  some (1, x1, M)
  else
  (l_Po_findPaths_83 E x1 FU M 0).bind fun (t18, v18_2, M18) =>
  ck (t18 = 1) <|
  some (0, (x1 + 1), M18))
def l_Po_findPaths_70 (E : Ev) : Nat → Mm → Int → Option (Nat × Int × Mm)
  | 0, _, _ => none
  | fu + 1, M, x1 => (Po_findPaths_70b E M x1).bind fun (t, w1, N) => if t = 0 then l_Po_findPaths_70 E fu N w1 else some (t, w1, N)
def f_Po_findPaths (E : Ev) (M : Mm) : Option Mm :=
  (l_Po_findPaths_2 E FU M 0).bind fun (t9, v9_1, M9) =>
  ck (t9 = 1) <|
  (l_Po_findPaths_70 E FU M9 0).bind fun (t19, v19_1, M19) =>
  ck (t19 = 1) <|
  some M19
def Po_winnersByPaths_24b (E : Ev) (M : Mm) (x2 : Int) (x1 : Int) (x3 : Int) : Option (Nat × Int × Int × Mm) :=
  ck (rgI x3) <|
  ck (rgI (M 2 2)) <|
  (if (M 2 2) ≤ x3 then
  some (1, x1, x3, M)
  else
  (f_Po_path E M x3 x2).bind fun r5 =>
  (f_Po_path E M x2 x3).bind fun r6 =>
  ck (rgI r5) <|
  ck (rgI r6) <|
  (if r5 ≤ r6 then
  some (0, x1, (x3 + 1), M)
  else
  ck (shI x2) <|
  ck (nnI x1) <|
  ck (nnI (2 ^ x2.toNat)) <|
  some (0, (dfI x1 (2 ^ x2.toNat)), (x3 + 1), M)))
def l_Po_winnersByPaths_24 (E : Ev) (x2 : Int) : Nat → Mm → Int → Int → Option (Nat × Int × Int × Mm)
  | 0, _, _, _ => none
  | fu + 1, M, x1, x3 => (Po_winnersByPaths_24b E M x2 x1 x3).bind fun (t, w1, w3, N) => if t = 0 then l_Po_winnersByPaths_24 E x2 fu N w1 w3 else some (t, w1, w3, N)
def Po_winnersByPaths_11b (E : Ev) (M : Mm) (x1 : Int) (x2 : Int) : Option (Nat × Int × Int × Mm) :=
  ck (rgI x2) <|
  ck (rgI (M 2 2)) <|
  (if (M 2 2) ≤ x2 then
  some (1, x1, x2, M)
  else
  (l_Po_winnersByPaths_24 E x2 FU M x1 0).bind fun (t12, v12_1, v12_3, M12) =>
  ck (t12 = 1) <|
  some (0, v12_1, (x2 + 1), M12))
def l_Po_winnersByPaths_11 (E : Ev) : Nat → Mm → Int → Int → Option (Nat × Int × Int × Mm)
  | 0, _, _, _ => none
  | fu + 1, M, x1, x2 => (Po_winnersByPaths_11b E M x1 x2).bind fun (t, w1, w2, N) => if t = 0 then l_Po_winnersByPaths_11 E fu N w1 w2 else some (t, w1, w2, N)
def f_Po_winnersByPaths (E : Ev) (M : Mm) : Option (Int × Mm) :=
  (f_Po_findPaths E M).bind fun M0 =>
  (l_Po_winnersByPaths_11 E FU M0 (M0 41 1) 0).bind fun (t13, v13_1, v13_2, M13) =>
  ck (t13 = 1) <|
  some (v13_1, M13)
def f_B_isBeaterOfAllMissed (E : Ev) (M : Mm) : Option (Int × Mm) :=
  (f_Bx_everybody E M).bind fun r0 =>
  (f_Po_open E M r0).bind fun M1 =>
  (f_Po_beaterOfAll E M1).bind fun (r2, M2) =>
  ck (rgI r2) <|
  (if r2 = (-1) then
  some (0, M2)
  else
  (f_Po_findDistances E M2).bind fun M4 =>
  (f_Po_winnersByPaths E M4).bind fun (r5, M5) =>
  ck (shI r2) <|
  ck (rgI r5) <|
  ck (rgI (2 ^ r2.toNat)) <|
  (if r5 = (2 ^ r2.toNat) then
  (f_Po_consensusPlace E M5 0).bind fun r9 =>
  ck (rgI r9) <|
  (if r9 = r2 then
  some (0, M5)
  else
  some (1, M5))
  else
  some (1, M5)))
def Cl_findSums_12b (E : Ev) (M : Mm) (x1 : Int) (x2 : Int) : Option (Nat × Int × Mm) :=
  ck (shI x1) <|
  ck (rgI x2) <|
  ck (rgI (2 ^ x1.toNat)) <|
  (if (2 ^ x1.toNat) ≤ x2 then
  some (1, x2, M)
  else
  ck (shI x1) <|
  ck (nnI x2) <|
  ck (nnI (2 ^ x1.toNat)) <|
  ck (inb x2 4096) <|
  ck (inb x1 12) <|
  nb (((M 245 x2.toNat) + (M 244 x1.toNat))) fun (v10 : Int) =>
  ck (inb (orI x2 (2 ^ x1.toNat)) 4096) <|
  some (0, (x2 + 1), (u2 M 245 (orI x2 (2 ^ x1.toNat)).toNat v10)))
def l_Cl_findSums_12 (E : Ev) (x1 : Int) : Nat → Mm → Int → Option (Nat × Int × Mm)
  | 0, _, _ => none
  | fu + 1, M, x2 => (Cl_findSums_12b E M x1 x2).bind fun (t, w2, N) => if t = 0 then l_Cl_findSums_12 E x1 fu N w2 else some (t, w2, N)
def Cl_findSums_2b (E : Ev) (M : Mm) (x1 : Int) : Option (Nat × Int × Mm) :=
  ck (rgI x1) <|
  ck (rgI (M 243 0)) <|
  (if (M 243 0) ≤ x1 then
  some (1, x1, M)
  else
  (l_Cl_findSums_12 E x1 FU M 0).bind fun (t12, v12_2, M12) =>
  ck (t12 = 1) <|
  some (0, (x1 + 1), M12))
def l_Cl_findSums_2 (E : Ev) : Nat → Mm → Int → Option (Nat × Int × Mm)
  | 0, _, _ => none
  | fu + 1, M, x1 => (Cl_findSums_2b E M x1).bind fun (t, w1, N) => if t = 0 then l_Cl_findSums_2 E fu N w1 else some (t, w1, N)
def f_Cl_findSums (E : Ev) (M : Mm) : Option Mm :=
  (l_Cl_findSums_2 E FU M 0).bind fun (t13, v13_1, M13) =>
  ck (t13 = 1) <|
  some M13
def f_Cl_isSwung (E : Ev) (M : Mm) (x1 : Int) (x2 : Int) : Option Int :=
  ck (inb x1 4096) <|
  ck (rgI (M 245 x1.toNat)) <|
  ck (rgI (M 243 1)) <|
  (if (M 243 1) ≤ (M 245 x1.toNat) then
  some 0
  else
  ck (inb x2 12) <|
  ck (rgI ((M 245 x1.toNat) + (M 244 x2.toNat))) <|
  (if ((M 245 x1.toNat) + (M 244 x2.toNat)) < (M 243 1) then
  some 0
  else
  (f_B_has E M x1 x2).bind fun r5 =>
  ck (rgI r5) <|
  (if r5 = 0 then
  some 1
  else
  some 0)))
def Cl_ordersTurnedBy_5b (E : Ev) (M : Mm) (x1 : Int) (x2 : Int) (x4 : Int) : Option (Nat × Int × Int) :=
  ck (shI (M 243 0)) <|
  ck (rgI x4) <|
  ck (rgI (2 ^ (M 243 0).toNat)) <|
  (if (2 ^ (M 243 0).toNat) ≤ x4 then
  some (1, x2, x4)
  else
  (f_Cl_isSwung E M x4 x1).bind fun r3 =>
  ck (rgI r3) <|
  (if r3 = 0 then
  some (0, x2, (x4 + 1))
  else
  (f_In_bitCount E M x4).bind fun r5 =>
  ck (inb r5 13) <|
  ck (inb (((M 243 0) - 1) - r5) 13) <|
  nb ((x2 + ((facF r5.toNat) * (facF (((M 243 0) - 1) - r5).toNat)))) fun (v10 : Int) =>
  some (0, v10, (x4 + 1))))
def l_Cl_ordersTurnedBy_5 (E : Ev) (x1 : Int) : Nat → Mm → Int → Int → Option (Nat × Int × Int)
  | 0, _, _, _ => none
  | fu + 1, M, x2, x4 => (Cl_ordersTurnedBy_5b E M x1 x2 x4).bind fun (t, w2, w4) => if t = 0 then l_Cl_ordersTurnedBy_5 E x1 fu M w2 w4 else some (t, w2, w4)
def f_Cl_ordersTurnedBy (E : Ev) (M : Mm) (x1 : Int) : Option Int :=
  (l_Cl_ordersTurnedBy_5 E x1 FU M 0 0).bind fun (t11, v11_2, v11_4) =>
  ck (t11 = 1) <|
  some v11_2
def Cl_isOrderMissed_8b (E : Ev) (M : Mm) (x1 : Int) (x3 : Int) : Option (Nat × Int × Int × Mm) :=
  ck (rgI x3) <|
  ck (rgI (M 243 0)) <|
  (if (M 243 0) ≤ x3 then
  some (1, x1, x3, M)
  else
  (f_Cl_ordersTurnedBy E M x3).bind fun r3 =>
  some (0, (x1 + r3), (x3 + 1), M))
def l_Cl_isOrderMissed_8 (E : Ev) : Nat → Mm → Int → Int → Option (Nat × Int × Int × Mm)
  | 0, _, _, _ => none
  | fu + 1, M, x1, x3 => (Cl_isOrderMissed_8b E M x1 x3).bind fun (t, w1, w3, N) => if t = 0 then l_Cl_isOrderMissed_8 E fu N w1 w3 else some (t, w1, w3, N)
def f_Cl_isOrderMissed (E : Ev) (M : Mm) : Option (Int × Mm) :=
  (f_Cl_findSums E M).bind fun M0 =>
  (l_Cl_isOrderMissed_8 E FU M0 0 0).bind fun (t4, v4_1, v4_3, M4) =>
  ck (t4 = 1) <|
  ck (rgJ v4_1) <|
  (if v4_1 = 0 then
  some (0, M4)
  else
  ck (inb (M4 243 0) 13) <|
  ck (rgJ (facF (M4 243 0).toNat)) <|
  (if v4_1 = (facF (M4 243 0).toNat) then
  some (0, M4)
  else
  some (1, M4)))
def B_errors_j32 (E : Ev) (M : Mm) (y0 : Int) (y1 : Int) : Option (Int × Mm) :=
  (f_Cl_isOrderMissed E M).bind fun (r5, M5) =>
  ck (rgI r5) <|
  (if r5 = 0 then
  some (((y1 + y0) + 0), M5)
  else
  some (((y1 + y0) + 1), M5))
def B_errors_j15 (E : Ev) (M : Mm) (y0 : Int) : Option (Int × Mm) :=
  (f_B_countErrors E M).bind fun (r2, M2) =>
  (f_B_isBeaterOfAllMissed E M2).bind fun (r3, M3) =>
  ck (rgI r3) <|
  (if r3 = 0 then
  B_errors_j32 E M3 0 (y0 + r2)
  else
  B_errors_j32 E M3 1 (y0 + r2))
def f_B_errors (E : Ev) (M : Mm) : Option (Int × Mm) :=
  (f_Li_isUnjust E M).bind fun r0 =>
  ck (rgI r0) <|
  (if r0 = 0 then
  B_errors_j15 E M 0
  else
  B_errors_j15 E M 1)
def f_B_needFewCandidates (E : Ev) (M : Mm) : Option Unit :=
  ck (rgI (M 2 2)) <|
  (if (M 2 2) ≤ 5 then
  some ()
  else
  none)
def Ar_fillL_6b (E : Ev) (M : Mm) (q0 : Nat) (x1 : Int) (x4 : Int) (x3 : Int) : Option (Nat × Int × Mm) :=
  ck (isLA E q0) <|
  ck (rgI x3) <|
  ck (rgI x4) <|
  (if x4 ≤ x3 then
  some (1, x3, M)
  else
  ck (inb x3 (tE E q0).2) <|
  some (0, (x3 + 1), (u2 M q0 x3.toNat x1)))
def l_Ar_fillL_6 (E : Ev) (q0 : Nat) (x1 : Int) (x4 : Int) : Nat → Mm → Int → Option (Nat × Int × Mm)
  | 0, _, _ => none
  | fu + 1, M, x3 => (Ar_fillL_6b E M q0 x1 x4 x3).bind fun (t, w3, N) => if t = 0 then l_Ar_fillL_6 E q0 x1 x4 fu N w3 else some (t, w3, N)
def f_Ar_fillL (E : Ev) (M : Mm) (p0 : Nat) (x1 : Int) : Option Mm :=
  ck (isLA E p0) <|
  (l_Ar_fillL_6 E p0 x1 ((tE E p0).2 : Int) FU M 0).bind fun (t3, v3_3, M3) =>
  ck (t3 = 1) <|
  some M3
def Po_scoreTopsOf_j38 (E : Ev) (M : Mm) (x1 : Int) (x2 : Int) (y0 : Int) : Option (Nat × Int × Mm) :=
  ck (rgI y0) <|
  (if y0 = (-1) then
  some (0, (x2 + 1), M)
  else
  ck (inb y0 8) <|
  ck (inb x2 31) <|
  ck (rgI (M 42 x2.toNat)) <|
  nb (((M 48 y0.toNat) + (M 42 x2.toNat))) fun (v9 : Int) =>
  some (0, (x2 + 1), (u2 M 48 y0.toNat v9)))
def Po_scoreTopsOf_10b (E : Ev) (M : Mm) (x1 : Int) (x2 : Int) : Option (Nat × Int × Mm) :=
  ck (rgI x2) <|
  (if 31 ≤ x2 then
  some (1, x2, M)
  else
  ck (inb x2 31) <|
  ck (rgI (M 42 x2.toNat)) <|
  (if (M 42 x2.toNat) = 0 then
  Po_scoreTopsOf_j38 E M x1 x2 (-1)
  else
  (f_Bx_soleTopOf E M x2 x1).bind fun r4 =>
  Po_scoreTopsOf_j38 E M x1 x2 r4))
def l_Po_scoreTopsOf_10 (E : Ev) (x1 : Int) : Nat → Mm → Int → Option (Nat × Int × Mm)
  | 0, _, _ => none
  | fu + 1, M, x2 => (Po_scoreTopsOf_10b E M x1 x2).bind fun (t, w2, N) => if t = 0 then l_Po_scoreTopsOf_10 E x1 fu N w2 else some (t, w2, N)
def f_Po_scoreTopsOf (E : Ev) (M : Mm) (x1 : Int) : Option Mm :=
  (f_Ar_fillL E M 48 0).bind fun M0 =>
  (l_Po_scoreTopsOf_10 E x1 FU M0 0).bind fun (t10, v10_2, M10) =>
  ck (t10 = 1) <|
  some M10
def f_Bx_winsLot (E : Ev) (M : Mm) (x1 : Int) (x2 : Int) : Option Int :=
  ck (inb x1 8) <|
  ck (inb x2 8) <|
  ck (rgI (M 4 x1.toNat)) <|
  ck (rgI (M 4 x2.toNat)) <|
  (if (M 4 x1.toNat) < (M 4 x2.toNat) then
  some 1
  else
  (if (M 4 x1.toNat) = (M 4 x2.toNat) then
  (if x2 ≤ x1 then
  some 0
  else
  some 1)
  else
  some 0))
def Po_smallestOf_4b (E : Ev) (M : Mm) (x1 : Int) (x2 : Int) (x3 : Int) : Option (Nat × Int × Int) :=
  ck (rgI x3) <|
  ck (rgI (M 2 2)) <|
  (if (M 2 2) ≤ x3 then
  some (1, x2, x3)
  else
  (f_B_has E M x1 x3).bind fun r2 =>
  ck (rgI r2) <|
  (if r2 = 0 then
  some (0, x2, (x3 + 1))
  else
  ck (rgI x2) <|
  (if x2 = (-1) then
  some (0, x3, (x3 + 1))
  else
  ck (inb x3 8) <|
  ck (inb x2 8) <|
  ck (rgJ (M 48 x3.toNat)) <|
  ck (rgJ (M 48 x2.toNat)) <|
  (if (M 48 x3.toNat) < (M 48 x2.toNat) then
  some (0, x3, (x3 + 1))
  else
  (if (M 48 x3.toNat) = (M 48 x2.toNat) then
  (f_Bx_winsLot E M x2 x3).bind fun r9 =>
  ck (rgI r9) <|
  (if r9 = 0 then
  some (0, x2, (x3 + 1))
  else
  some (0, x3, (x3 + 1)))
  else
  some (0, x2, (x3 + 1)))))))
def l_Po_smallestOf_4 (E : Ev) (x1 : Int) : Nat → Mm → Int → Int → Option (Nat × Int × Int)
  | 0, _, _, _ => none
  | fu + 1, M, x2, x3 => (Po_smallestOf_4b E M x1 x2 x3).bind fun (t, w2, w3) => if t = 0 then l_Po_smallestOf_4 E x1 fu M w2 w3 else some (t, w2, w3)
def f_Po_smallestOf (E : Ev) (M : Mm) (x1 : Int) : Option Int :=
  (l_Po_smallestOf_4 E x1 FU M (-1) 0).bind fun (t11, v11_2, v11_3) =>
  ck (t11 = 1) <|
  some v11_2
def Po_bestByLot_4b (E : Ev) (M : Mm) (x1 : Int) (x2 : Int) (x3 : Int) : Option (Nat × Int × Int) :=
  ck (rgI x3) <|
  ck (rgI (M 2 2)) <|
  (if (M 2 2) ≤ x3 then
  some (1, x2, x3)
  else
  (f_B_has E M x1 x3).bind fun r2 =>
  ck (rgI r2) <|
  (if r2 = 0 then
  some (0, x2, (x3 + 1))
  else
  ck (rgI x2) <|
  (if x2 = (-1) then
  some (0, x3, (x3 + 1))
  else
  (f_Bx_winsLot E M x3 x2).bind fun r5 =>
  ck (rgI r5) <|
  (if r5 = 0 then
  some (0, x2, (x3 + 1))
  else
  some (0, x3, (x3 + 1))))))
def l_Po_bestByLot_4 (E : Ev) (x1 : Int) : Nat → Mm → Int → Int → Option (Nat × Int × Int)
  | 0, _, _, _ => none
  | fu + 1, M, x2, x3 => (Po_bestByLot_4b E M x1 x2 x3).bind fun (t, w2, w3) => if t = 0 then l_Po_bestByLot_4 E x1 fu M w2 w3 else some (t, w2, w3)
def f_Po_bestByLot (E : Ev) (M : Mm) (x1 : Int) : Option Int :=
  (l_Po_bestByLot_4 E x1 FU M (-1) 0).bind fun (t7, v7_2, v7_3) =>
  ck (t7 = 1) <|
  some v7_2
def Po_lastOfRunoff_17b (E : Ev) (M : Mm) (x2 : Int) (x1 : Int) (x3 : Int) : Option (Nat × Int × Int × Mm) :=
  ck (rgI x3) <|
  ck (rgI x2) <|
  (if x2 ≤ x3 then
  some (1, x1, x3, M)
  else
  (f_Po_scoreTopsOf E M x1).bind fun M3 =>
  (f_Po_smallestOf E M3 x1).bind fun r4 =>
  ck (inb x3 8) <|
  ck (shI r4) <|
  ck (nnI x1) <|
  ck (nnI (2 ^ r4.toNat)) <|
  some (0, (dfI x1 (2 ^ r4.toNat)), (x3 + 1), (u2 M3 49 x3.toNat r4)))
def l_Po_lastOfRunoff_17 (E : Ev) (x2 : Int) : Nat → Mm → Int → Int → Option (Nat × Int × Int × Mm)
  | 0, _, _, _ => none
  | fu + 1, M, x1, x3 => (Po_lastOfRunoff_17b E M x2 x1 x3).bind fun (t, w1, w3, N) => if t = 0 then l_Po_lastOfRunoff_17 E x2 fu N w1 w3 else some (t, w1, w3, N)
def f_Po_lastOfRunoff (E : Ev) (M : Mm) : Option (Int × Mm) :=
  (f_In_bitCount E M (M 41 1)).bind fun r0 =>
  (l_Po_lastOfRunoff_17 E (r0 - 1) FU M (M 41 1) 0).bind fun (t9, v9_1, v9_3, M9) =>
  ck (t9 = 1) <|
  (f_Po_bestByLot E M9 v9_1).bind fun r10 =>
  some (r10, M9)
def Po_pointsOf_5b (E : Ev) (M : Mm) (x1 : Int) (x2 : Int) (x4 : Int) : Option (Nat × Int × Int) :=
  ck (rgI x4) <|
  ck (rgI (M 2 2)) <|
  (if (M 2 2) ≤ x4 then
  some (1, x2, x4)
  else
  ck (rgI x1) <|
  (if x4 = x1 then
  some (0, x2, (x4 + 1))
  else
  (f_B_has E M (M 41 1) x4).bind fun r3 =>
  ck (rgI r3) <|
  (if r3 = 0 then
  some (0, x2, (x4 + 1))
  else
  (f_Po_pair E M x1 x4).bind fun r5 =>
  (f_Po_pair E M x4 x1).bind fun r6 =>
  ck (rgI (((M 41 2) + r5) - r6)) <|
  nb ((x2 + (((M 41 2) + r5) - r6))) fun (v8 : Int) =>
  some (0, v8, (x4 + 1)))))
def l_Po_pointsOf_5 (E : Ev) (x1 : Int) : Nat → Mm → Int → Int → Option (Nat × Int × Int)
  | 0, _, _, _ => none
  | fu + 1, M, x2, x4 => (Po_pointsOf_5b E M x1 x2 x4).bind fun (t, w2, w4) => if t = 0 then l_Po_pointsOf_5 E x1 fu M w2 w4 else some (t, w2, w4)
def f_Po_pointsOf (E : Ev) (M : Mm) (x1 : Int) : Option Int :=
  (l_Po_pointsOf_5 E x1 FU M 0 0).bind fun (t9, v9_2, v9_4) =>
  ck (t9 = 1) <|
  some v9_2
def Po_findScores_j59 (E : Ev) (M : Mm) (x1 : Int) (x2 : Int) (y0 : Int) (y1 : Int) (y2 : Nat) : Option (Nat × Int × Mm) :=
  ck (isLA E y2) <|
  ck (inb y1 (tE E y2).2) <|
  some (0, (x2 + 1), (u2 M y2 y1.toNat y0))
def Po_findScores_2b (E : Ev) (M : Mm) (x1 : Int) (x2 : Int) : Option (Nat × Int × Mm) :=
  ck (rgI x2) <|
  ck (rgI (M 2 2)) <|
  (if (M 2 2) ≤ x2 then
  some (1, x2, M)
  else
  ck (rgI x1) <|
  (if x1 = 3 then
  (f_Po_pointsOf E M x2).bind fun r8 =>
  ck (inb x2 8) <|
  some (0, (x2 + 1), (u2 M 48 x2.toNat r8))
  else
  (if x1 = 4 then
  ck (inb x2 8) <|
  ck (rgI (M 44 x2.toNat)) <|
  Po_findScores_j59 E M x1 x2 (M 44 x2.toNat) x2 48
  else
  ck (inb x2 8) <|
  ck (rgI (M 43 x2.toNat)) <|
  Po_findScores_j59 E M x1 x2 (M 43 x2.toNat) x2 48)))
def l_Po_findScores_2 (E : Ev) (x1 : Int) : Nat → Mm → Int → Option (Nat × Int × Mm)
  | 0, _, _ => none
  | fu + 1, M, x2 => (Po_findScores_2b E M x1 x2).bind fun (t, w2, N) => if t = 0 then l_Po_findScores_2 E x1 fu N w2 else some (t, w2, N)
def f_Po_findScores (E : Ev) (M : Mm) (x1 : Int) : Option Mm :=
  (l_Po_findScores_2 E x1 FU M 0).bind fun (t10, v10_2, M10) =>
  ck (t10 = 1) <|
  some M10
def Po_greatestOf_4b (E : Ev) (M : Mm) (x1 : Int) (x2 : Int) (x3 : Int) : Option (Nat × Int × Int) :=
  ck (rgI x3) <|
  ck (rgI (M 2 2)) <|
  (if (M 2 2) ≤ x3 then
  some (1, x2, x3)
  else
  (f_B_has E M x1 x3).bind fun r2 =>
  ck (rgI r2) <|
  (if r2 = 0 then
  some (0, x2, (x3 + 1))
  else
  ck (rgI x2) <|
  (if x2 = (-1) then
  some (0, x3, (x3 + 1))
  else
  ck (inb x3 8) <|
  ck (inb x2 8) <|
  ck (rgJ (M 48 x3.toNat)) <|
  ck (rgJ (M 48 x2.toNat)) <|
  (if (M 48 x2.toNat) < (M 48 x3.toNat) then
  some (0, x3, (x3 + 1))
  else
  (if (M 48 x3.toNat) = (M 48 x2.toNat) then
  (f_Bx_winsLot E M x3 x2).bind fun r9 =>
  ck (rgI r9) <|
  (if r9 = 0 then
  some (0, x2, (x3 + 1))
  else
  some (0, x3, (x3 + 1)))
  else
  some (0, x2, (x3 + 1)))))))
def l_Po_greatestOf_4 (E : Ev) (x1 : Int) : Nat → Mm → Int → Int → Option (Nat × Int × Int)
  | 0, _, _, _ => none
  | fu + 1, M, x2, x3 => (Po_greatestOf_4b E M x1 x2 x3).bind fun (t, w2, w3) => if t = 0 then l_Po_greatestOf_4 E x1 fu M w2 w3 else some (t, w2, w3)
def f_Po_greatestOf (E : Ev) (M : Mm) (x1 : Int) : Option Int :=
  (l_Po_greatestOf_4 E x1 FU M (-1) 0).bind fun (t11, v11_2, v11_3) =>
  ck (t11 = 1) <|
  some v11_2
def f_Po_bestBy (E : Ev) (M : Mm) (x1 : Int) : Option (Int × Mm) :=
  ck (rgI (M 41 1)) <|
  (if (M 41 1) = 0 then
  some ((-1), M)
  else
  ck (rgI x1) <|
  (if x1 = 1 then
  (f_Po_lastOfRunoff E M).bind fun (r6, M6) =>
  some (r6, M6)
  else
  (if x1 = 2 then
  (f_Po_winnersByPaths E M).bind fun (r4, M4) =>
  (f_Po_bestByLot E M4 r4).bind fun r5 =>
  some (r5, M4)
  else
  (f_Po_findScores E M x1).bind fun M2 =>
  (f_Po_greatestOf E M2 (M2 41 1)).bind fun r3 =>
  some (r3, M2))))
def Bx_rankOf_2b (E : Ev) (M : Mm) (x1 : Int) (x2 : Int) (x3 : Int) : Option (Nat × Int) :=
  ck (inb x1 31) <|
  ck (rgI x3) <|
  ck (rgI (M 7 x1.toNat)) <|
  (if (M 7 x1.toNat) ≤ x3 then
  some (2, x3)
  else
  ck (inb x3 8) <|
  (f_B_has E M (M (9 + x1.toNat) x3.toNat) x2).bind fun r4 =>
  ck (rgI r4) <|
  (if r4 = 0 then
  some (0, (x3 + 1))
  else
  some (1, x3)))
def l_Bx_rankOf_2 (E : Ev) (x1 : Int) (x2 : Int) : Nat → Mm → Int → Option (Nat × Int)
  | 0, _, _ => none
  | fu + 1, M, x3 => (Bx_rankOf_2b E M x1 x2 x3).bind fun (t, w3) => if t = 0 then l_Bx_rankOf_2 E x1 x2 fu M w3 else some (t, w3)
def f_Bx_rankOf (E : Ev) (M : Mm) (x1 : Int) (x2 : Int) : Option Int :=
  (l_Bx_rankOf_2 E x1 x2 FU M 0).bind fun (t6, v6_3) =>
  (if t6 = 1 then
  some v6_3
  else (if t6 = 2 then
  ck (inb x1 31) <|
  some (M 7 x1.toNat)
  else none))
def Fb_aheadOf_16b (E : Ev) (M : Mm) (x1 : Int) (x4 : Int) (x3 : Int) (x5 : Int) : Option (Nat × Int × Int) :=
  ck (rgI x5) <|
  ck (rgI x4) <|
  (if x4 ≤ x5 then
  some (1, x3, x5)
  else
  ck (inb x1 31) <|
  ck (inb x5 8) <|
  ck (nnI x3) <|
  ck (nnI (M (9 + x1.toNat) x5.toNat)) <|
  nb ((orI x3 (M (9 + x1.toNat) x5.toNat))) fun (v7 : Int) =>
  some (0, v7, (x5 + 1)))
def l_Fb_aheadOf_16 (E : Ev) (x1 : Int) (x4 : Int) : Nat → Mm → Int → Int → Option (Nat × Int × Int)
  | 0, _, _, _ => none
  | fu + 1, M, x3, x5 => (Fb_aheadOf_16b E M x1 x4 x3 x5).bind fun (t, w3, w5) => if t = 0 then l_Fb_aheadOf_16 E x1 x4 fu M w3 w5 else some (t, w3, w5)
def f_Fb_aheadOf (E : Ev) (M : Mm) (x1 : Int) (x2 : Int) : Option Int :=
  (f_Bx_rankOf E M x1 x2).bind fun r0 =>
  (l_Fb_aheadOf_16 E x1 r0 FU M 0 0).bind fun (t8, v8_3, v8_5) =>
  ck (t8 = 1) <|
  some v8_3
def Fb_writeTrial_9b (E : Ev) (M : Mm) (x1 : Int) : Option (Nat × Int × Mm) :=
  ck (rgI x1) <|
  ck (rgI (M 2 2)) <|
  (if (M 2 2) ≤ x1 then
  some (1, x1, M)
  else
  ck (inb x1 5) <|
  (f_Bx_rankOnTrial E M (M 52 x1.toNat) 1).bind fun M4 =>
  some (0, (x1 + 1), M4))
def l_Fb_writeTrial_9 (E : Ev) : Nat → Mm → Int → Option (Nat × Int × Mm)
  | 0, _, _ => none
  | fu + 1, M, x1 => (Fb_writeTrial_9b E M x1).bind fun (t, w1, N) => if t = 0 then l_Fb_writeTrial_9 E fu N w1 else some (t, w1, N)
def f_Fb_writeTrial (E : Ev) (M : Mm) : Option Mm :=
  (f_Bx_clearTrial E M).bind fun M0 =>
  (l_Fb_writeTrial_9 E FU M0 0).bind fun (t5, v5_1, M5) =>
  ck (t5 = 1) <|
  some (u2 M5 6 30 (M5 39 0))
def f_Fb_swap (E : Ev) (M : Mm) (x1 : Int) (x2 : Int) : Option Mm :=
  ck (inb x1 5) <|
  ck (inb x2 5) <|
  some (u2 (u2 M 52 x1.toNat (M 52 x2.toNat)) 52 x2.toNat (M 52 x1.toNat))
def Fb_goToNextOrder_14b (E : Ev) (M : Mm) (x1 : Int) (x2 : Int) : Option (Nat × Int × Mm) :=
  ck (rgI x2) <|
  (if x2 < 0 then
  some (1, x2, M)
  else
  ck (inb x2 5) <|
  ck (inb (x2 + 1) 5) <|
  ck (rgI (M 52 x2.toNat)) <|
  ck (rgI (M 52 (x2 + 1).toNat)) <|
  (if (M 52 x2.toNat) ≤ (M 52 (x2 + 1).toNat) then
  some (1, x2, M)
  else
  some (0, (x2 + (-1)), M)))
def l_Fb_goToNextOrder_14 (E : Ev) (x1 : Int) : Nat → Mm → Int → Option (Nat × Int × Mm)
  | 0, _, _ => none
  | fu + 1, M, x2 => (Fb_goToNextOrder_14b E M x1 x2).bind fun (t, w2, N) => if t = 0 then l_Fb_goToNextOrder_14 E x1 fu N w2 else some (t, w2, N)
def Fb_goToNextOrder_48b (E : Ev) (M : Mm) (x1 : Int) (x2 : Int) (x3 : Int) : Option (Nat × Int × Mm) :=
  ck (rgI x3) <|
  ck (rgI x2) <|
  (if x3 ≤ x2 then
  some (1, x3, M)
  else
  ck (inb x3 5) <|
  ck (inb x2 5) <|
  ck (rgI (M 52 x3.toNat)) <|
  ck (rgI (M 52 x2.toNat)) <|
  (if (M 52 x2.toNat) ≤ (M 52 x3.toNat) then
  some (1, x3, M)
  else
  some (0, (x3 + (-1)), M)))
def l_Fb_goToNextOrder_48 (E : Ev) (x1 : Int) (x2 : Int) : Nat → Mm → Int → Option (Nat × Int × Mm)
  | 0, _, _ => none
  | fu + 1, M, x3 => (Fb_goToNextOrder_48b E M x1 x2 x3).bind fun (t, w3, N) => if t = 0 then l_Fb_goToNextOrder_48 E x1 x2 fu N w3 else some (t, w3, N)
def Fb_goToNextOrder_88b (E : Ev) (M : Mm) (x4 : Int) (x5 : Int) : Option (Nat × Int × Int × Mm) :=
  ck (rgI x4) <|
  ck (rgI x5) <|
  (if x5 ≤ x4 then
  some (1, x4, x5, M)
  else
  (f_Fb_swap E M x4 x5).bind fun M17 =>
  some (0, (x4 + 1), (x5 + (-1)), M17))
def l_Fb_goToNextOrder_88 (E : Ev) : Nat → Mm → Int → Int → Option (Nat × Int × Int × Mm)
  | 0, _, _, _ => none
  | fu + 1, M, x4, x5 => (Fb_goToNextOrder_88b E M x4 x5).bind fun (t, w4, w5, N) => if t = 0 then l_Fb_goToNextOrder_88 E fu N w4 w5 else some (t, w4, w5, N)
def Fb_goToNextOrder_j74 (E : Ev) (M : Mm) (x1 : Int) (x2 : Int) (x3 : Int) : Option Mm :=
  (f_Fb_swap E M x2 x3).bind fun M14 =>
  (l_Fb_goToNextOrder_88 E FU M14 (x2 + 1) x1).bind fun (t18, v18_4, v18_5, M18) =>
  ck (t18 = 1) <|
  some M18
def Fb_goToNextOrder_j41 (E : Ev) (M : Mm) (x1 : Int) (x2 : Int) : Option Mm :=
  ck (rgI x2) <|
  (if 0 ≤ x2 then
  (l_Fb_goToNextOrder_48 E x1 x2 FU M x1).bind fun (t13, v13_3, M13) =>
  ck (t13 = 1) <|
  Fb_goToNextOrder_j74 E M13 x1 x2 v13_3
  else
  some M)
def f_Fb_goToNextOrder (E : Ev) (M : Mm) : Option Mm :=
  (l_Fb_goToNextOrder_14 E ((M 2 2) - 1) FU M (((M 2 2) - 1) - 1)).bind fun (t5, v5_2, M5) =>
  ck (t5 = 1) <|
  Fb_goToNextOrder_j41 E M5 ((M 2 2) - 1) v5_2
def Fb_findOrder_2b (E : Ev) (M : Mm) (x1 : Int) (x2 : Int) (x3 : Int) : Option (Nat × Int × Mm) :=
  ck (rgI x3) <|
  (if 5 ≤ x3 then
  some (1, x3, M)
  else
  ck (inb x3 5) <|
  some (0, (x3 + 1), (u2 M 52 x3.toNat x3)))
def l_Fb_findOrder_2 (E : Ev) (x1 : Int) (x2 : Int) : Nat → Mm → Int → Option (Nat × Int × Mm)
  | 0, _, _ => none
  | fu + 1, M, x3 => (Fb_findOrder_2b E M x1 x2 x3).bind fun (t, w3, N) => if t = 0 then l_Fb_findOrder_2 E x1 x2 fu N w3 else some (t, w3, N)
def Fb_findOrder_j94 (E : Ev) (M : Mm) (x1 : Int) (x2 : Int) (x3 : Int) (x5 : Int) : Option (Nat × Int × Mm) :=
  (f_Fb_goToNextOrder E M).bind fun M12 =>
  some (0, (x5 + 1), M12)
def Fb_findOrder_35b (E : Ev) (M : Mm) (x1 : Int) (x2 : Int) (x3 : Int) (x5 : Int) : Option (Nat × Int × Mm) :=
  ck (rgI x5) <|
  ck (rgJ x3) <|
  (if x3 ≤ x5 then
  some (2, x5, M)
  else
  (f_Fb_writeTrial E M).bind fun M7 =>
  (f_Po_change E M7 30 1).bind fun M8 =>
  (f_Po_bestBy E M8 x1).bind fun (r9, M9) =>
  (f_Po_change E M9 30 (-1)).bind fun M10 =>
  ck (rgI r9) <|
  (if r9 = (-1) then
  Fb_findOrder_j94 E M10 x1 x2 x3 x5
  else
  (f_B_has E M10 x2 r9).bind fun r13 =>
  ck (rgI r13) <|
  (if r13 = 0 then
  Fb_findOrder_j94 E M10 x1 x2 x3 x5
  else
  some (1, x5, M10))))
def l_Fb_findOrder_35 (E : Ev) (x1 : Int) (x2 : Int) (x3 : Int) : Nat → Mm → Int → Option (Nat × Int × Mm)
  | 0, _, _ => none
  | fu + 1, M, x5 => (Fb_findOrder_35b E M x1 x2 x3 x5).bind fun (t, w5, N) => if t = 0 then l_Fb_findOrder_35 E x1 x2 x3 fu N w5 else some (t, w5, N)
def f_Fb_findOrder (E : Ev) (M : Mm) (x1 : Int) (x2 : Int) : Option (Int × Mm) :=
  (l_Fb_findOrder_2 E x1 x2 FU M 0).bind fun (t2, v2_3, M2) =>
  ck (t2 = 1) <|
  ck (inb (M2 2 2) 13) <|
  (l_Fb_findOrder_35 E x1 x2 (facF (M2 2 2).toNat) FU M2 0).bind fun (t15, v15_5, M15) =>
  (if t15 = 1 then
  some (1, M15)
  else (if t15 = 2 then
  some (0, M15)
  else none))
def Fb_findKind_j65 (E : Ev) (M : Mm) (x1 : Int) (x2 : Int) (x3 : Int) (y0 : Int) : Option (Nat × Int × Mm) :=
  ck (rgI y0) <|
  (if y0 = 0 then
  some (0, (x3 + 1), M)
  else
  (f_Po_change E M x3 (-1)).bind fun M9 =>
  (f_Fb_findOrder E M9 x1 y0).bind fun (r10, M10) =>
  ck (rgI r10) <|
  (if r10 = 0 then
  (f_Po_change E M10 x3 1).bind fun M12 =>
  some (0, (x3 + 1), M12)
  else
  some (1, x3, M10)))
def Fb_findKind_32b (E : Ev) (M : Mm) (x1 : Int) (x2 : Int) (x3 : Int) : Option (Nat × Int × Mm) :=
  ck (rgI x3) <|
  ck (rgI (M 2 3)) <|
  (if (M 2 3) ≤ x3 then
  some (2, x3, M)
  else
  ck (inb x3 31) <|
  ck (rgI (M 5 x3.toNat)) <|
  (if (M 5 x3.toNat) ≤ 0 then
  Fb_findKind_j65 E M x1 x2 x3 0
  else
  (f_Fb_aheadOf E M x3 x2).bind fun r13 =>
  Fb_findKind_j65 E M x1 x2 x3 r13))
def l_Fb_findKind_32 (E : Ev) (x1 : Int) (x2 : Int) : Nat → Mm → Int → Option (Nat × Int × Mm)
  | 0, _, _ => none
  | fu + 1, M, x3 => (Fb_findKind_32b E M x1 x2 x3).bind fun (t, w3, N) => if t = 0 then l_Fb_findKind_32 E x1 x2 fu N w3 else some (t, w3, N)
def f_Fb_findKind (E : Ev) (M : Mm) (x1 : Int) : Option (Int × Mm) :=
  (f_Bx_everybody E M).bind fun r0 =>
  (f_Po_open E M r0).bind fun M1 =>
  (f_Po_bestBy E M1 x1).bind fun (r2, M2) =>
  ck (rgI r2) <|
  (if r2 = (-1) then
  some ((-1), M2)
  else
  (l_Fb_findKind_32 E x1 r2 FU M2 0).bind fun (t14, v14_3, M14) =>
  (if t14 = 1 then
  some (v14_3, M14)
  else (if t14 = 2 then
  some ((-1), M14)
  else none)))
def f_B_gain (E : Ev) (M : Mm) (x1 : Int) : Option (Int × Mm) :=
  (f_B_needRange E M x1 0 4).bind fun _u =>
  (f_B_needFewCandidates E M).bind fun _u =>
  (f_Fb_findKind E M x1).bind fun (r2, M2) =>
  some (r2, M2)
def B_gainAt_j34 (E : Ev) (M : Mm) (x2 : Int) (y0 : Int) (y1 : Int) : Option (Int × Mm) :=
  (f_B_needPlace E M y1 y0).bind fun _u =>
  ck (inb x2 5) <|
  some ((M 52 x2.toNat), M)
def f_B_gainAt (E : Ev) (M : Mm) (x1 : Int) (x2 : Int) : Option (Int × Mm) :=
  (f_B_needRange E M x1 0 4).bind fun _u =>
  (f_B_needFewCandidates E M).bind fun _u =>
  (f_Fb_findKind E M x1).bind fun (r2, M2) =>
  ck (rgI r2) <|
  (if r2 = (-1) then
  B_gainAt_j34 E M2 x2 0 x2
  else
  B_gainAt_j34 E M2 x2 (M2 2 2) x2)
def f_B_greatestDistrict (E : Ev) (M : Mm) (x1 : Int) : Option (Int × Mm) :=
  (f_B_needRange E M x1 1 (M 219 0)).bind fun _u =>
  (f_Wa_divide E M x1).bind fun (r1, M1) =>
  some (r1, M1)
def f_B_kindAt (E : Ev) (M : Mm) (x1 : Int) (x2 : Int) (x3 : Int) : Option Int :=
  (f_B_needIndex E M x1 (M 2 3)).bind fun _u =>
  (f_B_needIndex E M x2 (M 2 2)).bind fun _u =>
  ck (rgI x3) <|
  (if x3 = 0 then
  ck (inb x1 31) <|
  ck (rgI (M 6 x1.toNat)) <|
  ck (shI x2) <|
  some (((M 6 x1.toNat) / 2 ^ x2.toNat) % 2)
  else
  (f_Bx_rankOf E M x1 x2).bind fun r6 =>
  some r6)
def f_Li_append (E : Ev) (M : Mm) (x1 : Int) : Option (Int × Mm) :=
  ck (inb (M 53 0) 8) <|
  nb (u2 (u2 (u2 (u2 M 54 (M 53 0).toNat x1) 55 (M 53 0).toNat 0) 56 (M 53 0).toNat (M 53 0)) 53 0 (((u2 (u2 (u2 M 54 (M 53 0).toNat x1) 55 (M 53 0).toNat 0) 56 (M 53 0).toNat (M 53 0)) 53 0) + 1)) fun (M1 : Mm) =>
  some ((M 53 0), M1)
def f_B_list (E : Ev) (M : Mm) (x1 : Int) : Option (Int × Mm) :=
  (f_B_needRange E M x1 0 10000000).bind fun _u =>
  (f_B_needRoom E M ((M 53 0) + 1) 8).bind fun _u =>
  (f_Li_append E M x1).bind fun (r2, M2) =>
  (f_B_remember E M2 5 r2 0).bind fun M3 =>
  some (r2, M3)
def f_Cl_append (E : Ev) (M : Mm) (x1 : Int) : Option (Int × Mm) :=
  ck (inb (M 243 0) 12) <|
  some ((M 243 0), (u2 (u2 M 244 (M 243 0).toNat x1) 243 0 (((u2 M 244 (M 243 0).toNat x1) 243 0) + 1)))
def f_B_member (E : Ev) (M : Mm) (x1 : Int) : Option (Int × Mm) :=
  (f_B_needRange E M x1 0 1000).bind fun _u =>
  (f_B_needRoom E M ((M 243 0) + 1) 12).bind fun _u =>
  (f_Cl_append E M x1).bind fun (r2, M2) =>
  (f_B_remember E M2 11 r2 0).bind fun M3 =>
  some (r2, M3)
def f_B_ordersTurned (E : Ev) (M : Mm) (x1 : Int) : Option (Int × Mm) :=
  (f_B_needIndex E M x1 (M 243 0)).bind fun _u =>
  (f_Cl_findSums E M).bind fun M1 =>
  (f_Cl_ordersTurnedBy E M1 x1).bind fun r2 =>
  some (r2, M1)
def f_B_outputByte (E : Ev) (M : Mm) (x1 : Int) : Option Int :=
  ck (rgI x1) <|
  (if x1 < 0 then
  some (-1)
  else
  ck (rgI (M 1 13)) <|
  (if x1 < (M 1 13) then
  ck (inb x1 240) <|
  some (M 249 x1.toNat)
  else
  some (-1)))
def f_B_pathWinners (E : Ev) (M : Mm) : Option (Int × Mm) :=
  (f_Bx_everybody E M).bind fun r0 =>
  (f_Po_open E M r0).bind fun M1 =>
  (f_Po_winnersByPaths E M1).bind fun (r2, M2) =>
  some (r2, M2)
def f_B_quota (E : Ev) (M : Mm) : Option Int :=
  (f_Co_latest E M).bind fun r0 =>
  (match r0 with
  | none =>
  some (-1)
  | some p0 =>
  ck (isCt E p0) <|
  some (M p0 0))
def B_seatAt_j24 (E : Ev) (M : Mm) (x1 : Int) (q2 : Nat) (y0 : Int) (y1 : Int) : Option Int :=
  ck (isKs E q2) <|
  (f_B_needPlace E M y1 y0).bind fun _u =>
  ck (inb x1 60) <|
  some (M (q2 + 1) x1.toNat)
def f_B_seatAt (E : Ev) (M : Mm) (x1 : Int) : Option Int :=
  (f_Li_latest E M).bind fun r0 =>
  ck (isKs E r0) <|
  ck (rgI (M r0 1)) <|
  (if (M r0 1) = 0 then
  B_seatAt_j24 E M x1 r0 (M r0 0) x1
  else
  B_seatAt_j24 E M x1 r0 0 x1)
def f_Di_clear (E : Ev) (M : Mm) (p0 : Nat) : Option Mm :=
  ck (isDi E p0) <|
  some (u2 (u2 M p0 0 0) p0 1 0)
def f_Li_isSameUnit (E : Ev) (M : Mm) (x1 : Int) (x2 : Int) : Option Int :=
  ck (rgI x1) <|
  ck (rgI x2) <|
  (if x1 = x2 then
  some 1
  else
  ck (inb x1 8) <|
  ck (rgI (M 55 x1.toNat)) <|
  (if (M 55 x1.toNat) ≤ 0 then
  some 0
  else
  ck (inb x2 8) <|
  ck (rgI (M 55 x2.toNat)) <|
  (if (M 55 x1.toNat) = (M 55 x2.toNat) then
  some 1
  else
  some 0)))
def Li_isFirstOfUnit_2b (E : Ev) (M : Mm) (x1 : Int) (x2 : Int) : Option (Nat × Int) :=
  ck (rgI x2) <|
  ck (rgI x1) <|
  (if x1 ≤ x2 then
  some (2, x2)
  else
  (f_Li_isSameUnit E M x1 x2).bind fun r2 =>
  ck (rgI r2) <|
  (if r2 = 0 then
  some (0, (x2 + 1))
  else
  some (1, x2)))
def l_Li_isFirstOfUnit_2 (E : Ev) (x1 : Int) : Nat → Mm → Int → Option (Nat × Int)
  | 0, _, _ => none
  | fu + 1, M, x2 => (Li_isFirstOfUnit_2b E M x1 x2).bind fun (t, w2) => if t = 0 then l_Li_isFirstOfUnit_2 E x1 fu M w2 else some (t, w2)
def f_Li_isFirstOfUnit (E : Ev) (M : Mm) (x1 : Int) : Option Int :=
  (l_Li_isFirstOfUnit_2 E x1 FU M 0).bind fun (t4, v4_2) =>
  (if t4 = 1 then
  some 0
  else (if t4 = 2 then
  some 1
  else none))
def f_Di_append (E : Ev) (M : Mm) (p0 : Nat) (x1 : Int) (x2 : Int) (x4 : Int) : Option Mm :=
  ck (isDi E p0) <|
  ck (rgI (M p0 0)) <|
  (if 8 ≤ (M p0 0) then
  some M
  else
  ck (inb (M p0 0) 8) <|
  ck (inb ((u2 M (p0 + 1) (M p0 0).toNat x1) p0 0) 8) <|
  nb (u2 (u2 M (p0 + 1) (M p0 0).toNat x1) (p0 + 2) ((u2 M (p0 + 1) (M p0 0).toNat x1) p0 0).toNat x2) fun (M3 : Mm) =>
  ck (inb (M3 p0 0) 8) <|
  ck (inb ((u2 M3 (p0 + 3) (M3 p0 0).toNat x4) p0 0) 8) <|
  nb (u2 (u2 M3 (p0 + 3) (M3 p0 0).toNat x4) (p0 + 4) ((u2 M3 (p0 + 3) (M3 p0 0).toNat x4) p0 0).toNat 0) fun (M6 : Mm) =>
  some (u2 M6 p0 0 ((M6 p0 0) + 1)))
def Li_appendUnit_9b (E : Ev) (M : Mm) (x1 : Int) (x2 : Int) (x4 : Int) (x6 : Int) (x7 : Int) : Option (Nat × Int × Int × Int × Mm) :=
  ck (rgI x7) <|
  ck (rgI (M 53 0)) <|
  (if (M 53 0) ≤ x7 then
  some (1, x4, x6, x7, M)
  else
  (f_Li_isSameUnit E M x1 x7).bind fun r2 =>
  ck (rgI r2) <|
  (if r2 = 0 then
  some (0, x4, x6, (x7 + 1), M)
  else
  ck (inb x7 8) <|
  ck (rgI (M 54 x7.toNat)) <|
  some (0, (x4 + (M 54 x7.toNat)), (x6 + 1), (x7 + 1), M)))
def l_Li_appendUnit_9 (E : Ev) (x1 : Int) (x2 : Int) : Nat → Mm → Int → Int → Int → Option (Nat × Int × Int × Int × Mm)
  | 0, _, _, _, _ => none
  | fu + 1, M, x4, x6, x7 => (Li_appendUnit_9b E M x1 x2 x4 x6 x7).bind fun (t, w4, w6, w7, N) => if t = 0 then l_Li_appendUnit_9 E x1 x2 fu N w4 w6 w7 else some (t, w4, w6, w7, N)
def f_Li_appendUnit (E : Ev) (M : Mm) (x1 : Int) (x2 : Int) : Option Mm :=
  (l_Li_appendUnit_9 E x1 x2 FU M 0 0 x1).bind fun (t6, v6_4, v6_6, v6_7, M6) =>
  ck (t6 = 1) <|
  ck (rgJ v6_4) <|
  (if v6_4 ≤ 0 then
  some M6
  else
  ck (rgJ (v6_4 * 100)) <|
  ck (rgJ x2) <|
  (if (v6_4 * 100) < x2 then
  some M6
  else
  ck (inb x1 8) <|
  (f_Di_append E M6 57 x1 v6_4 (M6 56 x1.toNat)).bind fun M11 =>
  ck (rgI (M11 53 6)) <|
  (if (M11 53 6) = 0 then
  ck (rgI v6_6) <|
  (if v6_6 ≤ 1 then
  some (u2 M11 53 6 0)
  else
  some (u2 M11 53 6 1))
  else
  some (u2 M11 53 6 1))))
def f_Di_give (E : Ev) (M : Mm) (p0 : Nat) (x1 : Int) : Option Mm :=
  ck (isDi E p0) <|
  ck (inb x1 8) <|
  ck (rgI ((u2 M (p0 + 4) x1.toNat ((M (p0 + 4) x1.toNat) + 1)) p0 1)) <|
  (if 61 ≤ ((u2 M (p0 + 4) x1.toNat ((M (p0 + 4) x1.toNat) + 1)) p0 1) then
  some (u2 M (p0 + 4) x1.toNat ((M (p0 + 4) x1.toNat) + 1))
  else
  nb (((u2 M (p0 + 4) x1.toNat ((M (p0 + 4) x1.toNat) + 1)) (p0 + 1) x1.toNat)) fun (v2 : Int) =>
  ck (inb ((u2 M (p0 + 4) x1.toNat ((M (p0 + 4) x1.toNat) + 1)) p0 1) 61) <|
  nb (u2 (u2 M (p0 + 4) x1.toNat ((M (p0 + 4) x1.toNat) + 1)) (p0 + 6) ((u2 M (p0 + 4) x1.toNat ((M (p0 + 4) x1.toNat) + 1)) p0 1).toNat v2) fun (M4 : Mm) =>
  some (u2 M4 p0 1 ((M4 p0 1) + 1)))
def f_Di_winsTie (E : Ev) (M : Mm) (p0 : Nat) (x1 : Int) (x2 : Int) : Option Int :=
  ck (isDi E p0) <|
  ck (inb x1 8) <|
  ck (inb x2 8) <|
  ck (rgJ (M (p0 + 2) x1.toNat)) <|
  ck (rgJ (M (p0 + 2) x2.toNat)) <|
  (if (M (p0 + 2) x1.toNat) = (M (p0 + 2) x2.toNat) then
  ck (rgI (M (p0 + 3) x1.toNat)) <|
  ck (rgI (M (p0 + 3) x2.toNat)) <|
  (if (M (p0 + 3) x1.toNat) < (M (p0 + 3) x2.toNat) then
  some 1
  else
  (if (M (p0 + 3) x1.toNat) = (M (p0 + 3) x2.toNat) then
  ck (rgI (M (p0 + 1) x1.toNat)) <|
  ck (rgI (M (p0 + 1) x2.toNat)) <|
  (if (M (p0 + 1) x2.toNat) ≤ (M (p0 + 1) x1.toNat) then
  some 0
  else
  some 1)
  else
  some 0))
  else
  (if (M (p0 + 2) x1.toNat) ≤ (M (p0 + 2) x2.toNat) then
  some 0
  else
  some 1))
def Di_giveToGreatestRemainder_4b (E : Ev) (M : Mm) (q0 : Nat) (x1 : Int) (x2 : Int) : Option (Nat × Int × Int × Mm) :=
  ck (isDi E q0) <|
  ck (rgI x2) <|
  ck (rgI (M q0 0)) <|
  (if (M q0 0) ≤ x2 then
  some (1, x1, x2, M)
  else
  ck (inb x2 8) <|
  ck (inb x1 8) <|
  ck (rgJ (M (q0 + 5) x2.toNat)) <|
  ck (rgJ (M (q0 + 5) x1.toNat)) <|
  (if (M (q0 + 5) x1.toNat) < (M (q0 + 5) x2.toNat) then
  some (0, x2, (x2 + 1), M)
  else
  (if (M (q0 + 5) x2.toNat) = (M (q0 + 5) x1.toNat) then
  (f_Di_winsTie E M q0 x2 x1).bind fun r6 =>
  ck (rgI r6) <|
  (if r6 = 0 then
  some (0, x1, (x2 + 1), M)
  else
  some (0, x2, (x2 + 1), M))
  else
  some (0, x1, (x2 + 1), M))))
def l_Di_giveToGreatestRemainder_4 (E : Ev) (q0 : Nat) : Nat → Mm → Int → Int → Option (Nat × Int × Int × Mm)
  | 0, _, _, _ => none
  | fu + 1, M, x1, x2 => (Di_giveToGreatestRemainder_4b E M q0 x1 x2).bind fun (t, w1, w2, N) => if t = 0 then l_Di_giveToGreatestRemainder_4 E q0 fu N w1 w2 else some (t, w1, w2, N)
def f_Di_giveToGreatestRemainder (E : Ev) (M : Mm) (p0 : Nat) : Option Mm :=
  ck (isDi E p0) <|
  (l_Di_giveToGreatestRemainder_4 E p0 FU M 0 1).bind fun (t8, v8_1, v8_2, M8) =>
  ck (t8 = 1) <|
  (f_Di_give E M8 p0 v8_1).bind fun M9 =>
  ck (inb v8_1 8) <|
  some (u2 M9 (p0 + 5) v8_1.toNat (-1))
def Di_distributeByRemainders_5b (E : Ev) (M : Mm) (q0 : Nat) (x1 : Int) (x2 : Int) (x4 : Int) : Option (Nat × Int × Int × Mm) :=
  ck (isDi E q0) <|
  ck (rgI x4) <|
  ck (rgI (M q0 0)) <|
  (if (M q0 0) ≤ x4 then
  some (1, x2, x4, M)
  else
  ck (inb x4 8) <|
  some (0, (x2 + (M (q0 + 2) x4.toNat)), (x4 + 1), M))
def l_Di_distributeByRemainders_5 (E : Ev) (q0 : Nat) (x1 : Int) : Nat → Mm → Int → Int → Option (Nat × Int × Int × Mm)
  | 0, _, _, _ => none
  | fu + 1, M, x2, x4 => (Di_distributeByRemainders_5b E M q0 x1 x2 x4).bind fun (t, w2, w4, N) => if t = 0 then l_Di_distributeByRemainders_5 E q0 x1 fu N w2 w4 else some (t, w2, w4, N)
def Di_distributeByRemainders_89b (E : Ev) (M : Mm) (q0 : Nat) (x1 : Int) (x2 : Int) (x4 : Int) (x5 : Int) (x6 : Int) (x7 : Int) : Option (Nat × Int × Mm) :=
  ck (isDi E q0) <|
  ck (rgI x7) <|
  ck (rgI x6) <|
  (if x6 ≤ x7 then
  some (1, x7, M)
  else
  (f_Di_give E M q0 x5).bind fun M16 =>
  some (0, (x7 + 1), M16))
def l_Di_distributeByRemainders_89 (E : Ev) (q0 : Nat) (x1 : Int) (x2 : Int) (x4 : Int) (x5 : Int) (x6 : Int) : Nat → Mm → Int → Option (Nat × Int × Mm)
  | 0, _, _ => none
  | fu + 1, M, x7 => (Di_distributeByRemainders_89b E M q0 x1 x2 x4 x5 x6 x7).bind fun (t, w7, N) => if t = 0 then l_Di_distributeByRemainders_89 E q0 x1 x2 x4 x5 x6 fu N w7 else some (t, w7, N)
def Di_distributeByRemainders_43b (E : Ev) (M : Mm) (q0 : Nat) (x1 : Int) (x2 : Int) (x4 : Int) (x5 : Int) : Option (Nat × Int × Int × Mm) :=
  ck (isDi E q0) <|
  ck (rgI x5) <|
  ck (rgI (M q0 0)) <|
  (if (M q0 0) ≤ x5 then
  some (1, x4, x5, M)
  else
  ck (inb x5 8) <|
  ck (rgI x1) <|
  ck (nnJ ((M (q0 + 2) x5.toNat) * x1)) <|
  ck (psJ x2) <|
  nb ((((M (q0 + 2) x5.toNat) * x1) / x2)) fun (v11 : Int) =>
  ck (psJ x2) <|
  nb ((((M (q0 + 2) x5.toNat) * x1) % x2)) fun (v13 : Int) =>
  (l_Di_distributeByRemainders_89 E q0 x1 x2 x4 x5 v11 FU (u2 M (q0 + 5) x5.toNat v13) 0).bind fun (t17, v17_7, M17) =>
  ck (t17 = 1) <|
  some (0, (x4 + v11), (x5 + 1), M17))
def l_Di_distributeByRemainders_43 (E : Ev) (q0 : Nat) (x1 : Int) (x2 : Int) : Nat → Mm → Int → Int → Option (Nat × Int × Int × Mm)
  | 0, _, _, _ => none
  | fu + 1, M, x4, x5 => (Di_distributeByRemainders_43b E M q0 x1 x2 x4 x5).bind fun (t, w4, w5, N) => if t = 0 then l_Di_distributeByRemainders_43 E q0 x1 x2 fu N w4 w5 else some (t, w4, w5, N)
def Di_distributeByRemainders_125b (E : Ev) (M : Mm) (q0 : Nat) (x1 : Int) (x5 : Int) : Option (Nat × Int × Mm) :=
  ck (isDi E q0) <|
  ck (rgI x5) <|
  ck (rgI x1) <|
  (if x1 ≤ x5 then
  some (1, x5, M)
  else
  (f_Di_giveToGreatestRemainder E M q0).bind fun M21 =>
  some (0, (x5 + 1), M21))
def l_Di_distributeByRemainders_125 (E : Ev) (q0 : Nat) (x1 : Int) : Nat → Mm → Int → Option (Nat × Int × Mm)
  | 0, _, _ => none
  | fu + 1, M, x5 => (Di_distributeByRemainders_125b E M q0 x1 x5).bind fun (t, w5, N) => if t = 0 then l_Di_distributeByRemainders_125 E q0 x1 fu N w5 else some (t, w5, N)
def f_Di_distributeByRemainders (E : Ev) (M : Mm) (p0 : Nat) (x1 : Int) : Option Mm :=
  ck (isDi E p0) <|
  (l_Di_distributeByRemainders_5 E p0 x1 FU M 0 0).bind fun (t3, v3_2, v3_4, M3) =>
  ck (t3 = 1) <|
  ck (rgJ v3_2) <|
  (if v3_2 = 0 then
  some M3
  else
  (l_Di_distributeByRemainders_43 E p0 x1 v3_2 FU M3 0 0).bind fun (t18, v18_4, v18_5, M18) =>
  ck (t18 = 1) <|
  (l_Di_distributeByRemainders_125 E p0 x1 FU M18 v18_4).bind fun (t22, v22_5, M22) =>
  ck (t22 = 1) <|
  some M22)
def f_Di_divisor (E : Ev) (M : Mm) (p0 : Nat) (x1 : Int) (x2 : Int) : Option Int :=
  ck (isDi E p0) <|
  ck (rgI x1) <|
  (if x1 = 0 then
  ck (rgI (x2 + 1)) <|
  some (x2 + 1)
  else
  (if x1 = 1 then
  ck (rgI ((2 * x2) + 1)) <|
  some ((2 * x2) + 1)
  else
  (if x1 = 2 then
  ck (rgI x2) <|
  (if x2 = 0 then
  some 14
  else
  ck (rgI ((20 * x2) + 10)) <|
  some ((20 * x2) + 10))
  else
  (if x1 = 3 then
  ck (rgI ((3 * x2) + 1)) <|
  some ((3 * x2) + 1)
  else
  ck (rgI (x2 + 2)) <|
  some (x2 + 2)))))
def f_Di_hasGreaterQuotient (E : Ev) (M : Mm) (p0 : Nat) (x1 : Int) (x2 : Int) (x3 : Int) : Option Int :=
  ck (isDi E p0) <|
  ck (inb x1 8) <|
  ck (inb x2 8) <|
  (f_Di_divisor E M p0 x3 (M (p0 + 4) x2.toNat)).bind fun r2 =>
  (f_Di_divisor E M p0 x3 (M (p0 + 4) x1.toNat)).bind fun r3 =>
  ck (rgJ ((M (p0 + 2) x1.toNat) * r2)) <|
  ck (rgJ ((M (p0 + 2) x2.toNat) * r3)) <|
  (if ((M (p0 + 2) x2.toNat) * r3) < ((M (p0 + 2) x1.toNat) * r2) then
  some 1
  else
  (if ((M (p0 + 2) x1.toNat) * r2) = ((M (p0 + 2) x2.toNat) * r3) then
  (f_Di_winsTie E M p0 x1 x2).bind fun r6 =>
  ck (rgI r6) <|
  (if r6 = 0 then
  some 0
  else
  some 1)
  else
  some 0))
def Di_distribute_32b (E : Ev) (M : Mm) (q0 : Nat) (x1 : Int) (x2 : Int) (x3 : Int) (x4 : Int) (x5 : Int) : Option (Nat × Int × Int × Mm) :=
  ck (isDi E q0) <|
  ck (rgI x5) <|
  ck (rgI (M q0 0)) <|
  (if (M q0 0) ≤ x5 then
  some (1, x4, x5, M)
  else
  (f_Di_hasGreaterQuotient E M q0 x5 x4 x1).bind fun r6 =>
  ck (rgI r6) <|
  (if r6 = 0 then
  some (0, x4, (x5 + 1), M)
  else
  some (0, x5, (x5 + 1), M)))
def l_Di_distribute_32 (E : Ev) (q0 : Nat) (x1 : Int) (x2 : Int) (x3 : Int) : Nat → Mm → Int → Int → Option (Nat × Int × Int × Mm)
  | 0, _, _, _ => none
  | fu + 1, M, x4, x5 => (Di_distribute_32b E M q0 x1 x2 x3 x4 x5).bind fun (t, w4, w5, N) => if t = 0 then l_Di_distribute_32 E q0 x1 x2 x3 fu N w4 w5 else some (t, w4, w5, N)
def Di_distribute_21b (E : Ev) (M : Mm) (q0 : Nat) (x1 : Int) (x2 : Int) (x3 : Int) : Option (Nat × Int × Mm) :=
  ck (isDi E q0) <|
  ck (rgI x3) <|
  ck (rgI x2) <|
  (if x2 ≤ x3 then
  some (1, x3, M)
  else
  (l_Di_distribute_32 E q0 x1 x2 x3 FU M 0 1).bind fun (t8, v8_4, v8_5, M8) =>
  ck (t8 = 1) <|
  (f_Di_give E M8 q0 v8_4).bind fun M9 =>
  some (0, (x3 + 1), M9))
def l_Di_distribute_21 (E : Ev) (q0 : Nat) (x1 : Int) (x2 : Int) : Nat → Mm → Int → Option (Nat × Int × Mm)
  | 0, _, _ => none
  | fu + 1, M, x3 => (Di_distribute_21b E M q0 x1 x2 x3).bind fun (t, w3, N) => if t = 0 then l_Di_distribute_21 E q0 x1 x2 fu N w3 else some (t, w3, N)
def f_Di_distribute (E : Ev) (M : Mm) (p0 : Nat) (x1 : Int) (x2 : Int) : Option Mm :=
  ck (isDi E p0) <|
  ck (rgI (M p0 0)) <|
  (if (M p0 0) = 0 then
  some M
  else
  ck (rgI x1) <|
  (if x1 = 5 then
  (f_Di_distributeByRemainders E M p0 x2).bind fun M11 =>
  some M11
  else
  (l_Di_distribute_21 E p0 x1 x2 FU M 0).bind fun (t10, v10_3, M10) =>
  ck (t10 = 1) <|
  some M10))
def Li_spreadInside_10b (E : Ev) (M : Mm) (x1 : Int) (x2 : Int) (x3 : Int) (x4 : Int) : Option (Nat × Int × Mm) :=
  ck (rgI x4) <|
  ck (rgI (M 53 0)) <|
  (if (M 53 0) ≤ x4 then
  some (1, x4, M)
  else
  (f_Li_isSameUnit E M x1 x4).bind fun r3 =>
  ck (rgI r3) <|
  (if r3 = 0 then
  some (0, (x4 + 1), M)
  else
  ck (inb x4 8) <|
  ck (rgI (M 54 x4.toNat)) <|
  (if (M 54 x4.toNat) ≤ 0 then
  some (0, (x4 + 1), M)
  else
  (f_Di_append E M 64 x4 (M 54 x4.toNat) (M 56 x4.toNat)).bind fun M7 =>
  some (0, (x4 + 1), M7))))
def l_Li_spreadInside_10 (E : Ev) (x1 : Int) (x2 : Int) (x3 : Int) : Nat → Mm → Int → Option (Nat × Int × Mm)
  | 0, _, _ => none
  | fu + 1, M, x4 => (Li_spreadInside_10b E M x1 x2 x3 x4).bind fun (t, w4, N) => if t = 0 then l_Li_spreadInside_10 E x1 x2 x3 fu N w4 else some (t, w4, N)
def Li_spreadInside_81b (E : Ev) (M : Mm) (x4 : Int) : Option (Nat × Int × Mm) :=
  ck (rgI x4) <|
  ck (rgI (M 64 0)) <|
  (if (M 64 0) ≤ x4 then
  some (1, x4, M)
  else
  ck (inb x4 8) <|
  ck (inb (M 65 x4.toNat) 8) <|
  some (0, (x4 + 1), (u2 M 71 (M 65 x4.toNat).toNat (M 68 x4.toNat))))
def l_Li_spreadInside_81 (E : Ev) : Nat → Mm → Int → Option (Nat × Int × Mm)
  | 0, _, _ => none
  | fu + 1, M, x4 => (Li_spreadInside_81b E M x4).bind fun (t, w4, N) => if t = 0 then l_Li_spreadInside_81 E fu N w4 else some (t, w4, N)
def f_Li_spreadInside (E : Ev) (M : Mm) (x1 : Int) (x2 : Int) (x3 : Int) : Option Mm :=
  (f_Di_clear E M 64).bind fun M0 =>
  (l_Li_spreadInside_10 E x1 x2 x3 FU M0 x1).bind fun (t8, v8_4, M8) =>
  ck (t8 = 1) <|
  (f_Di_distribute E M8 64 x2 x3).bind fun M9 =>
  (l_Li_spreadInside_81 E FU M9 0).bind fun (t14, v14_4, M14) =>
  ck (t14 = 1) <|
  some M14
def Li_spread_6b (E : Ev) (M : Mm) (x1 : Int) (x2 : Int) (x3 : Int) (x4 : Int) (x6 : Int) : Option (Nat × Int × Int × Mm) :=
  ck (rgI x6) <|
  ck (rgI (M 53 0)) <|
  (if (M 53 0) ≤ x6 then
  some (1, x4, x6, M)
  else
  ck (inb x6 8) <|
  ck (rgI (M 54 x6.toNat)) <|
  some (0, (x4 + (M 54 x6.toNat)), (x6 + 1), M))
def l_Li_spread_6 (E : Ev) (x1 : Int) (x2 : Int) (x3 : Int) : Nat → Mm → Int → Int → Option (Nat × Int × Int × Mm)
  | 0, _, _, _ => none
  | fu + 1, M, x4, x6 => (Li_spread_6b E M x1 x2 x3 x4 x6).bind fun (t, w4, w6, N) => if t = 0 then l_Li_spread_6 E x1 x2 x3 fu N w4 w6 else some (t, w4, w6, N)
def Li_spread_49b (E : Ev) (M : Mm) (x1 : Int) (x2 : Int) (x3 : Int) (x4 : Int) (x6 : Int) : Option (Nat × Int × Mm) :=
  ck (rgI x6) <|
  ck (rgI (M 53 0)) <|
  (if (M 53 0) ≤ x6 then
  some (1, x6, M)
  else
  (f_Li_isFirstOfUnit E M x6).bind fun r8 =>
  ck (rgI r8) <|
  (if r8 = 0 then
  some (0, (x6 + 1), M)
  else
  ck (rgI x3) <|
  (f_Li_appendUnit E M x6 (x3 * x4)).bind fun M11 =>
  some (0, (x6 + 1), M11)))
def l_Li_spread_49 (E : Ev) (x1 : Int) (x2 : Int) (x3 : Int) (x4 : Int) : Nat → Mm → Int → Option (Nat × Int × Mm)
  | 0, _, _ => none
  | fu + 1, M, x6 => (Li_spread_49b E M x1 x2 x3 x4 x6).bind fun (t, w6, N) => if t = 0 then l_Li_spread_49 E x1 x2 x3 x4 fu N w6 else some (t, w6, N)
def Li_spread_104b (E : Ev) (M : Mm) (x1 : Int) (x6 : Int) : Option (Nat × Int × Mm) :=
  ck (rgI x6) <|
  ck (rgI (M 57 0)) <|
  (if (M 57 0) ≤ x6 then
  some (1, x6, M)
  else
  ck (inb x6 8) <|
  (f_Li_spreadInside E M (M 58 x6.toNat) x1 (M 61 x6.toNat)).bind fun M18 =>
  some (0, (x6 + 1), M18))
def l_Li_spread_104 (E : Ev) (x1 : Int) : Nat → Mm → Int → Option (Nat × Int × Mm)
  | 0, _, _ => none
  | fu + 1, M, x6 => (Li_spread_104b E M x1 x6).bind fun (t, w6, N) => if t = 0 then l_Li_spread_104 E x1 fu N w6 else some (t, w6, N)
def f_Li_spread (E : Ev) (M : Mm) (x1 : Int) (x2 : Int) (x3 : Int) : Option (Int × Mm) :=
  (l_Li_spread_6 E x1 x2 x3 FU M 0 0).bind fun (t4, v4_4, v4_6, M4) =>
  ck (t4 = 1) <|
  (f_Di_clear E M4 57).bind fun M5 =>
  (l_Li_spread_49 E x1 x2 x3 v4_4 FU (u2 M5 53 6 0) 0).bind fun (t12, v12_6, M12) =>
  ck (t12 = 1) <|
  (f_Di_distribute E M12 57 x1 x2).bind fun M13 =>
  (f_Ar_fillI E M13 71 0).bind fun M14 =>
  (l_Li_spread_104 E x1 FU M14 0).bind fun (t19, v19_6, M19) =>
  ck (t19 = 1) <|
  some ((M19 57 0), M19)
def f_Li_keepSpread (E : Ev) (M : Mm) : Option Mm :=
  ck (nnI ((M 53 10) + 1)) <|
  ck (inb ((u2 M 53 10 (((M 53 10) + 1) % 21)) 53 10) 21) <|
  ck (rgI ((u2 M 53 10 (((M 53 10) + 1) % 21)) 57 1)) <|
  nb ((min ((u2 M 53 10 (((M 53 10) + 1) % 21)) 57 1) 60)) fun (v3 : Int) =>
  nb (u2 (u2 M 53 10 (((M 53 10) + 1) % 21)) (74 + 5 * ((u2 M 53 10 (((M 53 10) + 1) % 21)) 53 10).toNat) 0 v3) fun (M4 : Mm) =>
  ck ((M4 53 6) = 0 ∨ (M4 53 6) = 1) <|
  nb (u2 (u2 M4 (74 + 5 * ((u2 M 53 10 (((M 53 10) + 1) % 21)) 53 10).toNat) 1 (M4 53 6)) (74 + 5 * ((u2 M 53 10 (((M 53 10) + 1) % 21)) 53 10).toNat) 2 ((u2 M4 (74 + 5 * ((u2 M 53 10 (((M 53 10) + 1) % 21)) 53 10).toNat) 1 (M4 53 6)) 53 0)) fun (M6 : Mm) =>
  ck (cpk 0 0 (M6 (74 + 5 * ((u2 M 53 10 (((M 53 10) + 1) % 21)) 53 10).toNat) 0) 61 60) <|
  nb (uA M6 ((74 + 5 * ((u2 M 53 10 (((M 53 10) + 1) % 21)) 53 10).toNat) + 1) (va_cpy (M6 63) (M6 ((74 + 5 * ((u2 M 53 10 (((M 53 10) + 1) % 21)) 53 10).toNat) + 1)) 0 0 (M6 (74 + 5 * ((u2 M 53 10 (((M 53 10) + 1) % 21)) 53 10).toNat) 0).toNat)) fun (M8 : Mm) =>
  ck (cpk 0 0 8 8 8) <|
  nb (uA M8 ((74 + 5 * ((u2 M 53 10 (((M 53 10) + 1) % 21)) 53 10).toNat) + 2) (va_cpy (M8 71) (M8 ((74 + 5 * ((u2 M 53 10 (((M 53 10) + 1) % 21)) 53 10).toNat) + 2)) 0 0 8)) fun (M10 : Mm) =>
  ck (cpk 0 0 8 8 8) <|
  nb (uA M10 ((74 + 5 * ((u2 M 53 10 (((M 53 10) + 1) % 21)) 53 10).toNat) + 3) (va_cpy (M10 54) (M10 ((74 + 5 * ((u2 M 53 10 (((M 53 10) + 1) % 21)) 53 10).toNat) + 3)) 0 0 8)) fun (M12 : Mm) =>
  ck (cpk 0 0 8 8 8) <|
  nb (uA M12 ((74 + 5 * ((u2 M 53 10 (((M 53 10) + 1) % 21)) 53 10).toNat) + 4) (va_cpy (M12 55) (M12 ((74 + 5 * ((u2 M 53 10 (((M 53 10) + 1) % 21)) 53 10).toNat) + 4)) 0 0 8)) fun (M14 : Mm) =>
  some M14
def f_B_seats (E : Ev) (M : Mm) (x1 : Int) (x2 : Int) (x3 : Int) : Option (Int × Mm) :=
  (f_B_needRange E M x1 0 5).bind fun _u =>
  (f_B_needRange E M x2 1 60).bind fun _u =>
  (f_B_needRange E M x3 0 20).bind fun _u =>
  (f_Li_spread E M x1 x2 x3).bind fun (r3, M3) =>
  (f_Li_keepSpread E M3).bind fun M4 =>
  (f_B_remember E M4 8 0 0).bind fun M5 =>
  some (r3, M5)
def f_B_seatsOf (E : Ev) (M : Mm) (x1 : Int) : Option Int :=
  (f_B_needIndex E M x1 (M 53 0)).bind fun _u =>
  (f_Li_latest E M).bind fun r1 =>
  ck (isKs E r1) <|
  ck (inb x1 8) <|
  some (M (r1 + 2) x1.toNat)
def B_setLot_j76 (E : Ev) (M : Mm) (x2 : Int) (x5 : Int) (y0 : Int) : Option (Int × Mm) :=
  (f_B_remember E M y0 x2 x5).bind fun M6 =>
  some (x5, M6)
def B_setLot_j53 (E : Ev) (M : Mm) (x1 : Int) (x2 : Int) (x3 : Int) (y0 : Nat) : Option (Int × Mm) :=
  ck (isIA E y0) <|
  ck (inb x2 (tE E y0).2) <|
  ck (rgI x1) <|
  (if x1 = 0 then
  B_setLot_j76 E (u2 M y0 x2.toNat x3) x2 (M y0 x2.toNat) 1
  else
  B_setLot_j76 E (u2 M y0 x2.toNat x3) x2 (M y0 x2.toNat) 2)
def B_setLot_j22 (E : Ev) (M : Mm) (x1 : Int) (x2 : Int) (x3 : Int) (y0 : Int) (y1 : Int) : Option (Int × Mm) :=
  (f_B_needIndex E M y1 y0).bind fun _u =>
  (f_B_needRange E M x3 0 99).bind fun _u =>
  ck (rgI x1) <|
  (if x1 = 0 then
  B_setLot_j53 E M x1 x2 x3 4
  else
  B_setLot_j53 E M x1 x2 x3 56)
def f_B_setLot (E : Ev) (M : Mm) (x1 : Int) (x2 : Int) (x3 : Int) : Option (Int × Mm) :=
  ck (rgI x1) <|
  (if x1 = 0 then
  B_setLot_j22 E M x1 x2 x3 (M 2 2) x2
  else
  B_setLot_j22 E M x1 x2 x3 (M 53 0) x2)
def f_B_setQuota (E : Ev) (M : Mm) (x1 : Int) : Option (Int × Mm) :=
  (f_B_needRange E M x1 1 12000).bind fun _u =>
  (f_B_remember E (u2 M 243 1 x1) 12 0 (M 243 1)).bind fun M1 =>
  some ((M 243 1), M1)
def f_B_solidQuotas (E : Ev) (M : Mm) (x1 : Int) : Option (Int × Mm) :=
  (f_Bx_everybody E M).bind fun r0 =>
  (f_B_needRange E M x1 1 r0).bind fun _u =>
  (f_Co_latest E M).bind fun r2 =>
  (match r2 with
  | none =>
  none
  | some p2 =>
  ck (isCt E p2) <|
  ck (rgI (M p2 0)) <|
  (if 1 ≤ (M p2 0) then
  (f_Bx_everybody E M).bind fun r4 =>
  (f_Bx_findSupport E M 5 (M 2 3) r4).bind fun M5 =>
  ck (inb x1 256) <|
  ck (nnI (M5 40 x1.toNat)) <|
  ck (psI (M5 p2 0)) <|
  (f_In_bitCount E M5 x1).bind fun r9 =>
  ck (rgI ((M5 40 x1.toNat) / (M5 p2 0))) <|
  ck (rgI r9) <|
  nb ((min ((M5 40 x1.toNat) / (M5 p2 0)) r9)) fun (v12 : Int) =>
  some (v12, M5)
  else
  none))
def f_B_steps (E : Ev) (M : Mm) : Option Int :=
  (f_Co_latest E M).bind fun r0 =>
  (match r0 with
  | none =>
  some 0
  | some p0 =>
  ck (isCt E p0) <|
  some ((M p0 4) + (M p0 5)))
def f_B_strongestPath (E : Ev) (M : Mm) (x1 : Int) (x2 : Int) : Option (Int × Mm) :=
  (f_B_needIndex E M x1 (M 2 2)).bind fun _u =>
  (f_B_needIndex E M x2 (M 2 2)).bind fun _u =>
  (f_Bx_everybody E M).bind fun r2 =>
  (f_Po_open E M r2).bind fun M3 =>
  (f_Po_findPaths E M3).bind fun M4 =>
  (f_Po_path E M4 x1 x2).bind fun r5 =>
  some (r5, M4)
def Cl_setsSwungBy_4b (E : Ev) (M : Mm) (x1 : Int) (x2 : Int) (x3 : Int) : Option (Nat × Int × Int) :=
  ck (shI (M 243 0)) <|
  ck (rgI x3) <|
  ck (rgI (2 ^ (M 243 0).toNat)) <|
  (if (2 ^ (M 243 0).toNat) ≤ x3 then
  some (1, x2, x3)
  else
  (f_Cl_isSwung E M x3 x1).bind fun r3 =>
  ck (rgI r3) <|
  (if r3 = 0 then
  some (0, x2, (x3 + 1))
  else
  some (0, (x2 + 1), (x3 + 1))))
def l_Cl_setsSwungBy_4 (E : Ev) (x1 : Int) : Nat → Mm → Int → Int → Option (Nat × Int × Int)
  | 0, _, _, _ => none
  | fu + 1, M, x2, x3 => (Cl_setsSwungBy_4b E M x1 x2 x3).bind fun (t, w2, w3) => if t = 0 then l_Cl_setsSwungBy_4 E x1 fu M w2 w3 else some (t, w2, w3)
def f_Cl_setsSwungBy (E : Ev) (M : Mm) (x1 : Int) : Option Int :=
  (l_Cl_setsSwungBy_4 E x1 FU M 0 0).bind fun (t5, v5_2, v5_3) =>
  ck (t5 = 1) <|
  some v5_2
def f_B_swings (E : Ev) (M : Mm) (x1 : Int) : Option (Int × Mm) :=
  (f_B_needIndex E M x1 (M 243 0)).bind fun _u =>
  (f_Cl_findSums E M).bind fun M1 =>
  (f_Cl_setsSwungBy E M1 x1).bind fun r2 =>
  some (r2, M1)
def f_B_takeBack (E : Ev) (M : Mm) (x1 : Int) (x2 : Int) : Option (Int × Mm) :=
  (f_B_needIndex E M x1 (M 2 3)).bind fun _u =>
  ck (inb x1 31) <|
  (f_B_needRange E M x2 1 (M 5 x1.toNat)).bind fun _u =>
  (f_B_remember E M 4 x1 (M 5 x1.toNat)).bind fun M3 =>
  some (((u2 M3 5 x1.toNat ((M3 5 x1.toNat) - x2)) 5 x1.toNat), (u2 M3 5 x1.toNat ((M3 5 x1.toNat) - x2)))
def f_Co_goBack (E : Ev) (M : Mm) : Option Mm :=
  ck (nnI (((M 179 2) + 21) - 1)) <|
  some (u2 M 179 2 ((((M 179 2) + 21) - 1) % 21))
def f_Li_takeChangeBack (E : Ev) (M : Mm) (x1 : Int) (x2 : Int) (x3 : Int) : Option Mm :=
  ck (rgI x1) <|
  (if x1 = 2 then
  ck (inb x2 8) <|
  some (u2 M 56 x2.toNat x3)
  else
  (if x1 = 3 then
  some M
  else
  (if x1 = 4 then
  some M
  else
  (if x1 = 5 then
  some (u2 M 53 0 x2)
  else
  (if x1 = 6 then
  ck (inb x2 8) <|
  some (u2 M 54 x2.toNat x3)
  else
  (if x1 = 7 then
  ck (inb x2 8) <|
  some (u2 M 55 x2.toNat x3)
  else
  (if x1 = 8 then
  ck (nnI (((M 53 10) + 21) - 1)) <|
  some (u2 M 53 10 ((((M 53 10) + 21) - 1) % 21))
  else
  some M)))))))
def f_B_takeChangeBack (E : Ev) (M : Mm) (x1 : Int) (x2 : Int) (x3 : Int) : Option Mm :=
  ck (rgI x1) <|
  (if x1 = 0 then
  some (u2 M 2 2 x2)
  else
  (if x1 = 1 then
  ck (inb x2 8) <|
  some (u2 M 4 x2.toNat x3)
  else
  (if x1 = 2 then
  (f_Li_takeChangeBack E M x1 x2 x3).bind fun M3 =>
  some M3
  else
  (if x1 = 3 then
  some (u2 M 2 3 x2)
  else
  (if x1 = 4 then
  ck (inb x2 31) <|
  some (u2 M 5 x2.toNat x3)
  else
  (if x1 = 5 then
  (f_Li_takeChangeBack E M x1 x2 x3).bind fun M5 =>
  some M5
  else
  (if x1 = 6 then
  (f_Li_takeChangeBack E M x1 x2 x3).bind fun M6 =>
  some M6
  else
  (if x1 = 7 then
  (f_Li_takeChangeBack E M x1 x2 x3).bind fun M7 =>
  some M7
  else
  (if x1 = 8 then
  (f_Li_takeChangeBack E M x1 x2 x3).bind fun M8 =>
  some M8
  else
  (if x1 = 9 then
  (f_Co_goBack E M).bind fun M9 =>
  some M9
  else
  (if x1 = 10 then
  some (u2 M 219 0 x2)
  else
  (if x1 = 11 then
  some (u2 M 243 0 x2)
  else
  (if x1 = 12 then
  some (u2 M 243 1 x3)
  else
  (f_Li_takeChangeBack E M x1 x2 x3).bind fun M10 =>
  some M10)))))))))))))
def f_Bx_appendSign (E : Ev) (M : Mm) (x1 : Int) : Option Mm :=
  ck (rgI x1) <|
  (if x1 = 0 then
  some M
  else
  ck (rgI (M 2 1)) <|
  (if 30 ≤ (M 2 1) then
  some M
  else
  ck (inb (M 2 1) 30) <|
  some (u2 (u2 M 3 (M 2 1).toNat x1) 2 1 (((u2 M 3 (M 2 1).toNat x1) 2 1) + 1))))
def B_type_6b (E : Ev) (M : Mm) (x1 : Int) (x3 : Int) (x4 : Int) : Option (Nat × Int × Int × Mm) :=
  ck (rgI x4) <|
  (if x4 < 0 then
  some (1, x3, x4, M)
  else
  ck (shJ x4) <|
  ck (rgJ x1) <|
  (if ((x1 / 2 ^ x4.toNat) % 256) = 0 then
  some (0, x3, (x4 + (-8)), M)
  else
  some (0, (x3 + 1), (x4 + (-8)), M)))
def l_B_type_6 (E : Ev) (x1 : Int) : Nat → Mm → Int → Int → Option (Nat × Int × Int × Mm)
  | 0, _, _, _ => none
  | fu + 1, M, x3, x4 => (B_type_6b E M x1 x3 x4).bind fun (t, w3, w4, N) => if t = 0 then l_B_type_6 E x1 fu N w3 w4 else some (t, w3, w4, N)
def B_type_51b (E : Ev) (M : Mm) (x1 : Int) (x4 : Int) : Option (Nat × Int × Mm) :=
  ck (rgI x4) <|
  (if x4 < 0 then
  some (1, x4, M)
  else
  ck (shJ x4) <|
  ck (rgJ x1) <|
  (f_Bx_appendSign E M ((x1 / 2 ^ x4.toNat) % 256)).bind fun M8 =>
  some (0, (x4 + (-8)), M8))
def l_B_type_51 (E : Ev) (x1 : Int) : Nat → Mm → Int → Option (Nat × Int × Mm)
  | 0, _, _ => none
  | fu + 1, M, x4 => (B_type_51b E M x1 x4).bind fun (t, w4, N) => if t = 0 then l_B_type_51 E x1 fu N w4 else some (t, w4, N)
def f_B_type (E : Ev) (M : Mm) (x1 : Int) : Option (Int × Mm) :=
  (l_B_type_6 E x1 FU M 0 56).bind fun (t3, v3_3, v3_4, M3) =>
  ck (t3 = 1) <|
  (f_B_needRoom E M3 ((M3 2 1) + v3_3) 30).bind fun _u =>
  (l_B_type_51 E x1 FU M3 56).bind fun (t9, v9_4, M9) =>
  ck (t9 = 1) <|
  some ((M9 2 1), M9)
def f_B_undo (E : Ev) (M : Mm) : Option (Int × Mm) :=
  ck (rgI (M 1 11)) <|
  (if (M 1 11) = 0 then
  some ((-1), M)
  else
  ck (inb (M 1 10) 20) <|
  (f_B_takeChangeBack E M (M 246 (M 1 10).toNat) (M 247 (M 1 10).toNat) (M 248 (M 1 10).toNat)).bind fun M2 =>
  ck (nnI (((M2 1 10) + 20) - 1)) <|
  nb (u2 (u2 M2 1 10 ((((M2 1 10) + 20) - 1) % 20)) 1 11 (((u2 M2 1 10 ((((M2 1 10) + 20) - 1) % 20)) 1 11) - 1)) fun (M4 : Mm) =>
  some ((M4 1 11), M4))
def f_Wa_append (E : Ev) (M : Mm) (x1 : Int) (x2 : Int) (x3 : Int) : Option (Int × Mm) :=
  ck (inb (M 219 0) 16) <|
  nb (u2 (u2 (u2 (u2 M 220 (M 219 0).toNat x1) 222 (M 219 0).toNat x2) 223 (M 219 0).toNat x3) 219 0 (((u2 (u2 (u2 M 220 (M 219 0).toNat x1) 222 (M 219 0).toNat x2) 223 (M 219 0).toNat x3) 219 0) + 1)) fun (M1 : Mm) =>
  some ((M 219 0), M1)
def f_B_ward (E : Ev) (M : Mm) (x1 : Int) (x2 : Int) (x3 : Int) : Option (Int × Mm) :=
  (f_B_needRange E M x1 1 100000).bind fun _u =>
  (f_B_needRange E M x2 0 100000).bind fun _u =>
  (f_B_needRange E M x3 0 100000).bind fun _u =>
  (f_B_needRoom E M ((M 219 0) + 1) 16).bind fun _u =>
  (f_Wa_append E M x1 x2 x3).bind fun (r4, M4) =>
  (f_B_remember E M4 10 r4 0).bind fun M5 =>
  some (r4, M5)
def B_wasted_32b (E : Ev) (M : Mm) (x1 : Int) (x2 : Int) (x3 : Int) (x4 : Int) : Option (Nat × Int × Int × Mm) :=
  ck (rgI x4) <|
  ck (rgI x1) <|
  (if x1 ≤ x4 then
  some (1, x3, x4, M)
  else
  (f_Wa_votesIn E M x4 x2).bind fun r5 =>
  (f_Wa_votesIn E M x4 (1 - x2)).bind fun r6 =>
  ck (rgI r5) <|
  ck (rgI r6) <|
  (if r5 ≤ r6 then
  some (0, (x3 + r5), (x4 + 1), M)
  else
  ck (nnI (r5 + r6)) <|
  nb ((x3 + ((r5 - ((r5 + r6) / 2)) - 1))) fun (v10 : Int) =>
  some (0, v10, (x4 + 1), M)))
def l_B_wasted_32 (E : Ev) (x1 : Int) (x2 : Int) : Nat → Mm → Int → Int → Option (Nat × Int × Int × Mm)
  | 0, _, _, _ => none
  | fu + 1, M, x3, x4 => (B_wasted_32b E M x1 x2 x3 x4).bind fun (t, w3, w4, N) => if t = 0 then l_B_wasted_32 E x1 x2 fu N w3 w4 else some (t, w3, w4, N)
def f_B_wasted (E : Ev) (M : Mm) (x1 : Int) (x2 : Int) : Option (Int × Mm) :=
  (f_B_needRange E M x1 1 (M 219 0)).bind fun _u =>
  (f_B_needRange E M x2 0 1).bind fun _u =>
  (f_Wa_divide E M x1).bind fun (r2, M2) =>
  (l_B_wasted_32 E x1 x2 FU M2 0 0).bind fun (t11, v11_3, v11_4, M11) =>
  ck (t11 = 1) <|
  some (v11_3, M11)
def f_B_winner (E : Ev) (M : Mm) (x1 : Int) : Option (Int × Mm) :=
  (f_B_needRange E M x1 0 4).bind fun _u =>
  (f_Bx_everybody E M).bind fun r1 =>
  (f_Po_open E M r1).bind fun M2 =>
  (f_Po_bestBy E M2 x1).bind fun (r3, M3) =>
  some (r3, M3)
def f_Na_copyFrom (E : Ev) (M : Mm) (p0 : Nat) (p1 : Nat) : Option Mm :=
  ck (isNa E p0) <|
  ck (isNa E p1) <|
  ck (cpk 0 0 (M p1 1) 13 13) <|
  nb (u2 (uA M (p0 + 1) (va_cpy (M (p1 + 1)) (M (p0 + 1)) 0 0 (M p1 1).toNat)) p0 1 ((uA M (p0 + 1) (va_cpy (M (p1 + 1)) (M (p0 + 1)) 0 0 (M p1 1).toNat)) p1 1)) fun (M1 : Mm) =>
  some M1
def Na_subtractMultiple_j50 (E : Ev) (M : Mm) (q0 : Nat) (q1 : Nat) (x2 : Int) (x3 : Int) (x7 : Int) (y0 : Int) (y1 : Int) (y2 : Int) : Option (Nat × Int × Int × Mm) :=
  ck (isNa E q0) <|
  ck (isNa E q1) <|
  nb (((y2 + (y1 - y0)) % 1073741824)) fun (v4 : Int) =>
  ck (inb (x2 + x7) 13) <|
  ck (rgJ (y2 + (y1 - y0))) <|
  nb (((y2 + (y1 - y0)) / 1073741824)) fun (v7 : Int) =>
  some (0, v7, (x7 + 1), (u2 M (q0 + 1) (x2 + x7).toNat v4))
def Na_subtractMultiple_6b (E : Ev) (M : Mm) (q0 : Nat) (q1 : Nat) (x2 : Int) (x3 : Int) (x5 : Int) (x7 : Int) : Option (Nat × Int × Int × Mm) :=
  ck (isNa E q0) <|
  ck (isNa E q1) <|
  ck (rgI x7) <|
  ck (rgI (M q1 1)) <|
  (if (M q1 1) < x7 then
  some (1, x5, x7, M)
  else
  ck (inb (x2 + x7) 13) <|
  ck (rgI (M (q0 + 1) (x2 + x7).toNat)) <|
  (if (M q1 1) ≤ x7 then
  Na_subtractMultiple_j50 E M q0 q1 x2 x3 x7 0 (M (q0 + 1) (x2 + x7).toNat) x5
  else
  ck (inb x7 13) <|
  ck (rgI (M (q1 + 1) x7.toNat)) <|
  Na_subtractMultiple_j50 E M q0 q1 x2 x3 x7 (x3 * (M (q1 + 1) x7.toNat)) (M (q0 + 1) (x2 + x7).toNat) x5))
def l_Na_subtractMultiple_6 (E : Ev) (q0 : Nat) (q1 : Nat) (x2 : Int) (x3 : Int) : Nat → Mm → Int → Int → Option (Nat × Int × Int × Mm)
  | 0, _, _, _ => none
  | fu + 1, M, x5, x7 => (Na_subtractMultiple_6b E M q0 q1 x2 x3 x5 x7).bind fun (t, w5, w7, N) => if t = 0 then l_Na_subtractMultiple_6 E q0 q1 x2 x3 fu N w5 w7 else some (t, w5, w7, N)
def f_Na_subtractMultiple (E : Ev) (M : Mm) (p0 : Nat) (p1 : Nat) (x2 : Int) (x3 : Int) : Option (Int × Mm) :=
  ck (isNa E p0) <|
  ck (isNa E p1) <|
  (l_Na_subtractMultiple_6 E p0 p1 x2 x3 FU M 0 0).bind fun (t10, v10_5, v10_7, M10) =>
  ck (t10 = 1) <|
  some (v10_5, M10)
def Na_takeMultiple_78b (E : Ev) (M : Mm) (q0 : Nat) (q1 : Nat) (x2 : Int) (x3 : Int) (x4 : Int) (x8 : Int) (x10 : Int) (x12 : Int) : Option (Nat × Int × Int × Int × Mm) :=
  ck (isNa E q0) <|
  ck (isNa E q1) <|
  ck (rgI x12) <|
  (if 2 ≤ x12 then
  some (1, x8, x10, x12, M)
  else
  ck (rgJ x10) <|
  (if 1073741823 < x10 then
  some (1, x8, x10, x12, M)
  else
  ck (inb ((M q1 1) - 2) 13) <|
  ck (rgI (M (q1 + 1) ((M q1 1) - 2).toNat)) <|
  ck (inb (x3 - 2) 13) <|
  ck (rgI (M (q0 + 1) (x3 - 2).toNat)) <|
  ck (rgJ (x8 * (M (q1 + 1) ((M q1 1) - 2).toNat))) <|
  ck (rgJ ((x10 * 1073741824) + (M (q0 + 1) (x3 - 2).toNat))) <|
  (if (x8 * (M (q1 + 1) ((M q1 1) - 2).toNat)) ≤ ((x10 * 1073741824) + (M (q0 + 1) (x3 - 2).toNat)) then
  some (0, x8, x10, (x12 + 1), M)
  else
  some (0, (x8 - 1), (x10 + x4), (x12 + 1), M))))
def l_Na_takeMultiple_78 (E : Ev) (q0 : Nat) (q1 : Nat) (x2 : Int) (x3 : Int) (x4 : Int) : Nat → Mm → Int → Int → Int → Option (Nat × Int × Int × Int × Mm)
  | 0, _, _, _, _ => none
  | fu + 1, M, x8, x10, x12 => (Na_takeMultiple_78b E M q0 q1 x2 x3 x4 x8 x10 x12).bind fun (t, w8, w10, w12, N) => if t = 0 then l_Na_takeMultiple_78 E q0 q1 x2 x3 x4 fu N w8 w10 w12 else some (t, w8, w10, w12, N)
def Na_takeMultiple_j146 (E : Ev) (M : Mm) (q0 : Nat) (q1 : Nat) (x2 : Int) (x8 : Int) : Option (Int × Mm) :=
  ck (isNa E q0) <|
  ck (isNa E q1) <|
  (f_Na_subtractMultiple E M q0 q1 x2 x8).bind fun (r21, M21) =>
  ck (rgJ r21) <|
  (if 0 ≤ r21 then
  some (x8, M21)
  else
  (f_Na_subtractMultiple E M21 q0 q1 x2 (-1)).bind fun (r23, M23) =>
  some ((x8 - 1), M23))
def f_Na_takeMultiple (E : Ev) (M : Mm) (p0 : Nat) (p1 : Nat) (x2 : Int) : Option (Int × Mm) :=
  ck (isNa E p0) <|
  ck (isNa E p1) <|
  ck (inb ((M p1 1) - 1) 13) <|
  ck (rgI (M (p1 + 1) ((M p1 1) - 1).toNat)) <|
  nb ((M (p1 + 1) ((M p1 1) - 1).toNat)) fun (v2 : Int) =>
  (if v2 = 0 then
  some (0, M)
  else
  ck (inb (x2 + (M p1 1)) 13) <|
  ck (rgI (M (p0 + 1) (x2 + (M p1 1)).toNat)) <|
  ck (inb ((x2 + (M p1 1)) - 1) 13) <|
  ck (rgI (M (p0 + 1) ((x2 + (M p1 1)) - 1).toNat)) <|
  nb ((((M (p0 + 1) (x2 + (M p1 1)).toNat) * 1073741824) + (M (p0 + 1) ((x2 + (M p1 1)) - 1).toNat))) fun (v7 : Int) =>
  ck (nnJ v7) <|
  ck (psJ v2) <|
  ck (rgJ (v7 / v2)) <|
  nb ((v7 - ((min (v7 / v2) 1073741823) * v2))) fun (v11 : Int) =>
  (l_Na_takeMultiple_78 E p0 p1 x2 (x2 + (M p1 1)) v2 FU M (min (v7 / v2) 1073741823) v11 0).bind fun (t20, v20_8, v20_10, v20_12, M20) =>
  ck (t20 = 1) <|
  Na_takeMultiple_j146 E M20 p0 p1 x2 v20_8)
def Na_divide_43b (E : Ev) (M : Mm) (q0 : Nat) (q1 : Nat) (q2 : Nat) (q3 : Nat) (x4 : Int) : Option (Nat × Int × Mm) :=
  ck (isNa E q0) <|
  ck (isNa E q1) <|
  ck (isNa E q2) <|
  ck (isNa E q3) <|
  ck (rgI x4) <|
  (if 30 ≤ x4 then
  some (1, x4, M)
  else
  ck (inb ((M q1 1) - 1) 13) <|
  ck (shI x4) <|
  ck (rgI ((M (q1 + 1) ((M q1 1) - 1).toNat) * 2 ^ x4.toNat)) <|
  ck (rgI (((M (q1 + 1) ((M q1 1) - 1).toNat) * 2 ^ x4.toNat) / 536870912)) <|
  (if (((M (q1 + 1) ((M q1 1) - 1).toNat) * 2 ^ x4.toNat) / 536870912) = 0 then
  some (0, (x4 + 1), M)
  else
  some (1, x4, M)))
def l_Na_divide_43 (E : Ev) (q0 : Nat) (q1 : Nat) (q2 : Nat) (q3 : Nat) : Nat → Mm → Int → Option (Nat × Int × Mm)
  | 0, _, _ => none
  | fu + 1, M, x4 => (Na_divide_43b E M q0 q1 q2 q3 x4).bind fun (t, w4, N) => if t = 0 then l_Na_divide_43 E q0 q1 q2 q3 fu N w4 else some (t, w4, N)
def Na_divide_103b (E : Ev) (M : Mm) (q0 : Nat) (q2 : Nat) (q3 : Nat) (x4 : Int) (x5 : Int) : Option (Nat × Int × Mm) :=
  ck (isNa E q0) <|
  ck (isNa E q2) <|
  ck (isNa E q3) <|
  ck (rgI x5) <|
  (if 13 ≤ x5 then
  some (1, x5, M)
  else
  ck (inb x5 13) <|
  some (0, (x5 + 1), (u2 M (q0 + 1) x5.toNat 0)))
def l_Na_divide_103 (E : Ev) (q0 : Nat) (q2 : Nat) (q3 : Nat) (x4 : Int) : Nat → Mm → Int → Option (Nat × Int × Mm)
  | 0, _, _ => none
  | fu + 1, M, x5 => (Na_divide_103b E M q0 q2 q3 x4 x5).bind fun (t, w5, N) => if t = 0 then l_Na_divide_103 E q0 q2 q3 x4 fu N w5 else some (t, w5, N)
def Na_divide_148b (E : Ev) (M : Mm) (q0 : Nat) (q2 : Nat) (q3 : Nat) (x4 : Int) (x5 : Int) : Option (Nat × Int × Mm) :=
  ck (isNa E q0) <|
  ck (isNa E q2) <|
  ck (isNa E q3) <|
  ck (rgI x5) <|
  (if x5 < 0 then
  some (1, x5, M)
  else
  (f_Na_takeMultiple E M q0 q3 x5).bind fun (r19, M19) =>
  ck (inb x5 13) <|
  some (0, (x5 + (-1)), (u2 M19 (q2 + 1) x5.toNat r19)))
def l_Na_divide_148 (E : Ev) (q0 : Nat) (q2 : Nat) (q3 : Nat) (x4 : Int) : Nat → Mm → Int → Option (Nat × Int × Mm)
  | 0, _, _ => none
  | fu + 1, M, x5 => (Na_divide_148b E M q0 q2 q3 x4 x5).bind fun (t, w5, N) => if t = 0 then l_Na_divide_148 E q0 q2 q3 x4 fu N w5 else some (t, w5, N)
def Na_divide_j76 (E : Ev) (M : Mm) (q0 : Nat) (q1 : Nat) (q2 : Nat) (q3 : Nat) (x4 : Int) : Option Mm :=
  ck (isNa E q0) <|
  ck (isNa E q1) <|
  ck (isNa E q2) <|
  ck (isNa E q3) <|
  (f_Na_copyFrom E M q3 q1).bind fun M7 =>
  ck (shI x4) <|
  (f_Na_multiplySmall E M7 q3 (2 ^ x4.toNat)).bind fun M9 =>
  ck (shI x4) <|
  (f_Na_multiplySmall E M9 q0 (2 ^ x4.toNat)).bind fun M11 =>
  (l_Na_divide_103 E q0 q2 q3 x4 FU M11 (M11 q0 1)).bind fun (t14, v14_5, M14) =>
  ck (t14 = 1) <|
  (f_Ar_fillI E M14 (q2 + 1) 0).bind fun M15 =>
  ck (rgI (M15 q0 1)) <|
  nb (((min (M15 q0 1) 12) - (M15 q3 1))) fun (v17 : Int) =>
  (l_Na_divide_148 E q0 q2 q3 x4 FU M15 v17).bind fun (t21, v21_5, M21) =>
  ck (t21 = 1) <|
  (f_Na_trimTo E M21 q2 13).bind fun M22 =>
  (f_Na_trimTo E M22 q0 13).bind fun M23 =>
  ck (shI x4) <|
  (f_Na_divideSmall E M23 q0 (2 ^ x4.toNat)).bind fun (r25, M25) =>
  some M25
def Na_divide_j36 (E : Ev) (M : Mm) (y0 : Int) (y1 : Nat) : Option Mm :=
  ck (isNa E y1) <|
  (f_Na_become E M y1 y0).bind fun M30 =>
  some M30
def f_Na_divide (E : Ev) (M : Mm) (p0 : Nat) (p1 : Nat) (p2 : Nat) (p3 : Nat) : Option Mm :=
  ck (isNa E p0) <|
  ck (isNa E p1) <|
  ck (isNa E p2) <|
  ck (isNa E p3) <|
  ck (rgI (M p1 1)) <|
  (if 1 < (M p1 1) then
  (l_Na_divide_43 E p0 p1 p2 p3 FU M 0).bind fun (t6, v6_4, M6) =>
  ck (t6 = 1) <|
  Na_divide_j76 E M6 p0 p1 p2 p3 v6_4
  else
  (f_Na_copyFrom E M p2 p0).bind fun M26 =>
  ck (rgI (M26 p1 1)) <|
  (if (M26 p1 1) = 0 then
  Na_divide_j36 E M26 0 p0
  else
  (f_Na_divideSmall E M26 p2 (M26 (p1 + 1) 0)).bind fun (r28, M28) =>
  ck (rgI r28) <|
  Na_divide_j36 E M28 r28 p0))
def f_Na_isOne (E : Ev) (M : Mm) (p0 : Nat) : Option Int :=
  ck (isNa E p0) <|
  ck (rgI (M p0 1)) <|
  (if (M p0 1) = 1 then
  ck (rgI (M (p0 + 1) 0)) <|
  (if (M (p0 + 1) 0) = 1 then
  some 1
  else
  some 0)
  else
  some 0)
def Co_reduce_28b (E : Ev) (M : Mm) (q1 : Nat) (q2 : Nat) (x3 : Int) : Option (Nat × Nat × Nat × Int × Mm) :=
  ck (isNa E q1) <|
  ck (isNa E q2) <|
  ck (rgI x3) <|
  (if 1000 ≤ x3 then
  some (1, q1, q2, x3, M)
  else
  ck (rgI (M q2 1)) <|
  (if (M q2 1) ≤ 0 then
  some (1, q1, q2, x3, M)
  else
  (f_Na_divide E M q1 q2 197 199).bind fun M4 =>
  some (0, q2, q1, (x3 + 1), M4)))
def l_Co_reduce_28 (E : Ev) : Nat → Mm → Nat → Nat → Int → Option (Nat × Nat × Nat × Int × Mm)
  | 0, _, _, _, _ => none
  | fu + 1, M, q1, q2, x3 => (Co_reduce_28b E M q1 q2 x3).bind fun (t, w1, w2, w3, N) => if t = 0 then l_Co_reduce_28 E fu N w1 w2 w3 else some (t, w1, w2, w3, N)
def Co_reduce_j69 (E : Ev) (M : Mm) (q1 : Nat) : Option Mm :=
  ck (isNa E q1) <|
  (f_Na_isOne E M q1).bind fun r6 =>
  ck (rgI r6) <|
  (if r6 = 0 then
  (f_Na_divide E M 189 q1 197 199).bind fun M8 =>
  (f_Na_copyFrom E M8 189 197).bind fun M9 =>
  (f_Na_divide E M9 191 q1 197 199).bind fun M10 =>
  (f_Na_copyFrom E M10 191 197).bind fun M11 =>
  some M11
  else
  some M)
def f_Co_reduce (E : Ev) (M : Mm) : Option Mm :=
  (f_Na_copyFrom E M 193 191).bind fun M0 =>
  (f_Na_copyFrom E M0 195 189).bind fun M1 =>
  (l_Co_reduce_28 E FU M1 193 195 0).bind fun (t5, v5_1, v5_2, v5_3, M5) =>
  ck (t5 = 1) <|
  ck (isNa E v5_1) <|
  Co_reduce_j69 E M5 v5_1
def B_writePile_j72 (E : Ev) (M : Mm) (y0 : Int) (y1 : Int) (y2 : Nat) : Option (Int × Mm) :=
  ck (isCt E y2) <|
  (f_Co_loadPile E M y2 y1 y0).bind fun M5 =>
  (f_Co_reduce E M5).bind fun M6 =>
  (f_B_appendNumber E (u2 M6 1 13 0) 189).bind fun M7 =>
  (f_Na_isOne E M7 191).bind fun r8 =>
  ck (rgI r8) <|
  (if r8 = 0 then
  (f_B_appendByte E M7 47).bind fun M10 =>
  (f_B_appendNumber E M10 191).bind fun M11 =>
  some ((M11 1 13), M11)
  else
  some ((M7 1 13), M7))
def B_writePile_j16 (E : Ev) (M : Mm) (x1 : Int) (x2 : Int) : Option (Int × Mm) :=
  (f_Co_latest E M).bind fun r1 =>
  (match r1 with
  | none =>
  none
  | some p1 =>
  ck (isCt E p1) <|
  ck (rgI x1) <|
  (if x1 < 0 then
  none
  else
  ck (rgI ((M p1 4) + (M p1 5))) <|
  (if x1 ≤ ((M p1 4) + (M p1 5)) then
  ck (rgI x2) <|
  (if x2 = (-1) then
  B_writePile_j72 E M 8 x1 p1
  else
  B_writePile_j72 E M x2 x1 p1)
  else
  none)))
def f_B_writePile (E : Ev) (M : Mm) (x1 : Int) (x2 : Int) : Option (Int × Mm) :=
  ck (rgI x2) <|
  (if x2 = (-1) then
  B_writePile_j16 E M x1 x2
  else
  (f_B_needIndex E M x2 (M 2 2)).bind fun _u =>
  B_writePile_j16 E M x1 x2)
def f_Co_elect (E : Ev) (M : Mm) (p1 : Nat) (x2 : Int) : Option Mm :=
  ck (isCt E p1) <|
  ck (shI x2) <|
  ck (nnI (M 179 3)) <|
  ck (nnI (2 ^ x2.toNat)) <|
  ck (rgI ((u2 M 179 3 (dfI (M 179 3) (2 ^ x2.toNat))) p1 4)) <|
  (if 3 ≤ ((u2 M 179 3 (dfI (M 179 3) (2 ^ x2.toNat))) p1 4) then
  some (u2 M 179 3 (dfI (M 179 3) (2 ^ x2.toNat)))
  else
  ck (inb ((u2 M 179 3 (dfI (M 179 3) (2 ^ x2.toNat))) p1 4) 3) <|
  nb (u2 (u2 M 179 3 (dfI (M 179 3) (2 ^ x2.toNat))) (p1 + 2) ((u2 M 179 3 (dfI (M 179 3) (2 ^ x2.toNat))) p1 4).toNat x2) fun (M5 : Mm) =>
  some (u2 M5 p1 4 ((M5 p1 4) + 1)))
def f_Co_weightOf (E : Ev) (M : Mm) (x1 : Int) (x2 : Int) : Option Nat :=
  ck (inb ((x1 * 8) + x2) 240) <|
  (rE E 181 ((x1 * 8) + x2).toNat).bind fun p1 =>
  ck (isNa E p1) <|
  (rE E 181 ((x1 * 8) + x2).toNat).bind fun p2 =>
  ck (isNa E p2) <|
  some p2
def Co_passOn_46b (E : Ev) (M : Mm) (x1 : Int) (x2 : Int) (x3 : Int) : Option (Nat × Int × Mm) :=
  ck (rgI x3) <|
  ck (rgI (M 2 2)) <|
  (if (M 2 2) ≤ x3 then
  some (1, x3, M)
  else
  (f_B_has E M x2 x3).bind fun r6 =>
  ck (rgI r6) <|
  (if r6 = 0 then
  some (0, (x3 + 1), M)
  else
  (f_Co_weightOf E M x1 x3).bind fun r8 =>
  ck (isNa E r8) <|
  (f_Na_add E M r8 185).bind fun M9 =>
  ck (inb x3 9) <|
  (f_Na_add E M9 (201 + 2 * x3.toNat) 185).bind fun M11 =>
  some (0, (x3 + 1), M11)))
def l_Co_passOn_46 (E : Ev) (x1 : Int) (x2 : Int) : Nat → Mm → Int → Option (Nat × Int × Mm)
  | 0, _, _ => none
  | fu + 1, M, x3 => (Co_passOn_46b E M x1 x2 x3).bind fun (t, w3, N) => if t = 0 then l_Co_passOn_46 E x1 x2 fu N w3 else some (t, w3, N)
def f_Co_passOn (E : Ev) (M : Mm) (x1 : Int) : Option Mm :=
  (f_Bx_topOf E M x1 (M 179 3)).bind fun r0 =>
  ck (rgI r0) <|
  (if r0 = 0 then
  (f_Na_add E M 217 185).bind fun M13 =>
  some M13
  else
  (f_In_bitCount E M r0).bind fun r2 =>
  (f_Na_divideSmall E M 185 r2).bind fun (r3, M3) =>
  (l_Co_passOn_46 E x1 r0 FU M3 0).bind fun (t12, v12_3, M12) =>
  ck (t12 = 1) <|
  some M12)
def Co_exclude_55b (E : Ev) (M : Mm) (q1 : Nat) (x2 : Int) (x3 : Int) : Option (Nat × Int × Mm) :=
  ck (isCt E q1) <|
  ck (rgI x3) <|
  ck (rgI (M q1 2)) <|
  (if (M q1 2) ≤ x3 then
  some (1, x3, M)
  else
  (f_Co_weightOf E M x3 x2).bind fun r8 =>
  ck (isNa E r8) <|
  (f_Na_copyFrom E M 185 r8).bind fun M9 =>
  (f_Co_passOn E M9 x3).bind fun M10 =>
  some (0, (x3 + 1), M10))
def l_Co_exclude_55 (E : Ev) (q1 : Nat) (x2 : Int) : Nat → Mm → Int → Option (Nat × Int × Mm)
  | 0, _, _ => none
  | fu + 1, M, x3 => (Co_exclude_55b E M q1 x2 x3).bind fun (t, w3, N) => if t = 0 then l_Co_exclude_55 E q1 x2 fu N w3 else some (t, w3, N)
def Co_exclude_j43 (E : Ev) (M : Mm) (q1 : Nat) (x2 : Int) : Option Mm :=
  ck (isCt E q1) <|
  ck (inb x2 9) <|
  (f_Na_become E M (201 + 2 * x2.toNat) 0).bind fun M5 =>
  (l_Co_exclude_55 E q1 x2 FU M5 0).bind fun (t11, v11_3, M11) =>
  ck (t11 = 1) <|
  some M11
def f_Co_exclude (E : Ev) (M : Mm) (p1 : Nat) (x2 : Int) : Option Mm :=
  ck (isCt E p1) <|
  ck (shI x2) <|
  ck (nnI (M 179 3)) <|
  ck (nnI (2 ^ x2.toNat)) <|
  ck (rgI ((u2 M 179 3 (dfI (M 179 3) (2 ^ x2.toNat))) p1 5)) <|
  (if 8 ≤ ((u2 M 179 3 (dfI (M 179 3) (2 ^ x2.toNat))) p1 5) then
  Co_exclude_j43 E (u2 M 179 3 (dfI (M 179 3) (2 ^ x2.toNat))) p1 x2
  else
  ck (inb ((u2 M 179 3 (dfI (M 179 3) (2 ^ x2.toNat))) p1 5) 8) <|
  nb (u2 (u2 M 179 3 (dfI (M 179 3) (2 ^ x2.toNat))) (p1 + 3) ((u2 M 179 3 (dfI (M 179 3) (2 ^ x2.toNat))) p1 5).toNat x2) fun (M13 : Mm) =>
  Co_exclude_j43 E (u2 M13 p1 5 ((M13 p1 5) + 1)) p1 x2)
def f_Co_isAhead (E : Ev) (M : Mm) (x1 : Int) (x2 : Int) : Option Int :=
  ck (inb x1 9) <|
  ck (inb x2 9) <|
  (f_Na_compareWith E M (201 + 2 * x1.toNat) (201 + 2 * x2.toNat)).bind fun r2 =>
  ck (rgI r2) <|
  (if 0 < r2 then
  some 1
  else
  (if r2 = 0 then
  (f_Bx_winsLot E M x1 x2).bind fun r4 =>
  ck (rgI r4) <|
  (if r4 = 0 then
  some 0
  else
  some 1)
  else
  some 0))
def Co_greatestPile_4b (E : Ev) (M : Mm) (x1 : Int) (x2 : Int) : Option (Nat × Int × Int) :=
  ck (rgI x2) <|
  ck (rgI (M 2 2)) <|
  (if (M 2 2) ≤ x2 then
  some (1, x1, x2)
  else
  (f_B_has E M (M 179 3) x2).bind fun r2 =>
  ck (rgI r2) <|
  (if r2 = 0 then
  some (0, x1, (x2 + 1))
  else
  ck (rgI x1) <|
  (if x1 = (-1) then
  some (0, x2, (x2 + 1))
  else
  (f_Co_isAhead E M x2 x1).bind fun r5 =>
  ck (rgI r5) <|
  (if r5 = 0 then
  some (0, x1, (x2 + 1))
  else
  some (0, x2, (x2 + 1))))))
def l_Co_greatestPile_4 (E : Ev) : Nat → Mm → Int → Int → Option (Nat × Int × Int)
  | 0, _, _, _ => none
  | fu + 1, M, x1, x2 => (Co_greatestPile_4b E M x1 x2).bind fun (t, w1, w2) => if t = 0 then l_Co_greatestPile_4 E fu M w1 w2 else some (t, w1, w2)
def f_Co_greatestPile (E : Ev) (M : Mm) : Option Int :=
  (l_Co_greatestPile_4 E FU M (-1) 0).bind fun (t7, v7_1, v7_2) =>
  ck (t7 = 1) <|
  some v7_1
def Na_store_2b (E : Ev) (M : Mm) (q0 : Nat) (q1 : Nat) (x2 : Int) (x3 : Int) : Option (Nat × Int × Mm) :=
  ck (isNa E q0) <|
  ck (isIA E q1) <|
  ck (rgI x3) <|
  (if 13 ≤ x3 then
  some (1, x3, M)
  else
  (f_Na_limbAt E M q0 x3).bind fun r1 =>
  ck (inb (x2 + x3) (tE E q1).2) <|
  some (0, (x3 + 1), (u2 M q1 (x2 + x3).toNat r1)))
def l_Na_store_2 (E : Ev) (q0 : Nat) (q1 : Nat) (x2 : Int) : Nat → Mm → Int → Option (Nat × Int × Mm)
  | 0, _, _ => none
  | fu + 1, M, x3 => (Na_store_2b E M q0 q1 x2 x3).bind fun (t, w3, N) => if t = 0 then l_Na_store_2 E q0 q1 x2 fu N w3 else some (t, w3, N)
def f_Na_store (E : Ev) (M : Mm) (p0 : Nat) (p1 : Nat) (x2 : Int) : Option Mm :=
  ck (isNa E p0) <|
  ck (isIA E p1) <|
  (l_Na_store_2 E p0 p1 x2 FU M 0).bind fun (t3, v3_3, M3) =>
  ck (t3 = 1) <|
  some M3
def Co_keepMoment_12b (E : Ev) (M : Mm) (q1 : Nat) (x2 : Int) (x3 : Int) : Option (Nat × Int × Mm) :=
  ck (isCt E q1) <|
  ck (rgI x3) <|
  (if 9 ≤ x3 then
  some (1, x3, M)
  else
  ck (inb x3 9) <|
  (f_Ct_placeOf E M q1 x2 x3).bind fun r2 =>
  (f_Na_store E M (201 + 2 * x3.toNat) (q1 + 4) r2).bind fun M3 =>
  some (0, (x3 + 1), M3))
def l_Co_keepMoment_12 (E : Ev) (q1 : Nat) (x2 : Int) : Nat → Mm → Int → Option (Nat × Int × Mm)
  | 0, _, _ => none
  | fu + 1, M, x3 => (Co_keepMoment_12b E M q1 x2 x3).bind fun (t, w3, N) => if t = 0 then l_Co_keepMoment_12 E q1 x2 fu N w3 else some (t, w3, N)
def f_Co_keepMoment (E : Ev) (M : Mm) (p1 : Nat) : Option Mm :=
  ck (isCt E p1) <|
  (l_Co_keepMoment_12 E p1 ((M p1 4) + (M p1 5)) FU M 0).bind fun (t4, v4_3, M4) =>
  ck (t4 = 1) <|
  (f_Ct_placeOf E M4 p1 ((M p1 4) + (M p1 5)) 9).bind fun r5 =>
  (f_Na_store E M4 183 (p1 + 4) r5).bind fun M6 =>
  some M6
def Na_multiply_24b (E : Ev) (M : Mm) (q0 : Nat) (q1 : Nat) (q2 : Nat) (x3 : Int) (x4 : Int) (x6 : Int) : Option (Nat × Int × Int × Mm) :=
  ck (isNa E q0) <|
  ck (isNa E q1) <|
  ck (isNa E q2) <|
  ck (rgI x6) <|
  ck (rgI (M q2 1)) <|
  (if (M q2 1) < x6 then
  some (1, x4, x6, M)
  else
  ck (rgI (x3 + x6)) <|
  (if 13 ≤ (x3 + x6) then
  some (1, x4, x6, M)
  else
  ck (inb x3 13) <|
  ck (rgI (M (q1 + 1) x3.toNat)) <|
  (f_Na_limbAt E M q2 x6).bind fun r8 =>
  ck (rgI r8) <|
  ck (inb (x3 + x6) 13) <|
  ck (rgI (M (q0 + 1) (x3 + x6).toNat)) <|
  nb ((x4 + (((M (q1 + 1) x3.toNat) * r8) + (M (q0 + 1) (x3 + x6).toNat)))) fun (v12 : Int) =>
  ck (rgJ v12) <|
  some (0, (v12 / 1073741824), (x6 + 1), (u2 M (q0 + 1) (x3 + x6).toNat (v12 % 1073741824)))))
def l_Na_multiply_24 (E : Ev) (q0 : Nat) (q1 : Nat) (q2 : Nat) (x3 : Int) : Nat → Mm → Int → Int → Option (Nat × Int × Int × Mm)
  | 0, _, _, _ => none
  | fu + 1, M, x4, x6 => (Na_multiply_24b E M q0 q1 q2 x3 x4 x6).bind fun (t, w4, w6, N) => if t = 0 then l_Na_multiply_24 E q0 q1 q2 x3 fu N w4 w6 else some (t, w4, w6, N)
def Na_multiply_10b (E : Ev) (M : Mm) (q0 : Nat) (q1 : Nat) (q2 : Nat) (x3 : Int) : Option (Nat × Int × Mm) :=
  ck (isNa E q0) <|
  ck (isNa E q1) <|
  ck (isNa E q2) <|
  ck (rgI x3) <|
  ck (rgI (M q1 1)) <|
  (if (M q1 1) ≤ x3 then
  some (1, x3, M)
  else
  (l_Na_multiply_24 E q0 q1 q2 x3 FU M 0 0).bind fun (t14, v14_4, v14_6, M14) =>
  ck (t14 = 1) <|
  some (0, (x3 + 1), M14))
def l_Na_multiply_10 (E : Ev) (q0 : Nat) (q1 : Nat) (q2 : Nat) : Nat → Mm → Int → Option (Nat × Int × Mm)
  | 0, _, _ => none
  | fu + 1, M, x3 => (Na_multiply_10b E M q0 q1 q2 x3).bind fun (t, w3, N) => if t = 0 then l_Na_multiply_10 E q0 q1 q2 fu N w3 else some (t, w3, N)
def f_Na_multiply (E : Ev) (M : Mm) (p0 : Nat) (p1 : Nat) (p2 : Nat) : Option Mm :=
  ck (isNa E p0) <|
  ck (isNa E p1) <|
  ck (isNa E p2) <|
  (f_Ar_fillI E M (p0 + 1) 0).bind fun M0 =>
  (l_Na_multiply_10 E p0 p1 p2 FU M0 0).bind fun (t15, v15_3, M15) =>
  ck (t15 = 1) <|
  (f_Na_trimTo E M15 p0 13).bind fun M16 =>
  some M16
def f_Co_multiply (E : Ev) (M : Mm) (p1 : Nat) (p2 : Nat) : Option Mm :=
  ck (isNa E p1) <|
  ck (isNa E p2) <|
  ck (rgI (M p1 1)) <|
  (if (M p1 1) ≤ 0 then
  some M
  else
  (f_Na_multiply E M 199 p1 p2).bind fun M1 =>
  (f_Na_copyFrom E M1 p1 199).bind fun M2 =>
  some M2)
def Co_multiplyAll_11b (E : Ev) (M : Mm) (q1 : Nat) (x2 : Int) : Option (Nat × Int × Mm) :=
  ck (isNa E q1) <|
  ck (rgI x2) <|
  (if 9 ≤ x2 then
  some (1, x2, M)
  else
  ck (inb x2 9) <|
  (f_Co_multiply E M (201 + 2 * x2.toNat) q1).bind fun M3 =>
  some (0, (x2 + 1), M3))
def l_Co_multiplyAll_11 (E : Ev) (q1 : Nat) : Nat → Mm → Int → Option (Nat × Int × Mm)
  | 0, _, _ => none
  | fu + 1, M, x2 => (Co_multiplyAll_11b E M q1 x2).bind fun (t, w2, N) => if t = 0 then l_Co_multiplyAll_11 E q1 fu N w2 else some (t, w2, N)
def Co_multiplyAll_49b (E : Ev) (M : Mm) (q1 : Nat) (x2 : Int) (x3 : Int) : Option (Nat × Int × Mm) :=
  ck (isNa E q1) <|
  ck (rgI x3) <|
  ck (rgI (M 2 2)) <|
  (if (M 2 2) ≤ x3 then
  some (1, x3, M)
  else
  (f_B_has E M (M 179 3) x3).bind fun r9 =>
  ck (rgI r9) <|
  (if r9 = 0 then
  some (0, (x3 + 1), M)
  else
  (f_Co_weightOf E M x2 x3).bind fun r11 =>
  ck (isNa E r11) <|
  (f_Co_multiply E M r11 q1).bind fun M12 =>
  some (0, (x3 + 1), M12)))
def l_Co_multiplyAll_49 (E : Ev) (q1 : Nat) (x2 : Int) : Nat → Mm → Int → Option (Nat × Int × Mm)
  | 0, _, _ => none
  | fu + 1, M, x3 => (Co_multiplyAll_49b E M q1 x2 x3).bind fun (t, w3, N) => if t = 0 then l_Co_multiplyAll_49 E q1 x2 fu N w3 else some (t, w3, N)
def Co_multiplyAll_36b (E : Ev) (M : Mm) (q1 : Nat) (x2 : Int) : Option (Nat × Int × Mm) :=
  ck (isNa E q1) <|
  ck (rgI x2) <|
  ck (rgI (M 2 3)) <|
  (if (M 2 3) ≤ x2 then
  some (1, x2, M)
  else
  (l_Co_multiplyAll_49 E q1 x2 FU M 0).bind fun (t13, v13_3, M13) =>
  ck (t13 = 1) <|
  some (0, (x2 + 1), M13))
def l_Co_multiplyAll_36 (E : Ev) (q1 : Nat) : Nat → Mm → Int → Option (Nat × Int × Mm)
  | 0, _, _ => none
  | fu + 1, M, x2 => (Co_multiplyAll_36b E M q1 x2).bind fun (t, w2, N) => if t = 0 then l_Co_multiplyAll_36 E q1 fu N w2 else some (t, w2, N)
def f_Co_multiplyAll (E : Ev) (M : Mm) (p1 : Nat) : Option Mm :=
  ck (isNa E p1) <|
  (f_Co_multiply E M 183 p1).bind fun M0 =>
  (l_Co_multiplyAll_11 E p1 FU M0 0).bind fun (t4, v4_2, M4) =>
  ck (t4 = 1) <|
  (l_Co_multiplyAll_36 E p1 FU M4 0).bind fun (t14, v14_2, M14) =>
  ck (t14 = 1) <|
  some M14
def Na_subtract_4b (E : Ev) (M : Mm) (q0 : Nat) (q1 : Nat) (x2 : Int) (x3 : Int) : Option (Nat × Int × Int × Mm) :=
  ck (isNa E q0) <|
  ck (isNa E q1) <|
  ck (rgI x3) <|
  ck (rgI (M q0 1)) <|
  (if (M q0 1) ≤ x3 then
  some (1, x2, x3, M)
  else
  ck (inb x3 13) <|
  (f_Na_limbAt E M q1 x3).bind fun r3 =>
  nb ((((M (q0 + 1) x3.toNat) - r3) + x2)) fun (v4 : Int) =>
  ck (rgI v4) <|
  some (0, (v4 / 1073741824), (x3 + 1), (u2 M (q0 + 1) x3.toNat (v4 % 1073741824))))
def l_Na_subtract_4 (E : Ev) (q0 : Nat) (q1 : Nat) : Nat → Mm → Int → Int → Option (Nat × Int × Int × Mm)
  | 0, _, _, _ => none
  | fu + 1, M, x2, x3 => (Na_subtract_4b E M q0 q1 x2 x3).bind fun (t, w2, w3, N) => if t = 0 then l_Na_subtract_4 E q0 q1 fu N w2 w3 else some (t, w2, w3, N)
def f_Na_subtract (E : Ev) (M : Mm) (p0 : Nat) (p1 : Nat) : Option Mm :=
  ck (isNa E p0) <|
  ck (isNa E p1) <|
  (l_Na_subtract_4 E p0 p1 FU M 0 0).bind fun (t6, v6_2, v6_3, M6) =>
  ck (t6 = 1) <|
  (f_Na_trimTo E M6 p0 (M6 p0 1)).bind fun M7 =>
  some M7
def Co_passSurplus_64b (E : Ev) (M : Mm) (x1 : Int) (x2 : Int) : Option (Nat × Int × Mm) :=
  ck (rgI x2) <|
  ck (rgI (M 2 3)) <|
  (if (M 2 3) ≤ x2 then
  some (1, x2, M)
  else
  (f_Co_weightOf E M x2 x1).bind fun r9 =>
  ck (isNa E r9) <|
  (f_Na_multiply E M 185 r9 189).bind fun M10 =>
  (f_Co_passOn E M10 x2).bind fun M11 =>
  some (0, (x2 + 1), M11))
def l_Co_passSurplus_64 (E : Ev) (x1 : Int) : Nat → Mm → Int → Option (Nat × Int × Mm)
  | 0, _, _ => none
  | fu + 1, M, x2 => (Co_passSurplus_64b E M x1 x2).bind fun (t, w2, N) => if t = 0 then l_Co_passSurplus_64 E x1 fu N w2 else some (t, w2, N)
def f_Co_passSurplus (E : Ev) (M : Mm) (x1 : Int) : Option Mm :=
  ck (inb x1 9) <|
  (f_Na_copyFrom E M 189 (201 + 2 * x1.toNat)).bind fun M1 =>
  (f_Na_subtract E M1 189 187).bind fun M2 =>
  (f_Na_copyFrom E M2 191 (201 + 2 * x1.toNat)).bind fun M3 =>
  (f_Co_reduce E M3).bind fun M4 =>
  (f_Na_copyFrom E M4 (201 + 2 * x1.toNat) 187).bind fun M5 =>
  (f_Co_multiplyAll E M5 191).bind fun M6 =>
  (l_Co_passSurplus_64 E x1 FU M6 0).bind fun (t12, v12_2, M12) =>
  ck (t12 = 1) <|
  some M12
def Co_smallestPile_4b (E : Ev) (M : Mm) (x1 : Int) (x2 : Int) : Option (Nat × Int × Int) :=
  ck (rgI x2) <|
  ck (rgI (M 2 2)) <|
  (if (M 2 2) ≤ x2 then
  some (1, x1, x2)
  else
  (f_B_has E M (M 179 3) x2).bind fun r2 =>
  ck (rgI r2) <|
  (if r2 = 0 then
  some (0, x1, (x2 + 1))
  else
  ck (rgI x1) <|
  (if x1 = (-1) then
  some (0, x2, (x2 + 1))
  else
  (f_Co_isAhead E M x1 x2).bind fun r5 =>
  ck (rgI r5) <|
  (if r5 = 0 then
  some (0, x1, (x2 + 1))
  else
  some (0, x2, (x2 + 1))))))
def l_Co_smallestPile_4 (E : Ev) : Nat → Mm → Int → Int → Option (Nat × Int × Int)
  | 0, _, _, _ => none
  | fu + 1, M, x1, x2 => (Co_smallestPile_4b E M x1 x2).bind fun (t, w1, w2) => if t = 0 then l_Co_smallestPile_4 E fu M w1 w2 else some (t, w1, w2)
def f_Co_smallestPile (E : Ev) (M : Mm) : Option Int :=
  (l_Co_smallestPile_4 E FU M (-1) 0).bind fun (t7, v7_1, v7_2) =>
  ck (t7 = 1) <|
  some v7_1
def Co_takeStep_j79 (E : Ev) (M : Mm) (x4 : Int) : Option (Int × Mm) :=
  ck (rgI x4) <|
  (if x4 ≤ 0 then
  some (0, M)
  else
  some (1, M))
def f_Co_takeStep (E : Ev) (M : Mm) (p1 : Nat) (x2 : Int) (x3 : Int) : Option (Int × Mm) :=
  ck (isCt E p1) <|
  (f_In_bitCount E M (M 179 3)).bind fun r0 =>
  ck (rgI r0) <|
  ck (rgI x3) <|
  (if x3 < r0 then
  (f_Na_copyFrom E M 187 183).bind fun M3 =>
  (f_Na_multiplySmall E M3 187 (M3 p1 0)).bind fun M4 =>
  ck (inb x2 9) <|
  (f_Na_compareWith E M4 (201 + 2 * x2.toNat) 187).bind fun r6 =>
  ck (rgI r6) <|
  (if r6 < 0 then
  (f_Co_smallestPile E M4).bind fun r8 =>
  (f_Co_exclude E M4 p1 r8).bind fun M9 =>
  Co_takeStep_j79 E M9 r6
  else
  (f_Co_elect E M4 p1 x2).bind fun M11 =>
  Co_takeStep_j79 E M11 r6)
  else
  (f_Co_elect E M p1 x2).bind fun M12 =>
  some (0, M12))
