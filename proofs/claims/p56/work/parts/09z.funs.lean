/-! WHAT EACH METHOD DOES TO THE MEMORY: printed out of the bytecode by wip/p56/gen -/
def f_Bx_init (E : Ev) (M : Mm) (p0 : Nat) : Option (Ev × Mm) :=
  ck (isO 0 E p0) <|
  nb (nE E) fun (p0 : Nat) =>
  nb (eNew E (0, 30)) fun (E0 : Ev) =>
  nb (mN M (nE E)) fun (M0 : Mm) =>
  nb (eRef E0 p0 0 p0) fun (E1 : Ev) =>
  nb (nE E1) fun (p2 : Nat) =>
  nb (eNew E1 (0, 8)) fun (E2 : Ev) =>
  nb (mN M0 (nE E1)) fun (M2 : Mm) =>
  nb (eRef E2 p0 4 p2) fun (E3 : Ev) =>
  nb (nE E3) fun (p4 : Nat) =>
  nb (eNew E3 (0, 31)) fun (E4 : Ev) =>
  nb (mN M2 (nE E3)) fun (M4 : Mm) =>
  nb (eRef E4 p0 5 p4) fun (E5 : Ev) =>
  nb (nE E5) fun (p6 : Nat) =>
  nb (eNew E5 (0, 31)) fun (E6 : Ev) =>
  nb (mN M4 (nE E5)) fun (M6 : Mm) =>
  nb (eRef E6 p0 6 p6) fun (E7 : Ev) =>
  nb (nE E7) fun (p8 : Nat) =>
  nb (eNew E7 (0, 31)) fun (E8 : Ev) =>
  nb (mN M6 (nE E7)) fun (M8 : Mm) =>
  nb (eRef E8 p0 7 p8) fun (E9 : Ev) =>
  nb (nE E9) fun (p10 : Nat) =>
  nb (eGrid E9 31 8) fun (E10 : Ev) =>
  nb (mG M8 (nE E9) 31) fun (M10 : Mm) =>
  nb (eRef E10 p0 8 p10) fun (E11 : Ev) =>
  nb (nE E11) fun (p12 : Nat) =>
  nb (eNew E11 (0, 256)) fun (E12 : Ev) =>
  nb (mN M10 (nE E11)) fun (M12 : Mm) =>
  nb (eRef E12 p0 9 p12) fun (E13 : Ev) =>
  some (E13, M12)
def f_Po_init (E : Ev) (M : Mm) (p0 : Nat) (p1 : Nat) : Option (Ev × Mm) :=
  ck (isO 9 E p0) <|
  ck (isO 0 E p1) <|
  nb (nE E) fun (p0 : Nat) =>
  nb (eNew E (0, 31)) fun (E0 : Ev) =>
  nb (mN M (nE E)) fun (M0 : Mm) =>
  nb (eRef E0 p0 3 p0) fun (E1 : Ev) =>
  nb (nE E1) fun (p2 : Nat) =>
  nb (eNew E1 (0, 8)) fun (E2 : Ev) =>
  nb (mN M0 (nE E1)) fun (M2 : Mm) =>
  nb (eRef E2 p0 4 p2) fun (E3 : Ev) =>
  nb (nE E3) fun (p4 : Nat) =>
  nb (eNew E3 (0, 8)) fun (E4 : Ev) =>
  nb (mN M2 (nE E3)) fun (M4 : Mm) =>
  nb (eRef E4 p0 5 p4) fun (E5 : Ev) =>
  nb (nE E5) fun (p6 : Nat) =>
  nb (eNew E5 (0, 64)) fun (E6 : Ev) =>
  nb (mN M4 (nE E5)) fun (M6 : Mm) =>
  nb (eRef E6 p0 6 p6) fun (E7 : Ev) =>
  nb (nE E7) fun (p8 : Nat) =>
  nb (eNew E7 (0, 8)) fun (E8 : Ev) =>
  nb (mN M6 (nE E7)) fun (M8 : Mm) =>
  nb (eRef E8 p0 7 p8) fun (E9 : Ev) =>
  nb (nE E9) fun (p10 : Nat) =>
  nb (eNew E9 (0, 64)) fun (E10 : Ev) =>
  nb (mN M8 (nE E9)) fun (M10 : Mm) =>
  nb (eRef E10 p0 8 p10) fun (E11 : Ev) =>
  nb (nE E11) fun (p12 : Nat) =>
  nb (eNew E11 (1, 8)) fun (E12 : Ev) =>
  nb (mN M10 (nE E11)) fun (M12 : Mm) =>
  nb (eRef E12 p0 9 p12) fun (E13 : Ev) =>
  nb (nE E13) fun (p14 : Nat) =>
  nb (eNew E13 (0, 8)) fun (E14 : Ev) =>
  nb (mN M12 (nE E13)) fun (M14 : Mm) =>
  nb (eRef E14 p0 10 p14) fun (E15 : Ev) =>
  nb (nE E15) fun (p16 : Nat) =>
  nb (eNew E15 (1, 256)) fun (E16 : Ev) =>
  nb (mN M14 (nE E15)) fun (M16 : Mm) =>
  nb (eRef E16 p0 11 p16) fun (E17 : Ev) =>
  nb (eRef E17 p0 0 p1) fun (E18 : Ev) =>
  some (E18, M16)
def f_Fb_init (E : Ev) (M : Mm) (p0 : Nat) (p1 : Nat) (p2 : Nat) : Option (Ev × Mm) :=
  ck (isO 5 E p0) <|
  ck (isO 0 E p1) <|
  ck (isO 9 E p2) <|
  nb (nE E) fun (p0 : Nat) =>
  nb (eNew E (0, 5)) fun (E0 : Ev) =>
  nb (mN M (nE E)) fun (M0 : Mm) =>
  nb (eRef E0 p0 2 p0) fun (E1 : Ev) =>
  nb (eRef E1 p0 0 p1) fun (E2 : Ev) =>
  nb (eRef E2 p0 1 p2) fun (E3 : Ev) =>
  some (E3, M0)
def f_Di_init (E : Ev) (M : Mm) (p0 : Nat) : Option (Ev × Mm) :=
  ck (isO 4 E p0) <|
  nb (nE E) fun (p0 : Nat) =>
  nb (eNew E (0, 8)) fun (E0 : Ev) =>
  nb (mN M (nE E)) fun (M0 : Mm) =>
  nb (eRef E0 p0 2 p0) fun (E1 : Ev) =>
  nb (nE E1) fun (p2 : Nat) =>
  nb (eNew E1 (1, 8)) fun (E2 : Ev) =>
  nb (mN M0 (nE E1)) fun (M2 : Mm) =>
  nb (eRef E2 p0 3 p2) fun (E3 : Ev) =>
  nb (nE E3) fun (p4 : Nat) =>
  nb (eNew E3 (0, 8)) fun (E4 : Ev) =>
  nb (mN M2 (nE E3)) fun (M4 : Mm) =>
  nb (eRef E4 p0 4 p4) fun (E5 : Ev) =>
  nb (nE E5) fun (p6 : Nat) =>
  nb (eNew E5 (0, 8)) fun (E6 : Ev) =>
  nb (mN M4 (nE E5)) fun (M6 : Mm) =>
  nb (eRef E6 p0 5 p6) fun (E7 : Ev) =>
  nb (nE E7) fun (p8 : Nat) =>
  nb (eNew E7 (1, 8)) fun (E8 : Ev) =>
  nb (mN M6 (nE E7)) fun (M8 : Mm) =>
  nb (eRef E8 p0 6 p8) fun (E9 : Ev) =>
  nb (nE E9) fun (p10 : Nat) =>
  nb (eNew E9 (0, 61)) fun (E10 : Ev) =>
  nb (mN M8 (nE E9)) fun (M10 : Mm) =>
  nb (eRef E10 p0 7 p10) fun (E11 : Ev) =>
  some (E11, M10)
def f_Ks_init (E : Ev) (M : Mm) (p0 : Nat) : Option (Ev × Mm) :=
  ck (isO 6 E p0) <|
  nb (nE E) fun (p0 : Nat) =>
  nb (eNew E (0, 60)) fun (E0 : Ev) =>
  nb (mN M (nE E)) fun (M0 : Mm) =>
  nb (eRef E0 p0 3 p0) fun (E1 : Ev) =>
  nb (nE E1) fun (p2 : Nat) =>
  nb (eNew E1 (0, 8)) fun (E2 : Ev) =>
  nb (mN M0 (nE E1)) fun (M2 : Mm) =>
  nb (eRef E2 p0 4 p2) fun (E3 : Ev) =>
  nb (nE E3) fun (p4 : Nat) =>
  nb (eNew E3 (0, 8)) fun (E4 : Ev) =>
  nb (mN M2 (nE E3)) fun (M4 : Mm) =>
  nb (eRef E4 p0 5 p4) fun (E5 : Ev) =>
  nb (nE E5) fun (p6 : Nat) =>
  nb (eNew E5 (0, 8)) fun (E6 : Ev) =>
  nb (mN M4 (nE E5)) fun (M6 : Mm) =>
  nb (eRef E6 p0 6 p6) fun (E7 : Ev) =>
  some (E7, M6)
def Li_init_77b (E : Ev) (M : Mm) (q0 : Nat) (x1 : Int) : Option (Nat × Int × Ev × Mm) :=
  ck (isO 7 E q0) <|
  ck (rgI x1) <|
  (if 21 ≤ x1 then
  some (1, x1, E, M)
  else
  (rE E q0 9).bind fun p19 =>
  ck (isQ 3 E p19) <|
  nb (nE E) fun (p20 : Nat) =>
  nb (eNew E (106, 0)) fun (E20 : Ev) =>
  nb (mN M (nE E)) fun (M20 : Mm) =>
  (f_Ks_init E20 M20 p20).bind fun (E21, M21) =>
  ck (Gw E20 E21) <|
  ck (inb x1 (tE E21 p19).2) <|
  nb (eRef E21 p19 x1.toNat p20) fun (E23 : Ev) =>
  some (0, (x1 + 1), E23, M21))
def l_Li_init_77 (q0 : Nat) : Nat → Ev → Mm → Int → Option (Nat × Int × Ev × Mm)
  | 0, _, _, _ => none
  | fu + 1, E, M, x1 => (Li_init_77b E M q0 x1).bind fun (t, w1, F, N) => if t = 0 then l_Li_init_77 q0 fu F N w1 else some (t, w1, F, N)
def f_Li_init (E : Ev) (M : Mm) (p0 : Nat) : Option (Ev × Mm) :=
  ck (isO 7 E p0) <|
  nb (nE E) fun (p0 : Nat) =>
  nb (eNew E (0, 8)) fun (E0 : Ev) =>
  nb (mN M (nE E)) fun (M0 : Mm) =>
  nb (eRef E0 p0 1 p0) fun (E1 : Ev) =>
  nb (nE E1) fun (p2 : Nat) =>
  nb (eNew E1 (0, 8)) fun (E2 : Ev) =>
  nb (mN M0 (nE E1)) fun (M2 : Mm) =>
  nb (eRef E2 p0 2 p2) fun (E3 : Ev) =>
  nb (nE E3) fun (p4 : Nat) =>
  nb (eNew E3 (0, 8)) fun (E4 : Ev) =>
  nb (mN M2 (nE E3)) fun (M4 : Mm) =>
  nb (eRef E4 p0 3 p4) fun (E5 : Ev) =>
  nb (nE E5) fun (p6 : Nat) =>
  nb (eNew E5 (104, 0)) fun (E6 : Ev) =>
  nb (mN M4 (nE E5)) fun (M6 : Mm) =>
  (f_Di_init E6 M6 p6).bind fun (E7, M7) =>
  ck (Gw E6 E7) <|
  nb (eRef E7 p0 4 p6) fun (E8 : Ev) =>
  nb (nE E8) fun (p9 : Nat) =>
  nb (eNew E8 (104, 0)) fun (E9 : Ev) =>
  nb (mN M7 (nE E8)) fun (M9 : Mm) =>
  (f_Di_init E9 M9 p9).bind fun (E10, M10) =>
  ck (Gw E9 E10) <|
  nb (eRef E10 p0 5 p9) fun (E11 : Ev) =>
  nb (nE E11) fun (p12 : Nat) =>
  nb (eNew E11 (0, 8)) fun (E12 : Ev) =>
  nb (mN M10 (nE E11)) fun (M12 : Mm) =>
  nb (eRef E12 p0 7 p12) fun (E13 : Ev) =>
  nb (nE E13) fun (p14 : Nat) =>
  nb (eNew E13 (0, 8)) fun (E14 : Ev) =>
  nb (mN M12 (nE E13)) fun (M14 : Mm) =>
  nb (eRef E14 p0 8 p14) fun (E15 : Ev) =>
  nb (nE E15) fun (p16 : Nat) =>
  nb (eNew E15 (3, 21)) fun (E16 : Ev) =>
  nb (mN M14 (nE E15)) fun (M16 : Mm) =>
  nb (eRef E16 p0 9 p16) fun (E17 : Ev) =>
  (l_Li_init_77 p0 32 E17 M16 0).bind fun (t24, v24_1, E24, M24) =>
  ck (Gw E17 E24) <|
  ck (t24 = 1) <|
  some (E24, M24)
def f_Na_init (E : Ev) (M : Mm) (p0 : Nat) : Option (Ev × Mm) :=
  ck (isO 8 E p0) <|
  nb (nE E) fun (p0 : Nat) =>
  nb (eNew E (0, 13)) fun (E0 : Ev) =>
  nb (mN M (nE E)) fun (M0 : Mm) =>
  nb (eRef E0 p0 0 p0) fun (E1 : Ev) =>
  some (E1, M0)
def Co_init_138b (E : Ev) (M : Mm) (q0 : Nat) (x2 : Int) : Option (Nat × Int × Ev × Mm) :=
  ck (isO 3 E q0) <|
  ck (rgI x2) <|
  (if 9 ≤ x2 then
  some (1, x2, E, M)
  else
  (rE E q0 5).bind fun p35 =>
  ck (isQ 5 E p35) <|
  nb (nE E) fun (p36 : Nat) =>
  nb (eNew E (108, 0)) fun (E36 : Ev) =>
  nb (mN M (nE E)) fun (M36 : Mm) =>
  (f_Na_init E36 M36 p36).bind fun (E37, M37) =>
  ck (Gw E36 E37) <|
  ck (inb x2 (tE E37 p35).2) <|
  nb (eRef E37 p35 x2.toNat p36) fun (E39 : Ev) =>
  some (0, (x2 + 1), E39, M37))
def l_Co_init_138 (q0 : Nat) : Nat → Ev → Mm → Int → Option (Nat × Int × Ev × Mm)
  | 0, _, _, _ => none
  | fu + 1, E, M, x2 => (Co_init_138b E M q0 x2).bind fun (t, w2, F, N) => if t = 0 then l_Co_init_138 q0 fu F N w2 else some (t, w2, F, N)
def f_Co_init (E : Ev) (M : Mm) (p0 : Nat) (p1 : Nat) : Option (Ev × Mm) :=
  ck (isO 3 E p0) <|
  ck (isO 0 E p1) <|
  nb (nE E) fun (p0 : Nat) =>
  nb (eNew E (4, 21)) fun (E0 : Ev) =>
  nb (mN M (nE E)) fun (M0 : Mm) =>
  nb (eRef E0 p0 1 p0) fun (E1 : Ev) =>
  nb (nE E1) fun (p2 : Nat) =>
  nb (eNew E1 (5, 240)) fun (E2 : Ev) =>
  nb (mN M0 (nE E1)) fun (M2 : Mm) =>
  nb (eRef E2 p0 4 p2) fun (E3 : Ev) =>
  nb (nE E3) fun (p4 : Nat) =>
  nb (eNew E3 (5, 9)) fun (E4 : Ev) =>
  nb (mN M2 (nE E3)) fun (M4 : Mm) =>
  nb (eRef E4 p0 5 p4) fun (E5 : Ev) =>
  nb (nE E5) fun (p6 : Nat) =>
  nb (eNew E5 (108, 0)) fun (E6 : Ev) =>
  nb (mN M4 (nE E5)) fun (M6 : Mm) =>
  (f_Na_init E6 M6 p6).bind fun (E7, M7) =>
  ck (Gw E6 E7) <|
  nb (eRef E7 p0 6 p6) fun (E8 : Ev) =>
  nb (nE E8) fun (p9 : Nat) =>
  nb (eNew E8 (108, 0)) fun (E9 : Ev) =>
  nb (mN M7 (nE E8)) fun (M9 : Mm) =>
  (f_Na_init E9 M9 p9).bind fun (E10, M10) =>
  ck (Gw E9 E10) <|
  nb (eRef E10 p0 7 p9) fun (E11 : Ev) =>
  nb (nE E11) fun (p12 : Nat) =>
  nb (eNew E11 (108, 0)) fun (E12 : Ev) =>
  nb (mN M10 (nE E11)) fun (M12 : Mm) =>
  (f_Na_init E12 M12 p12).bind fun (E13, M13) =>
  ck (Gw E12 E13) <|
  nb (eRef E13 p0 8 p12) fun (E14 : Ev) =>
  nb (nE E14) fun (p15 : Nat) =>
  nb (eNew E14 (108, 0)) fun (E15 : Ev) =>
  nb (mN M13 (nE E14)) fun (M15 : Mm) =>
  (f_Na_init E15 M15 p15).bind fun (E16, M16) =>
  ck (Gw E15 E16) <|
  nb (eRef E16 p0 9 p15) fun (E17 : Ev) =>
  nb (nE E17) fun (p18 : Nat) =>
  nb (eNew E17 (108, 0)) fun (E18 : Ev) =>
  nb (mN M16 (nE E17)) fun (M18 : Mm) =>
  (f_Na_init E18 M18 p18).bind fun (E19, M19) =>
  ck (Gw E18 E19) <|
  nb (eRef E19 p0 10 p18) fun (E20 : Ev) =>
  nb (nE E20) fun (p21 : Nat) =>
  nb (eNew E20 (108, 0)) fun (E21 : Ev) =>
  nb (mN M19 (nE E20)) fun (M21 : Mm) =>
  (f_Na_init E21 M21 p21).bind fun (E22, M22) =>
  ck (Gw E21 E22) <|
  nb (eRef E22 p0 11 p21) fun (E23 : Ev) =>
  nb (nE E23) fun (p24 : Nat) =>
  nb (eNew E23 (108, 0)) fun (E24 : Ev) =>
  nb (mN M22 (nE E23)) fun (M24 : Mm) =>
  (f_Na_init E24 M24 p24).bind fun (E25, M25) =>
  ck (Gw E24 E25) <|
  nb (eRef E25 p0 12 p24) fun (E26 : Ev) =>
  nb (nE E26) fun (p27 : Nat) =>
  nb (eNew E26 (108, 0)) fun (E27 : Ev) =>
  nb (mN M25 (nE E26)) fun (M27 : Mm) =>
  (f_Na_init E27 M27 p27).bind fun (E28, M28) =>
  ck (Gw E27 E28) <|
  nb (eRef E28 p0 13 p27) fun (E29 : Ev) =>
  nb (nE E29) fun (p30 : Nat) =>
  nb (eNew E29 (108, 0)) fun (E30 : Ev) =>
  nb (mN M28 (nE E29)) fun (M30 : Mm) =>
  (f_Na_init E30 M30 p30).bind fun (E31, M31) =>
  ck (Gw E30 E31) <|
  nb (eRef E31 p0 14 p30) fun (E32 : Ev) =>
  nb (eRef E32 p0 0 p1) fun (E33 : Ev) =>
  (l_Co_init_138 p0 32 E33 M31 0).bind fun (t40, v40_2, E40, M40) =>
  ck (Gw E33 E40) <|
  ck (t40 = 1) <|
  some (E40, M40)
def f_Wa_init (E : Ev) (M : Mm) (p0 : Nat) : Option (Ev × Mm) :=
  ck (isO 10 E p0) <|
  nb (nE E) fun (p0 : Nat) =>
  nb (eNew E (0, 16)) fun (E0 : Ev) =>
  nb (mN M (nE E)) fun (M0 : Mm) =>
  nb (eRef E0 p0 1 p0) fun (E1 : Ev) =>
  nb (nE E1) fun (p2 : Nat) =>
  nb (eGrid E1 2 16) fun (E2 : Ev) =>
  nb (mG M0 (nE E1) 2) fun (M2 : Mm) =>
  nb (eRef E2 p0 2 p2) fun (E3 : Ev) =>
  nb (nE E3) fun (p4 : Nat) =>
  nb (eGrid E3 17 16) fun (E4 : Ev) =>
  nb (mG M2 (nE E3) 17) fun (M4 : Mm) =>
  nb (eRef E4 p0 3 p4) fun (E5 : Ev) =>
  nb (nE E5) fun (p6 : Nat) =>
  nb (eNew E5 (0, 16)) fun (E6 : Ev) =>
  nb (mN M4 (nE E5)) fun (M6 : Mm) =>
  nb (eRef E6 p0 4 p6) fun (E7 : Ev) =>
  some (E7, M6)
def f_Cl_init (E : Ev) (M : Mm) (p0 : Nat) : Option (Ev × Mm) :=
  ck (isO 1 E p0) <|
  nb (nE E) fun (p0 : Nat) =>
  nb (eNew E (0, 12)) fun (E0 : Ev) =>
  nb (mN (u2 M p0 1 1) (nE E)) fun (M0 : Mm) =>
  nb (eRef E0 p0 2 p0) fun (E1 : Ev) =>
  nb (nE E1) fun (p2 : Nat) =>
  nb (eNew E1 (0, 4096)) fun (E2 : Ev) =>
  nb (mN M0 (nE E1)) fun (M2 : Mm) =>
  nb (eRef E2 p0 3 p2) fun (E3 : Ev) =>
  some (E3, M2)
def f_B_init (E : Ev) (M : Mm) (p0 : Nat) : Option (Ev × Mm) :=
  ck (isO 11 E p0) <|
  nb (nE E) fun (p0 : Nat) =>
  nb (eNew E (100, 0)) fun (E0 : Ev) =>
  nb (mN M (nE E)) fun (M0 : Mm) =>
  (f_Bx_init E0 M0 p0).bind fun (E1, M1) =>
  ck (Gw E0 E1) <|
  nb (eRef E1 p0 0 p0) fun (E2 : Ev) =>
  nb (nE E2) fun (p3 : Nat) =>
  nb (eNew E2 (109, 0)) fun (E3 : Ev) =>
  nb (mN M1 (nE E2)) fun (M3 : Mm) =>
  (rE E3 p0 0).bind fun p4 =>
  ck (isO 0 E3 p4) <|
  (f_Po_init E3 M3 p3 p4).bind fun (E5, M5) =>
  ck (Gw E3 E5) <|
  nb (eRef E5 p0 1 p3) fun (E6 : Ev) =>
  nb (nE E6) fun (p7 : Nat) =>
  nb (eNew E6 (105, 0)) fun (E7 : Ev) =>
  nb (mN M5 (nE E6)) fun (M7 : Mm) =>
  (rE E7 p0 0).bind fun p8 =>
  ck (isO 0 E7 p8) <|
  (rE E7 p0 1).bind fun p9 =>
  ck (isO 9 E7 p9) <|
  (f_Fb_init E7 M7 p7 p8 p9).bind fun (E10, M10) =>
  ck (Gw E7 E10) <|
  nb (eRef E10 p0 2 p7) fun (E11 : Ev) =>
  nb (nE E11) fun (p12 : Nat) =>
  nb (eNew E11 (107, 0)) fun (E12 : Ev) =>
  nb (mN M10 (nE E11)) fun (M12 : Mm) =>
  (f_Li_init E12 M12 p12).bind fun (E13, M13) =>
  ck (Gw E12 E13) <|
  nb (eRef E13 p0 3 p12) fun (E14 : Ev) =>
  nb (nE E14) fun (p15 : Nat) =>
  nb (eNew E14 (103, 0)) fun (E15 : Ev) =>
  nb (mN M13 (nE E14)) fun (M15 : Mm) =>
  (rE E15 p0 0).bind fun p16 =>
  ck (isO 0 E15 p16) <|
  (f_Co_init E15 M15 p15 p16).bind fun (E17, M17) =>
  ck (Gw E15 E17) <|
  nb (eRef E17 p0 4 p15) fun (E18 : Ev) =>
  nb (nE E18) fun (p19 : Nat) =>
  nb (eNew E18 (110, 0)) fun (E19 : Ev) =>
  nb (mN M17 (nE E18)) fun (M19 : Mm) =>
  (f_Wa_init E19 M19 p19).bind fun (E20, M20) =>
  ck (Gw E19 E20) <|
  nb (eRef E20 p0 5 p19) fun (E21 : Ev) =>
  nb (nE E21) fun (p22 : Nat) =>
  nb (eNew E21 (101, 0)) fun (E22 : Ev) =>
  nb (mN M20 (nE E21)) fun (M22 : Mm) =>
  (f_Cl_init E22 M22 p22).bind fun (E23, M23) =>
  ck (Gw E22 E23) <|
  nb (eRef E23 p0 6 p22) fun (E24 : Ev) =>
  nb (nE E24) fun (p25 : Nat) =>
  nb (eNew E24 (0, 20)) fun (E25 : Ev) =>
  nb (mN M23 (nE E24)) fun (M25 : Mm) =>
  nb (eRef E25 p0 7 p25) fun (E26 : Ev) =>
  nb (nE E26) fun (p27 : Nat) =>
  nb (eNew E26 (0, 20)) fun (E27 : Ev) =>
  nb (mN M25 (nE E26)) fun (M27 : Mm) =>
  nb (eRef E27 p0 8 p27) fun (E28 : Ev) =>
  nb (nE E28) fun (p29 : Nat) =>
  nb (eNew E28 (0, 20)) fun (E29 : Ev) =>
  nb (mN M27 (nE E28)) fun (M29 : Mm) =>
  nb (eRef E29 p0 9 p29) fun (E30 : Ev) =>
  nb (nE E30) fun (p31 : Nat) =>
  nb (eNew E30 (0, 240)) fun (E31 : Ev) =>
  nb (mN M29 (nE E30)) fun (M31 : Mm) =>
  nb (eRef E31 p0 12 p31) fun (E32 : Ev) =>
  some (E32, M31)
def f_La_next (E : Ev) (M : Mm) (p0 : Nat) (x1 : Int) : Option (Int × Mm) :=
  ck (isIA E p0) <|
  ck (inb 0 (tE E p0).2) <|
  nb ((((M p0 0) * 1103515245) + 12345)) fun (v1 : Int) =>
  ck (psI x1) <|
  some (((ushI ((u2 M p0 0 v1) p0 0) 8) % x1), (u2 M p0 0 v1))
def f_Lb_init (E : Ev) (M : Mm) (p0 : Nat) (x1 : Int) : Option (Ev × Mm) :=
  ck (isO 12 E p0) <|
  nb (nE E) fun (p0 : Nat) =>
  nb (eNew E (6, 12)) fun (E0 : Ev) =>
  nb (mN M (nE E)) fun (M0 : Mm) =>
  nb (eRef E0 p0 1 p0) fun (E1 : Ev) =>
  nb (nE E1) fun (p2 : Nat) =>
  nb (eNew E1 (0, 12)) fun (E2 : Ev) =>
  nb (mN M0 (nE E1)) fun (M2 : Mm) =>
  nb (eRef E2 p0 2 p2) fun (E3 : Ev) =>
  some (E3, (u2 M2 p0 0 x1))
def f_B_needRoom (E : Ev) (M : Mm) (x0 : Int) (x1 : Int) : Option Unit :=
  ck (rgI x0) <|
  ck (rgI x1) <|
  (if x0 ≤ x1 then
  some ()
  else
  none)
def f_B_remember (E : Ev) (M : Mm) (x1 : Int) (x2 : Int) (x3 : Int) : Option Mm :=
  ck (nnI ((M 1 10) + 1)) <|
  ck (inb ((u2 M 1 10 (((M 1 10) + 1) % 20)) 1 10) 20) <|
  nb (u2 (u2 M 1 10 (((M 1 10) + 1) % 20)) 246 ((u2 M 1 10 (((M 1 10) + 1) % 20)) 1 10).toNat x1) fun (M2 : Mm) =>
  ck (inb (M2 1 10) 20) <|
  ck (inb ((u2 M2 247 (M2 1 10).toNat x2) 1 10) 20) <|
  ck (rgI (((u2 (u2 M2 247 (M2 1 10).toNat x2) 248 ((u2 M2 247 (M2 1 10).toNat x2) 1 10).toNat x3) 1 11) + 1)) <|
  nb ((min (((u2 (u2 M2 247 (M2 1 10).toNat x2) 248 ((u2 M2 247 (M2 1 10).toNat x2) 1 10).toNat x3) 1 11) + 1) 20)) fun (v6 : Int) =>
  nb (u2 (u2 (u2 M2 247 (M2 1 10).toNat x2) 248 ((u2 M2 247 (M2 1 10).toNat x2) 1 10).toNat x3) 1 11 v6) fun (M7 : Mm) =>
  some M7
def f_B_candidate (E : Ev) (M : Mm) : Option (Int × Mm) :=
  (f_B_needRoom E M ((M 2 2) + 1) 8).bind fun _u =>
  ck (inb (M 2 2) 8) <|
  (f_B_remember E (u2 (u2 M 4 (M 2 2).toNat (M 2 2)) 2 2 (((u2 M 4 (M 2 2).toNat (M 2 2)) 2 2) + 1)) 0 (M 2 2) 0).bind fun M2 =>
  some ((M 2 2), M2)
def f_As_init (E : Ev) (M : Mm) (p0 : Nat) (x1 : Int) : Option (Ev × Mm) :=
  ck (Lay E) <|
  ck (isO 14 E p0) <|
  ck (0 ≤ x1 ∧ x1 ≤ 64) <|
  nb (nE E) fun (p1 : Nat) =>
  nb (eNew E (2, x1.toNat)) fun (E1 : Ev) =>
  nb (mN M (nE E)) fun (M1 : Mm) =>
  nb (eRef E1 p0 0 p1) fun (E2 : Ev) =>
  ck (Lay E2) <|
  some (E2, (u2 M1 p0 1 0))
def f_Sb_init (E : Ev) (M : Mm) (p0 : Nat) : Option (Ev × Mm) :=
  ck (Lay E) <|
  ck (isO 14 E p0) <|
  (f_As_init E M p0 16).bind fun (E0, M0) =>
  ck (Gw E E0) <|
  ck (Lay E0) <|
  some (E0, M0)
def f_As_ensureCapacityInternal (E : Ev) (M : Mm) (p0 : Nat) (x1 : Int) : Option Unit :=
  ck (isO 14 E p0) <|
  (rE E p0 0).bind fun p0 =>
  ck (isBA E p0) <|
  ck (rgI ((tE E p0).2 : Int)) <|
  ck (shI (M p0 1)) <|
  nb ((((tE E p0).2 : Int) / 2 ^ (M p0 1).toNat)) fun (v3 : Int) =>
  ck (rgI (x1 - v3)) <|
  (if (x1 - v3) ≤ 0 then
  some ()
  else
  none)
def f_As_isLatin1 (E : Ev) (M : Mm) (p0 : Nat) : Option Int :=
  ck (isO 14 E p0) <|
  ck (rgI (M p0 1)) <|
  (if (M p0 1) = 0 then
  some 1
  else
  some 0)
def f_Sl_canEncode (E : Ev) (M : Mm) (x0 : Int) : Option Int :=
  ck (rgI x0) <|
  (if 255 < x0 then
  some 0
  else
  some 1)
def f_As_appendC (E : Ev) (M : Mm) (p0 : Nat) (x1 : Int) : Option (Nat × Mm) :=
  ck (isO 14 E p0) <|
  (f_As_ensureCapacityInternal E M p0 ((M p0 3) + 1)).bind fun _u =>
  (f_As_isLatin1 E M p0).bind fun r1 =>
  ck (rgI r1) <|
  (if r1 = 0 then
  none
  else
  (f_Sl_canEncode E M x1).bind fun r3 =>
  ck (rgI r3) <|
  (if r3 = 0 then
  none
  else
  (rE E p0 0).bind fun p5 =>
  ck (isBA E p5) <|
  ck (-128 ≤ x1 ∧ x1 ≤ 127) <|
  ck (inb (M p0 3) (tE E p5).2) <|
  some (p0, (u2 (u2 M p0 3 ((M p0 3) + 1)) p5 (M p0 3).toNat x1))))
def f_Sb_appendC (E : Ev) (M : Mm) (p0 : Nat) (x1 : Int) : Option (Nat × Mm) :=
  ck (isO 14 E p0) <|
  (f_As_appendC E M p0 x1).bind fun (r0, M0) =>
  ck (isO 14 E r0) <|
  some (p0, M0)
def f_As_getValue (E : Ev) (M : Mm) (p0 : Nat) : Option Nat :=
  ck (isO 14 E p0) <|
  (rE E p0 0).bind fun p0 =>
  ck (isBA E p0) <|
  some p0
def f_As_length (E : Ev) (M : Mm) (p0 : Nat) : Option Int :=
  ck (isO 14 E p0) <|
  some (M p0 3)
def f_Sb_length (E : Ev) (M : Mm) (p0 : Nat) : Option Int :=
  ck (isO 14 E p0) <|
  (f_As_length E M p0).bind fun r0 =>
  some r0
def f_Ar_checkLength (E : Ev) (M : Mm) (x0 : Int) (x1 : Int) : Option Unit :=
  ck (rgI x1) <|
  ck (rgI x0) <|
  (if x0 ≤ x1 then
  some ()
  else
  none)
def f_Ar_copyOfRangeByte (E : Ev) (M : Mm) (p0 : Nat) (x1 : Int) (x2 : Int) : Option (Nat × Ev × Mm) :=
  ck (Lay E) <|
  ck (isBA E p0) <|
  (f_Ar_checkLength E M x1 x2).bind fun _u =>
  ck (0 ≤ (x2 - x1) ∧ (x2 - x1) ≤ 64) <|
  nb (nE E) fun (p2 : Nat) =>
  nb (eNew E (2, (x2 - x1).toNat)) fun (E2 : Ev) =>
  nb (mN M (nE E)) fun (M2 : Mm) =>
  ck (rgI (((tE E2 p0).2 : Int) - x1)) <|
  ck (rgI (x2 - x1)) <|
  nb ((min (((tE E2 p0).2 : Int) - x1) (x2 - x1))) fun (v5 : Int) =>
  ck (cpk x1 0 v5 (tE E2 p0).2 (tE E2 p2).2) <|
  ck (byR (M2 p0) x1 v5) <|
  some (p2, E2, (uA M2 p2 (va_cpy (M2 p0) (M2 p2) x1.toNat 0 v5.toNat)))
def Ar_copyOfRange_j10 (E : Ev) (M : Mm) (q0 : Nat) (x1 : Int) (x2 : Int) : Option (Nat × Ev × Mm) :=
  ck (Lay E) <|
  ck (isBA E q0) <|
  (f_Ar_copyOfRangeByte E M q0 x1 x2).bind fun (r1, E1, M1) =>
  ck (Gw E E1) <|
  ck (Lay E1) <|
  ck (isBA E1 r1) <|
  some (r1, E1, M1)
def f_Ar_copyOfRange (E : Ev) (M : Mm) (p0 : Nat) (x1 : Int) (x2 : Int) : Option (Nat × Ev × Mm) :=
  ck (Lay E) <|
  ck (isBA E p0) <|
  ck (rgI x1) <|
  (if x1 = 0 then
  ck (rgI x2) <|
  ck (rgI ((tE E p0).2 : Int)) <|
  (if x2 = ((tE E p0).2 : Int) then
  none
  else
  Ar_copyOfRange_j10 E M p0 x1 x2)
  else
  Ar_copyOfRange_j10 E M p0 x1 x2)
def f_St_init2 (E : Ev) (M : Mm) (p0 : Nat) (p1 : Nat) : Option (Ev × Mm) :=
  ck (Lay E) <|
  ck (isO 13 E p0) <|
  ck (isO 14 E p1) <|
  (f_As_getValue E M p1).bind fun r0 =>
  ck (isBA E r0) <|
  (f_Sb_length E M p1).bind fun r1 =>
  (f_As_isLatin1 E M p1).bind fun r2 =>
  ck (rgI r2) <|
  (if r2 = 0 then
  none
  else
  (f_Ar_copyOfRange E (u2 M p0 1 0) r0 0 r1).bind fun (r4, E4, M4) =>
  ck (Gw E E4) <|
  ck (Lay E4) <|
  ck (isBA E4 r4) <|
  nb (eRef E4 p0 0 r4) fun (E5 : Ev) =>
  ck (Lay E5) <|
  some (E5, M4))
def f_St_init (E : Ev) (M : Mm) (p0 : Nat) (p1 : Nat) : Option (Ev × Mm) :=
  ck (Lay E) <|
  ck (isO 13 E p0) <|
  ck (isO 14 E p1) <|
  (f_St_init2 E M p0 p1).bind fun (E0, M0) =>
  ck (Gw E E0) <|
  ck (Lay E0) <|
  some (E0, M0)
def f_Sb_toString (E : Ev) (M : Mm) (p0 : Nat) : Option (Nat × Ev × Mm) :=
  ck (Lay E) <|
  ck (isO 14 E p0) <|
  nb (nE E) fun (p0 : Nat) =>
  nb (eNew E (113, 0)) fun (E0 : Ev) =>
  nb (mN M (nE E)) fun (M0 : Mm) =>
  (f_St_init E0 M0 p0 p0).bind fun (E1, M1) =>
  ck (Gw E0 E1) <|
  ck (Lay E1) <|
  some (p0, E1, M1)
def f_St_coder (E : Ev) (M : Mm) (p0 : Nat) : Option Int :=
  ck (isO 13 E p0) <|
  ck (-128 ≤ (M p0 1) ∧ (M p0 1) ≤ 127) <|
  some (M p0 1)
def f_St_length (E : Ev) (M : Mm) (p0 : Nat) : Option Int :=
  ck (isO 13 E p0) <|
  (rE E p0 0).bind fun p0 =>
  ck (isBA E p0) <|
  (f_St_coder E M p0).bind fun r1 =>
  ck (rgI ((tE E p0).2 : Int)) <|
  ck (shI r1) <|
  some (((tE E p0).2 : Int) / 2 ^ r1.toNat)
def f_St_isLatin1 (E : Ev) (M : Mm) (p0 : Nat) : Option Int :=
  ck (isO 13 E p0) <|
  ck (rgI (M p0 1)) <|
  (if (M p0 1) = 0 then
  some 1
  else
  some 0)
def f_Pr_checkIndex (E : Ev) (M : Mm) (x0 : Int) (x1 : Int) : Option Int :=
  ck (rgI x0) <|
  (if x0 < 0 then
  none
  else
  ck (rgI x1) <|
  (if x0 < x1 then
  some x0
  else
  none))
def f_St_checkIndex (E : Ev) (M : Mm) (x0 : Int) (x1 : Int) : Option Unit :=
  (f_Pr_checkIndex E M x0 x1).bind fun r1 =>
  some ()
def f_Sl_charAt (E : Ev) (M : Mm) (p0 : Nat) (x1 : Int) : Option Int :=
  ck (isBA E p0) <|
  (f_St_checkIndex E M x1 ((tE E p0).2 : Int)).bind fun _u =>
  ck (inb x1 (tE E p0).2) <|
  ck (0 ≤ ((M p0 x1.toNat) % 256) ∧ ((M p0 x1.toNat) % 256) ≤ 65535) <|
  ck (0 ≤ ((M p0 x1.toNat) % 256) ∧ ((M p0 x1.toNat) % 256) ≤ 65535) <|
  some ((M p0 x1.toNat) % 256)
def f_St_charAt (E : Ev) (M : Mm) (p0 : Nat) (x1 : Int) : Option Int :=
  ck (isO 13 E p0) <|
  (f_St_isLatin1 E M p0).bind fun r0 =>
  ck (rgI r0) <|
  (if r0 = 0 then
  none
  else
  (rE E p0 0).bind fun p2 =>
  ck (isBA E p2) <|
  (f_Sl_charAt E M p2 x1).bind fun r3 =>
  ck (0 ≤ r3 ∧ r3 ≤ 65535) <|
  some r3)
def f_Bx_appendSign (E : Ev) (M : Mm) (x1 : Int) : Option Mm :=
  ck (rgI x1) <|
  (if x1 = 0 then
  some M
  else
  ck (rgI (M 2 1)) <|
  (if 30 ≤ (M 2 1) then
  some M
  else
  ck (inb (M 2 1) 30) <|
  some (u2 (u2 M 3 (M 2 1).toNat x1) 2 1 (((u2 M 3 (M 2 1).toNat x1) 2 1) + 1))))
def B_type_6b (E : Ev) (M : Mm) (x1 : Int) (x3 : Int) (x4 : Int) : Option (Nat × Int × Int × Mm) :=
  ck (rgI x4) <|
  (if x4 < 0 then
  some (1, x3, x4, M)
  else
  ck (shJ x4) <|
  ck (rgJ x1) <|
  (if ((x1 / 2 ^ x4.toNat) % 256) = 0 then
  some (0, x3, (x4 + (-8)), M)
  else
  some (0, (x3 + 1), (x4 + (-8)), M)))
def l_B_type_6 (E : Ev) (x1 : Int) : Nat → Mm → Int → Int → Option (Nat × Int × Int × Mm)
  | 0, _, _, _ => none
  | fu + 1, M, x3, x4 => (B_type_6b E M x1 x3 x4).bind fun (t, w3, w4, N) => if t = 0 then l_B_type_6 E x1 fu N w3 w4 else some (t, w3, w4, N)
def B_type_51b (E : Ev) (M : Mm) (x1 : Int) (x4 : Int) : Option (Nat × Int × Mm) :=
  ck (rgI x4) <|
  (if x4 < 0 then
  some (1, x4, M)
  else
  ck (shJ x4) <|
  ck (rgJ x1) <|
  (f_Bx_appendSign E M ((x1 / 2 ^ x4.toNat) % 256)).bind fun M8 =>
  some (0, (x4 + (-8)), M8))
def l_B_type_51 (E : Ev) (x1 : Int) : Nat → Mm → Int → Option (Nat × Int × Mm)
  | 0, _, _ => none
  | fu + 1, M, x4 => (B_type_51b E M x1 x4).bind fun (t, w4, N) => if t = 0 then l_B_type_51 E x1 fu N w4 else some (t, w4, N)
def f_B_type (E : Ev) (M : Mm) (x1 : Int) : Option (Int × Mm) :=
  (l_B_type_6 E x1 FU M 0 56).bind fun (t3, v3_3, v3_4, M3) =>
  ck (t3 = 1) <|
  (f_B_needRoom E M3 ((M3 2 1) + v3_3) 30).bind fun _u =>
  (l_B_type_51 E x1 FU M3 56).bind fun (t9, v9_4, M9) =>
  ck (t9 = 1) <|
  some ((M9 2 1), M9)
def La_type_15b (E : Ev) (M : Mm) (q1 : Nat) (x2 : Int) (x3 : Int) (x5 : Int) : Option (Nat × Int × Int × Mm) :=
  ck (isO 13 E q1) <|
  ck (rgI x5) <|
  ck (rgI (x2 + 8)) <|
  (if (x2 + 8) ≤ x5 then
  some (1, x3, x5, M)
  else
  (f_St_length E M q1).bind fun r5 =>
  ck (rgI r5) <|
  (if r5 ≤ x5 then
  some (1, x3, x5, M)
  else
  (f_St_charAt E M q1 x5).bind fun r7 =>
  ck (rgI r7) <|
  ck (nnJ (x3 * 256)) <|
  ck (nnJ r7) <|
  some (0, (orI (x3 * 256) r7), (x5 + 1), M)))
def l_La_type_15 (E : Ev) (q1 : Nat) (x2 : Int) : Nat → Mm → Int → Int → Option (Nat × Int × Int × Mm)
  | 0, _, _, _ => none
  | fu + 1, M, x3, x5 => (La_type_15b E M q1 x2 x3 x5).bind fun (t, w3, w5, N) => if t = 0 then l_La_type_15 E q1 x2 fu N w3 w5 else some (t, w3, w5, N)
def La_type_j52 (E : Ev) (M : Mm) (q1 : Nat) (x2 : Int) (x3 : Int) : Option (Nat × Int × Mm) :=
  ck (isO 13 E q1) <|
  (f_B_type E M x3).bind fun (r12, M12) =>
  some (0, (x2 + 8), M12)
def La_type_2b (E : Ev) (M : Mm) (q1 : Nat) (x2 : Int) : Option (Nat × Int × Mm) :=
  ck (isO 13 E q1) <|
  (f_St_length E M q1).bind fun r0 =>
  ck (rgI x2) <|
  ck (rgI r0) <|
  (if r0 ≤ x2 then
  some (1, x2, M)
  else
  (l_La_type_15 E q1 x2 FU M 0 x2).bind fun (t11, v11_3, v11_5, M11) =>
  ck (t11 = 1) <|
  La_type_j52 E M11 q1 x2 v11_3)
def l_La_type_2 (E : Ev) (q1 : Nat) : Nat → Mm → Int → Option (Nat × Int × Mm)
  | 0, _, _ => none
  | fu + 1, M, x2 => (La_type_2b E M q1 x2).bind fun (t, w2, N) => if t = 0 then l_La_type_2 E q1 fu N w2 else some (t, w2, N)
def f_La_type (E : Ev) (M : Mm) (p1 : Nat) : Option Mm :=
  ck (isO 13 E p1) <|
  (l_La_type_2 E p1 FU M 0).bind fun (t13, v13_2, M13) =>
  ck (t13 = 1) <|
  some M13
def f_B_needRange (E : Ev) (M : Mm) (x0 : Int) (x1 : Int) (x2 : Int) : Option Unit :=
  ck (rgI x0) <|
  ck (rgI x1) <|
  (if x0 < x1 then
  none
  else
  ck (rgI x2) <|
  (if x0 ≤ x2 then
  some ()
  else
  none))
def Ar_fillI_5b (E : Ev) (M : Mm) (q0 : Nat) (x1 : Int) (x3 : Int) (x2 : Int) : Option (Nat × Int × Mm) :=
  ck (isIA E q0) <|
  ck (rgI x2) <|
  ck (rgI x3) <|
  (if x3 ≤ x2 then
  some (1, x2, M)
  else
  ck (inb x2 (tE E q0).2) <|
  some (0, (x2 + 1), (u2 M q0 x2.toNat x1)))
def l_Ar_fillI_5 (E : Ev) (q0 : Nat) (x1 : Int) (x3 : Int) : Nat → Mm → Int → Option (Nat × Int × Mm)
  | 0, _, _ => none
  | fu + 1, M, x2 => (Ar_fillI_5b E M q0 x1 x3 x2).bind fun (t, w2, N) => if t = 0 then l_Ar_fillI_5 E q0 x1 x3 fu N w2 else some (t, w2, N)
def f_Ar_fillI (E : Ev) (M : Mm) (p0 : Nat) (x1 : Int) : Option Mm :=
  ck (isIA E p0) <|
  (l_Ar_fillI_5 E p0 x1 ((tE E p0).2 : Int) FU M 0).bind fun (t3, v3_2, M3) =>
  ck (t3 = 1) <|
  some M3
def f_Bx_clearTrial (E : Ev) (M : Mm) : Option Mm :=
  (f_Ar_fillI E (u2 (u2 M 7 30 0) 6 30 0) 39 0).bind fun M0 =>
  some M0
def f_B_has (E : Ev) (M : Mm) (x0 : Int) (x1 : Int) : Option Int :=
  ck (rgI x0) <|
  ck (shI x1) <|
  (if ((x0 / 2 ^ x1.toNat) % 2) = 0 then
  some 0
  else
  some 1)
def Bx_rankOnTrial_j27 (E : Ev) (M : Mm) (x1 : Int) : Option Mm :=
  ck (rgI ((M 7 30) - 1)) <|
  ck (inb (max ((M 7 30) - 1) 0) 8) <|
  ck (shI x1) <|
  ck (nnI (M 39 (max ((M 7 30) - 1) 0).toNat)) <|
  ck (nnI (2 ^ x1.toNat)) <|
  nb ((orI (M 39 (max ((M 7 30) - 1) 0).toNat) (2 ^ x1.toNat))) fun (v6 : Int) =>
  some (u2 M 39 (max ((M 7 30) - 1) 0).toNat v6)
def f_Bx_rankOnTrial (E : Ev) (M : Mm) (x1 : Int) (x2 : Int) : Option Mm :=
  ck (rgI x2) <|
  (if x2 = 0 then
  Bx_rankOnTrial_j27 E M x1
  else
  ck (rgI (M 7 30)) <|
  (if 8 ≤ (M 7 30) then
  Bx_rankOnTrial_j27 E M x1
  else
  Bx_rankOnTrial_j27 E (u2 M 7 30 ((M 7 30) + 1)) x1))
def Bx_readTrial_j146 (E : Ev) (M : Mm) (x1 : Int) (x2 : Int) (x4 : Int) (x5 : Int) (y0 : Int) : Option (Nat × Int × Int × Int × Int × Int × Mm) :=
  ck (rgI x4) <|
  (if x4 = 0 then
  some (0, x1, x2, y0, 1, (x5 + 1), M)
  else
  some (0, x1, x2, y0, 0, (x5 + 1), M))
def Bx_readTrial_j134 (E : Ev) (M : Mm) (x1 : Int) (x2 : Int) (x4 : Int) (x5 : Int) (x6 : Int) : Option (Nat × Int × Int × Int × Int × Int × Mm) :=
  ck (rgI x6) <|
  (if x6 = 61 then
  Bx_readTrial_j146 E M x1 x2 x4 x5 0
  else
  Bx_readTrial_j146 E M x1 x2 x4 x5 1)
def Bx_readTrial_j117 (E : Ev) (M : Mm) (x1 : Int) (x2 : Int) (x4 : Int) (x5 : Int) (x6 : Int) : Option (Nat × Int × Int × Int × Int × Int × Mm) :=
  ck (rgI x6) <|
  (if x6 = 62 then
  Bx_readTrial_j134 E M x1 x2 x4 x5 x6
  else
  (if x6 = 61 then
  Bx_readTrial_j134 E M x1 x2 x4 x5 x6
  else
  some (2, x1, x2, 0, x4, x5, M)))
def Bx_readTrial_27b (E : Ev) (M : Mm) (x1 : Int) (x2 : Int) (x3 : Int) (x4 : Int) (x5 : Int) : Option (Nat × Int × Int × Int × Int × Int × Mm) :=
  ck (rgI x5) <|
  ck (rgI (M 2 1)) <|
  (if (M 2 1) ≤ x5 then
  some (3, x1, x2, x3, x4, x5, M)
  else
  ck (inb x5 30) <|
  ck (rgI x4) <|
  (if x4 = 0 then
  ck (rgI (M 3 x5.toNat)) <|
  (if (M 3 x5.toNat) = 124 then
  ck (rgI x2) <|
  (if x2 = (-1) then
  Bx_readTrial_j134 E M x1 x1 x4 x5 (M 3 x5.toNat)
  else
  Bx_readTrial_j117 E M x1 x2 x4 x5 (M 3 x5.toNat))
  else
  Bx_readTrial_j117 E M x1 x2 x4 x5 (M 3 x5.toNat))
  else
  ck (rgI ((M 3 x5.toNat) - 65)) <|
  (if ((M 3 x5.toNat) - 65) < 0 then
  some (1, x1, x2, x3, x4, x5, M)
  else
  ck (rgI (M 2 2)) <|
  (if (M 2 2) ≤ ((M 3 x5.toNat) - 65) then
  some (1, x1, x2, x3, x4, x5, M)
  else
  (f_B_has E M x1 ((M 3 x5.toNat) - 65)).bind fun r13 =>
  ck (rgI r13) <|
  (if r13 = 0 then
  ck (shI ((M 3 x5.toNat) - 65)) <|
  ck (nnI x1) <|
  ck (nnI (2 ^ ((M 3 x5.toNat) - 65).toNat)) <|
  nb ((orI x1 (2 ^ ((M 3 x5.toNat) - 65).toNat))) fun (v18 : Int) =>
  (f_Bx_rankOnTrial E M ((M 3 x5.toNat) - 65) x3).bind fun M19 =>
  Bx_readTrial_j134 E M19 v18 x2 x4 x5 (M 3 x5.toNat)
  else
  some (1, x1, x2, x3, x4, x5, M))))))
def l_Bx_readTrial_27 (E : Ev) : Nat → Mm → Int → Int → Int → Int → Int → Option (Nat × Int × Int × Int × Int × Int × Mm)
  | 0, _, _, _, _, _, _ => none
  | fu + 1, M, x1, x2, x3, x4, x5 => (Bx_readTrial_27b E M x1 x2 x3 x4 x5).bind fun (t, w1, w2, w3, w4, w5, N) => if t = 0 then l_Bx_readTrial_27 E fu N w1 w2 w3 w4 w5 else some (t, w1, w2, w3, w4, w5, N)
def Bx_readTrial_j199 (E : Ev) (M : Mm) (y0 : Int) (y1 : Int) (y2 : Nat) : Option (Int × Mm) :=
  ck (isIA E y2) <|
  ck (inb y1 (tE E y2).2) <|
  some ((-1), (u2 M y2 y1.toNat y0))
def f_Bx_readTrial (E : Ev) (M : Mm) : Option (Int × Mm) :=
  (f_Bx_clearTrial E M).bind fun M0 =>
  ck (rgI (M0 2 1)) <|
  (if (M0 2 1) ≤ 0 then
  (l_Bx_readTrial_27 E FU M0 0 (-1) 1 0 0).bind fun (t20, v20_1, v20_2, v20_3, v20_4, v20_5, M20) =>
  (if t20 = 1 then
  some (v20_5, M20)
  else (if t20 = 2 then
  some (v20_5, M20)
  else (if t20 = 3 then
  ck (rgI v20_4) <|
  (if v20_4 = 0 then
  ck (rgI v20_2) <|
  (if v20_2 = (-1) then
  Bx_readTrial_j199 E M20 (M20 39 0) 30 6
  else
  Bx_readTrial_j199 E M20 v20_2 30 6)
  else
  some ((M20 2 1), M20))
  else none)))
  else
  (l_Bx_readTrial_27 E FU M0 0 (-1) 1 1 0).bind fun (t24, v24_1, v24_2, v24_3, v24_4, v24_5, M24) =>
  (if t24 = 1 then
  some (v24_5, M24)
  else (if t24 = 2 then
  some (v24_5, M24)
  else (if t24 = 3 then
  ck (rgI v24_4) <|
  (if v24_4 = 0 then
  ck (rgI v24_2) <|
  (if v24_2 = (-1) then
  Bx_readTrial_j199 E M24 (M24 39 0) 30 6
  else
  Bx_readTrial_j199 E M24 v24_2 30 6)
  else
  some ((M24 2 1), M24))
  else none))))
def Bx_isLikeTrial_36b (E : Ev) (M : Mm) (x1 : Int) (x2 : Int) : Option (Nat × Int) :=
  ck (inb x1 31) <|
  ck (rgI x2) <|
  ck (rgI (M 7 x1.toNat)) <|
  (if (M 7 x1.toNat) ≤ x2 then
  some (2, x2)
  else
  ck (inb x2 8) <|
  ck (rgI (M (9 + x1.toNat) x2.toNat)) <|
  ck (rgI (M 39 x2.toNat)) <|
  (if (M (9 + x1.toNat) x2.toNat) = (M 39 x2.toNat) then
  some (0, (x2 + 1))
  else
  some (1, x2)))
def l_Bx_isLikeTrial_36 (E : Ev) (x1 : Int) : Nat → Mm → Int → Option (Nat × Int)
  | 0, _, _ => none
  | fu + 1, M, x2 => (Bx_isLikeTrial_36b E M x1 x2).bind fun (t, w2) => if t = 0 then l_Bx_isLikeTrial_36 E x1 fu M w2 else some (t, w2)
def f_Bx_isLikeTrial (E : Ev) (M : Mm) (x1 : Int) : Option Int :=
  ck (inb x1 31) <|
  ck (rgI (M 7 x1.toNat)) <|
  ck (rgI (M 7 30)) <|
  (if (M 7 x1.toNat) = (M 7 30) then
  ck (rgI (M 6 x1.toNat)) <|
  ck (rgI (M 6 30)) <|
  (if (M 6 x1.toNat) = (M 6 30) then
  (l_Bx_isLikeTrial_36 E x1 FU M 0).bind fun (t11, v11_2) =>
  (if t11 = 1 then
  some 0
  else (if t11 = 2 then
  some 1
  else none))
  else
  some 0)
  else
  some 0)
def Bx_kindOfTrial_2b (E : Ev) (M : Mm) (x1 : Int) : Option (Nat × Int) :=
  ck (rgI x1) <|
  ck (rgI (M 2 3)) <|
  (if (M 2 3) ≤ x1 then
  some (2, x1)
  else
  (f_Bx_isLikeTrial E M x1).bind fun r2 =>
  ck (rgI r2) <|
  (if r2 = 0 then
  some (0, (x1 + 1))
  else
  some (1, x1)))
def l_Bx_kindOfTrial_2 (E : Ev) : Nat → Mm → Int → Option (Nat × Int)
  | 0, _, _ => none
  | fu + 1, M, x1 => (Bx_kindOfTrial_2b E M x1).bind fun (t, w1) => if t = 0 then l_Bx_kindOfTrial_2 E fu M w1 else some (t, w1)
def f_Bx_kindOfTrial (E : Ev) (M : Mm) : Option Int :=
  (l_Bx_kindOfTrial_2 E FU M 0).bind fun (t4, v4_1) =>
  (if t4 = 1 then
  some v4_1
  else (if t4 = 2 then
  some (-1)
  else none))
def f_Bx_keepTrial (E : Ev) (M : Mm) : Option (Int × Mm) :=
  ck (inb (M 2 3) 31) <|
  nb (((u2 M 5 (M 2 3).toNat 0) 6 30)) fun (v1 : Int) =>
  nb (((u2 (u2 M 5 (M 2 3).toNat 0) 6 (M 2 3).toNat v1) 7 30)) fun (v2 : Int) =>
  ck (cpk 0 0 8 8 8) <|
  nb (uA (u2 (u2 (u2 M 5 (M 2 3).toNat 0) 6 (M 2 3).toNat v1) 7 (M 2 3).toNat v2) (9 + (M 2 3).toNat) (va_cpy ((u2 (u2 (u2 M 5 (M 2 3).toNat 0) 6 (M 2 3).toNat v1) 7 (M 2 3).toNat v2) 39) ((u2 (u2 (u2 M 5 (M 2 3).toNat 0) 6 (M 2 3).toNat v1) 7 (M 2 3).toNat v2) (9 + (M 2 3).toNat)) 0 0 8)) fun (M4 : Mm) =>
  some ((M 2 3), (u2 M4 2 3 ((M4 2 3) + 1)))
def B_ballots_j109 (E : Ev) (M : Mm) (x1 : Int) (x3 : Int) : Option (Int × Mm) :=
  ck (inb x3 31) <|
  nb ((((u2 M 2 1 0) 5 x3.toNat) + x1)) fun (v9 : Int) =>
  some (x3, (u2 (u2 M 2 1 0) 5 x3.toNat v9))
def f_B_ballots (E : Ev) (M : Mm) (x1 : Int) : Option (Int × Mm) :=
  (f_B_needRange E M x1 1 100000).bind fun _u =>
  (f_Bx_readTrial E M).bind fun (r1, M1) =>
  ck (rgI r1) <|
  (if r1 = (-1) then
  (f_Bx_kindOfTrial E M1).bind fun r3 =>
  ck (rgI r3) <|
  (if r3 = (-1) then
  (f_B_needRoom E M1 ((M1 2 3) + 1) 30).bind fun _u =>
  (f_Bx_keepTrial E M1).bind fun (r11, M11) =>
  (f_B_remember E M11 3 r11 0).bind fun M12 =>
  B_ballots_j109 E M12 x1 r11
  else
  ck (inb r3 31) <|
  (f_B_needRoom E M1 ((M1 5 r3.toNat) + x1) 1000000).bind fun _u =>
  (f_B_remember E M1 4 r3 (M1 5 r3.toNat)).bind fun M7 =>
  B_ballots_j109 E M7 x1 r3)
  else
  some (((-3) - r1), (u2 M1 2 1 0)))
def f_B_needIndex (E : Ev) (M : Mm) (x0 : Int) (x1 : Int) : Option Unit :=
  ck (rgI x0) <|
  (if x0 < 0 then
  none
  else
  ck (rgI x1) <|
  (if x0 < x1 then
  some ()
  else
  none))
def f_B_countOf (E : Ev) (M : Mm) (x1 : Int) : Option Int :=
  (f_B_needIndex E M x1 (M 2 3)).bind fun _u =>
  ck (inb x1 31) <|
  some (M 5 x1.toNat)
def Bx_rankOf_2b (E : Ev) (M : Mm) (x1 : Int) (x2 : Int) (x3 : Int) : Option (Nat × Int) :=
  ck (inb x1 31) <|
  ck (rgI x3) <|
  ck (rgI (M 7 x1.toNat)) <|
  (if (M 7 x1.toNat) ≤ x3 then
  some (2, x3)
  else
  ck (inb x3 8) <|
  (f_B_has E M (M (9 + x1.toNat) x3.toNat) x2).bind fun r4 =>
  ck (rgI r4) <|
  (if r4 = 0 then
  some (0, (x3 + 1))
  else
  some (1, x3)))
def l_Bx_rankOf_2 (E : Ev) (x1 : Int) (x2 : Int) : Nat → Mm → Int → Option (Nat × Int)
  | 0, _, _ => none
  | fu + 1, M, x3 => (Bx_rankOf_2b E M x1 x2 x3).bind fun (t, w3) => if t = 0 then l_Bx_rankOf_2 E x1 x2 fu M w3 else some (t, w3)
def f_Bx_rankOf (E : Ev) (M : Mm) (x1 : Int) (x2 : Int) : Option Int :=
  (l_Bx_rankOf_2 E x1 x2 FU M 0).bind fun (t6, v6_3) =>
  (if t6 = 1 then
  some v6_3
  else (if t6 = 2 then
  ck (inb x1 31) <|
  some (M 7 x1.toNat)
  else none))
def f_B_kindAt (E : Ev) (M : Mm) (x1 : Int) (x2 : Int) (x3 : Int) : Option Int :=
  (f_B_needIndex E M x1 (M 2 3)).bind fun _u =>
  (f_B_needIndex E M x2 (M 2 2)).bind fun _u =>
  ck (rgI x3) <|
  (if x3 = 0 then
  ck (inb x1 31) <|
  ck (rgI (M 6 x1.toNat)) <|
  ck (shI x2) <|
  some (((M 6 x1.toNat) / 2 ^ x2.toNat) % 2)
  else
  (f_Bx_rankOf E M x1 x2).bind fun r6 =>
  some r6)
def La_ballots_18b (E : Ev) (M : Mm) (q1 : Nat) (q2 : Nat) (q3 : Nat) (q4 : Nat) (x5 : Int) : Option (Nat × Int × Ev × Mm) :=
  ck (Lay E) <|
  ck (isO 12 E q1) <|
  ck (isIA E q2) <|
  ck (isIA E q3) <|
  ck (isIA E q4) <|
  ck (rgI x5) <|
  ck (rgI (M q1 0)) <|
  (if (M q1 0) ≤ x5 then
  some (1, x5, E, M)
  else
  (f_La_next E M q2 (x5 + 1)).bind fun (r6, M6) =>
  ck (inb r6 (tE E q4).2) <|
  ck (inb x5 (tE E q4).2) <|
  ck (inb x5 (tE E q3).2) <|
  some (0, (x5 + 1), E, (u2 (u2 (u2 M6 q4 x5.toNat (M6 q4 r6.toNat)) q4 r6.toNat x5) q3 x5.toNat 9)))
def l_La_ballots_18 (q1 : Nat) (q2 : Nat) (q3 : Nat) (q4 : Nat) : Nat → Ev → Mm → Int → Option (Nat × Int × Ev × Mm)
  | 0, _, _, _ => none
  | fu + 1, E, M, x5 => (La_ballots_18b E M q1 q2 q3 q4 x5).bind fun (t, w5, F, N) => if t = 0 then l_La_ballots_18 q1 q2 q3 q4 fu F N w5 else some (t, w5, F, N)
def La_ballots_j207 (E : Ev) (M : Mm) (q1 : Nat) (q2 : Nat) (q3 : Nat) (q4 : Nat) (x5 : Int) (q6 : Nat) (x7 : Int) (x8 : Int) (x9 : Int) : Option (Nat × Int × Int × Int × Ev × Mm) :=
  ck (Lay E) <|
  ck (isO 12 E q1) <|
  ck (isIA E q2) <|
  ck (isIA E q3) <|
  ck (isIA E q4) <|
  ck (isO 14 E q6) <|
  ck (inb x9 (tE E q4).2) <|
  ck (inb (M q4 x9.toNat) (tE E q3).2) <|
  ck (0 ≤ (65 + ((u2 M q3 (M q4 x9.toNat).toNat x7) q4 x9.toNat)) ∧ (65 + ((u2 M q3 (M q4 x9.toNat).toNat x7) q4 x9.toNat)) ≤ 65535) <|
  (f_Sb_appendC E (u2 M q3 (M q4 x9.toNat).toNat x7) q6 (65 + ((u2 M q3 (M q4 x9.toNat).toNat x7) q4 x9.toNat))).bind fun (r21, M21) =>
  ck (isO 14 E r21) <|
  some (0, x7, x8, (x9 + 1), E, M21)
def La_ballots_j202 (E : Ev) (M : Mm) (q1 : Nat) (q2 : Nat) (q3 : Nat) (q4 : Nat) (x5 : Int) (q6 : Nat) (x7 : Int) (x8 : Int) (x9 : Int) (y0 : Int) (y1 : Nat) : Option (Nat × Int × Int × Int × Ev × Mm) :=
  ck (Lay E) <|
  ck (isO 12 E q1) <|
  ck (isIA E q2) <|
  ck (isIA E q3) <|
  ck (isIA E q4) <|
  ck (isO 14 E q6) <|
  ck (isO 14 E y1) <|
  (f_Sb_appendC E M y1 y0).bind fun (r28, M28) =>
  ck (isO 14 E r28) <|
  La_ballots_j207 E M28 q1 q2 q3 q4 x5 q6 x7 x8 x9
def La_ballots_j176 (E : Ev) (M : Mm) (q1 : Nat) (q2 : Nat) (q3 : Nat) (q4 : Nat) (x5 : Int) (q6 : Nat) (x7 : Int) (x9 : Int) (x10 : Int) (x11 : Int) (y0 : Int) : Option (Nat × Int × Int × Int × Ev × Mm) :=
  ck (Lay E) <|
  ck (isO 12 E q1) <|
  ck (isIA E q2) <|
  ck (isIA E q3) <|
  ck (isIA E q4) <|
  ck (isO 14 E q6) <|
  ck (rgI x10) <|
  (if x10 = 0 then
  La_ballots_j202 E M q1 q2 q3 q4 x5 q6 x7 y0 x9 61 q6
  else
  ck (rgI x11) <|
  (if x11 = 0 then
  La_ballots_j202 E M q1 q2 q3 q4 x5 q6 x7 y0 x9 62 q6
  else
  La_ballots_j202 E M q1 q2 q3 q4 x5 q6 x7 y0 x9 124 q6))
def La_ballots_j159 (E : Ev) (M : Mm) (q1 : Nat) (q2 : Nat) (q3 : Nat) (q4 : Nat) (x5 : Int) (q6 : Nat) (x7 : Int) (x8 : Int) (x9 : Int) (x10 : Int) (y0 : Int) : Option (Nat × Int × Int × Int × Ev × Mm) :=
  ck (Lay E) <|
  ck (isO 12 E q1) <|
  ck (isIA E q2) <|
  ck (isIA E q3) <|
  ck (isIA E q4) <|
  ck (isO 14 E q6) <|
  ck (rgI x8) <|
  (if x8 = 0 then
  ck (rgI y0) <|
  (if y0 = 0 then
  La_ballots_j176 E M q1 q2 q3 q4 x5 q6 x7 x9 x10 y0 0
  else
  La_ballots_j176 E M q1 q2 q3 q4 x5 q6 x7 x9 x10 y0 1)
  else
  La_ballots_j176 E M q1 q2 q3 q4 x5 q6 x7 x9 x10 y0 1)
def La_ballots_j140 (E : Ev) (M : Mm) (q1 : Nat) (q2 : Nat) (q3 : Nat) (q4 : Nat) (x5 : Int) (q6 : Nat) (x8 : Int) (x9 : Int) (x10 : Int) (y0 : Int) (y1 : Int) : Option (Nat × Int × Int × Int × Ev × Mm) :=
  ck (Lay E) <|
  ck (isO 12 E q1) <|
  ck (isIA E q2) <|
  ck (isIA E q3) <|
  ck (isIA E q4) <|
  ck (isO 14 E q6) <|
  ck (rgI x10) <|
  (if x10 = 1 then
  ck (rgI x8) <|
  (if x8 = 0 then
  La_ballots_j159 E M q1 q2 q3 q4 x5 q6 (y1 + y0) x8 x9 x10 1
  else
  La_ballots_j159 E M q1 q2 q3 q4 x5 q6 (y1 + y0) x8 x9 x10 0)
  else
  La_ballots_j159 E M q1 q2 q3 q4 x5 q6 (y1 + y0) x8 x9 x10 0)
def La_ballots_109b (E : Ev) (M : Mm) (q1 : Nat) (q2 : Nat) (q3 : Nat) (q4 : Nat) (x5 : Int) (q6 : Nat) (x7 : Int) (x8 : Int) (x9 : Int) : Option (Nat × Int × Int × Int × Ev × Mm) :=
  ck (Lay E) <|
  ck (isO 12 E q1) <|
  ck (isIA E q2) <|
  ck (isIA E q3) <|
  ck (isIA E q4) <|
  ck (isO 14 E q6) <|
  ck (rgI x9) <|
  ck (rgI x5) <|
  (if x5 ≤ x9 then
  some (1, x7, x8, x9, E, M)
  else
  (if x9 ≤ 0 then
  La_ballots_j207 E M q1 q2 q3 q4 x5 q6 x7 x8 x9
  else
  (f_La_next E M q2 4).bind fun (r22, M22) =>
  ck (rgI r22) <|
  (if r22 = 0 then
  La_ballots_j140 E M22 q1 q2 q3 q4 x5 q6 x8 x9 r22 0 x7
  else
  La_ballots_j140 E M22 q1 q2 q3 q4 x5 q6 x8 x9 r22 1 x7)))
def l_La_ballots_109 (q1 : Nat) (q2 : Nat) (q3 : Nat) (q4 : Nat) (x5 : Int) (q6 : Nat) : Nat → Ev → Mm → Int → Int → Int → Option (Nat × Int × Int × Int × Ev × Mm)
  | 0, _, _, _, _, _ => none
  | fu + 1, E, M, x7, x8, x9 => (La_ballots_109b E M q1 q2 q3 q4 x5 q6 x7 x8 x9).bind fun (t, w7, w8, w9, F, N) => if t = 0 then l_La_ballots_109 q1 q2 q3 q4 x5 q6 fu F N w7 w8 w9 else some (t, w7, w8, w9, F, N)
def La_ballots_j438 (E : Ev) (M : Mm) (q1 : Nat) (q3 : Nat) (x5 : Int) (x7 : Int) (x10 : Int) (x12 : Int) (y0 : Int) (y1 : Int) : Option (Nat × Int × Int × Ev × Mm) :=
  ck (Lay E) <|
  ck (isO 12 E q1) <|
  ck (isIA E q3) <|
  ck (rgI y1) <|
  ck (rgI y0) <|
  (if y1 = y0 then
  some (0, 1, (x12 + 1), E, M)
  else
  some (0, 0, (x12 + 1), E, M))
def La_ballots_360b (E : Ev) (M : Mm) (q1 : Nat) (q3 : Nat) (x5 : Int) (x7 : Int) (x10 : Int) (x11 : Int) (x12 : Int) : Option (Nat × Int × Int × Ev × Mm) :=
  ck (Lay E) <|
  ck (isO 12 E q1) <|
  ck (isIA E q3) <|
  ck (rgI x12) <|
  ck (rgI (M q1 0)) <|
  (if (M q1 0) ≤ x12 then
  some (1, x11, x12, E, M)
  else
  (f_B_kindAt E M x10 x12 1).bind fun r49 =>
  ck (rgI x11) <|
  (if x11 = 0 then
  some (0, 0, (x12 + 1), E, M)
  else
  (rE E q1 1).bind fun p51 =>
  ck (isQ 6 E p51) <|
  ck (inb x10 (tE E p51).2) <|
  (rE E p51 x10.toNat).bind fun p53 =>
  ck (isIA E p53) <|
  ck (inb x12 (tE E p53).2) <|
  ck (inb x12 (tE E q3).2) <|
  ck (rgI (M p53 x12.toNat)) <|
  ck (rgI (M q3 x12.toNat)) <|
  (if (M p53 x12.toNat) = (M q3 x12.toNat) then
  (if 9 ≤ (M q3 x12.toNat) then
  ck (rgI x5) <|
  (if x5 = 0 then
  La_ballots_j438 E M q1 q3 x5 x7 x10 x12 0 r49
  else
  La_ballots_j438 E M q1 q3 x5 x7 x10 x12 (x7 + 1) r49)
  else
  ck (rgI r49) <|
  (if r49 = (M q3 x12.toNat) then
  some (0, 1, (x12 + 1), E, M)
  else
  some (0, 0, (x12 + 1), E, M)))
  else
  some (0, 0, (x12 + 1), E, M))))
def l_La_ballots_360 (q1 : Nat) (q3 : Nat) (x5 : Int) (x7 : Int) (x10 : Int) : Nat → Ev → Mm → Int → Int → Option (Nat × Int × Int × Ev × Mm)
  | 0, _, _, _, _ => none
  | fu + 1, E, M, x11, x12 => (La_ballots_360b E M q1 q3 x5 x7 x10 x11 x12).bind fun (t, w11, w12, F, N) => if t = 0 then l_La_ballots_360 q1 q3 x5 x7 x10 fu F N w11 w12 else some (t, w11, w12, F, N)
def La_ballots_j322 (E : Ev) (M : Mm) (q1 : Nat) (q3 : Nat) (x5 : Int) (x7 : Int) (x9 : Int) (x10 : Int) : Option (Int × Ev × Mm) :=
  ck (Lay E) <|
  ck (isO 12 E q1) <|
  ck (isIA E q3) <|
  (rE E q1 2).bind fun p40 =>
  ck (isIA E p40) <|
  ck (inb x10 (tE E p40).2) <|
  (f_B_countOf E (u2 M p40 x10.toNat ((M p40 x10.toNat) + x9)) x10).bind fun r42 =>
  (rE E q1 2).bind fun p43 =>
  ck (isIA E p43) <|
  ck (inb x10 (tE E p43).2) <|
  ck (rgI r42) <|
  ck (rgI ((u2 M p40 x10.toNat ((M p40 x10.toNat) + x9)) p43 x10.toNat)) <|
  (if r42 = ((u2 M p40 x10.toNat ((M p40 x10.toNat) + x9)) p43 x10.toNat) then
  (l_La_ballots_360 q1 q3 x5 x7 x10 5000 E (u2 M p40 x10.toNat ((M p40 x10.toNat) + x9)) 1 0).bind fun (t64, v64_11, v64_12, E64, M64) =>
  ck (Gw E E64) <|
  ck (Lay E64) <|
  ck (t64 = 1) <|
  ck (v64_11 = 0 ∨ v64_11 = 1) <|
  some (v64_11, E64, M64)
  else
  (l_La_ballots_360 q1 q3 x5 x7 x10 5000 E (u2 M p40 x10.toNat ((M p40 x10.toNat) + x9)) 0 0).bind fun (t62, v62_11, v62_12, E62, M62) =>
  ck (Gw E E62) <|
  ck (Lay E62) <|
  ck (t62 = 1) <|
  ck (v62_11 = 0 ∨ v62_11 = 1) <|
  some (v62_11, E62, M62))
def La_ballots_j265 (E : Ev) (M : Mm) (q1 : Nat) (q3 : Nat) (x5 : Int) (x7 : Int) (y0 : Int) (y1 : Nat) (y2 : Int) : Option (Int × Ev × Mm) :=
  ck (Lay E) <|
  ck (isO 12 E q1) <|
  ck (isIA E q3) <|
  ck (isIA E y1) <|
  (f_La_next E M y1 y0).bind fun (r36, M36) =>
  (f_B_ballots E M36 (y2 + r36)).bind fun (r37, M37) =>
  ck (rgI r37) <|
  (if r37 < 0 then
  some (0, E, M37)
  else
  ck (rgI (M37 q1 3)) <|
  (if r37 ≤ (M37 q1 3) then
  (if r37 = (M37 q1 3) then
  (rE E q1 1).bind fun p66 =>
  ck (isQ 6 E p66) <|
  ck (inb r37 (tE E p66).2) <|
  nb (eRef E p66 r37.toNat q3) fun (E68 : Ev) =>
  ck (Lay E68) <|
  La_ballots_j322 E68 (u2 M37 q1 3 ((M37 q1 3) + 1)) q1 q3 x5 x7 (y2 + r36) r37
  else
  La_ballots_j322 E M37 q1 q3 x5 x7 (y2 + r36) r37)
  else
  some (0, E, M37)))
def La_ballots_j89 (E : Ev) (M : Mm) (q1 : Nat) (q2 : Nat) (q3 : Nat) (q4 : Nat) (y0 : Int) : Option (Int × Ev × Mm) :=
  ck (Lay E) <|
  ck (isO 12 E q1) <|
  ck (isIA E q2) <|
  ck (isIA E q3) <|
  ck (isIA E q4) <|
  nb (nE E) fun (p14 : Nat) =>
  nb (eNew E (114, 0)) fun (E14 : Ev) =>
  nb (mN M (nE E)) fun (M14 : Mm) =>
  (f_Sb_init E14 M14 p14).bind fun (E15, M15) =>
  ck (Gw E14 E15) <|
  ck (Lay E15) <|
  (l_La_ballots_109 q1 q2 q3 q4 y0 p14 5000 E15 M15 0 0 0).bind fun (t31, v31_7, v31_8, v31_9, E31, M31) =>
  ck (Gw E15 E31) <|
  ck (Lay E31) <|
  ck (t31 = 1) <|
  (f_Sb_toString E31 M31 p14).bind fun (r32, E32, M32) =>
  ck (Gw E31 E32) <|
  ck (Lay E32) <|
  ck (isO 13 E32 r32) <|
  (f_La_type E32 M32 r32).bind fun M33 =>
  (f_La_next E32 M33 q2 3).bind fun (r34, M34) =>
  ck (rgI r34) <|
  (if r34 = 0 then
  La_ballots_j265 E32 M34 q1 q3 y0 v31_7 900 q2 1
  else
  La_ballots_j265 E32 M34 q1 q3 y0 v31_7 12 q2 1)
def f_La_ballots (E : Ev) (M : Mm) (p1 : Nat) (p2 : Nat) : Option (Int × Ev × Mm) :=
  ck (Lay E) <|
  ck (isO 12 E p1) <|
  ck (isIA E p2) <|
  ck (0 ≤ (M p1 0) ∧ (M p1 0) ≤ 64) <|
  nb (nE E) fun (p1 : Nat) =>
  nb (eNew E (0, (M p1 0).toNat)) fun (E1 : Ev) =>
  nb (mN M (nE E)) fun (M1 : Mm) =>
  ck (0 ≤ (M1 p1 0) ∧ (M1 p1 0) ≤ 64) <|
  nb (nE E1) fun (p3 : Nat) =>
  nb (eNew E1 (0, (M1 p1 0).toNat)) fun (E3 : Ev) =>
  nb (mN M1 (nE E1)) fun (M3 : Mm) =>
  (l_La_ballots_18 p1 p2 p1 p3 5000 E3 M3 0).bind fun (t10, v10_5, E10, M10) =>
  ck (Gw E3 E10) <|
  ck (Lay E10) <|
  ck (t10 = 1) <|
  (f_La_next E10 M10 p2 9).bind fun (r11, M11) =>
  ck (rgI r11) <|
  (if r11 = 0 then
  La_ballots_j89 E10 M11 p1 p2 p1 p3 0
  else
  (f_La_next E10 M11 p2 (M11 p1 0)).bind fun (r13, M13) =>
  La_ballots_j89 E10 M13 p1 p2 p1 p3 (1 + r13))
def B_setLot_j76 (E : Ev) (M : Mm) (x2 : Int) (x5 : Int) (y0 : Int) : Option (Int × Mm) :=
  (f_B_remember E M y0 x2 x5).bind fun M6 =>
  some (x5, M6)
def B_setLot_j53 (E : Ev) (M : Mm) (x1 : Int) (x2 : Int) (x3 : Int) (y0 : Nat) : Option (Int × Mm) :=
  ck (isIA E y0) <|
  ck (inb x2 (tE E y0).2) <|
  ck (rgI x1) <|
  (if x1 = 0 then
  B_setLot_j76 E (u2 M y0 x2.toNat x3) x2 (M y0 x2.toNat) 1
  else
  B_setLot_j76 E (u2 M y0 x2.toNat x3) x2 (M y0 x2.toNat) 2)
def B_setLot_j22 (E : Ev) (M : Mm) (x1 : Int) (x2 : Int) (x3 : Int) (y0 : Int) (y1 : Int) : Option (Int × Mm) :=
  (f_B_needIndex E M y1 y0).bind fun _u =>
  (f_B_needRange E M x3 0 99).bind fun _u =>
  ck (rgI x1) <|
  (if x1 = 0 then
  B_setLot_j53 E M x1 x2 x3 4
  else
  B_setLot_j53 E M x1 x2 x3 56)
def f_B_setLot (E : Ev) (M : Mm) (x1 : Int) (x2 : Int) (x3 : Int) : Option (Int × Mm) :=
  ck (rgI x1) <|
  (if x1 = 0 then
  B_setLot_j22 E M x1 x2 x3 (M 2 2) x2
  else
  B_setLot_j22 E M x1 x2 x3 (M 53 0) x2)
def Bx_ballotsOf_5b (E : Ev) (M : Mm) (q1 : Nat) (x2 : Int) (x3 : Int) (x4 : Int) : Option (Nat × Int × Int) :=
  ck (isIA E q1) <|
  ck (rgI x4) <|
  ck (rgI x2) <|
  (if x2 ≤ x4 then
  some (1, x3, x4)
  else
  ck (inb x4 (tE E q1).2) <|
  some (0, (x3 + (M q1 x4.toNat)), (x4 + 1)))
def l_Bx_ballotsOf_5 (E : Ev) (q1 : Nat) (x2 : Int) : Nat → Mm → Int → Int → Option (Nat × Int × Int)
  | 0, _, _, _ => none
  | fu + 1, M, x3, x4 => (Bx_ballotsOf_5b E M q1 x2 x3 x4).bind fun (t, w3, w4) => if t = 0 then l_Bx_ballotsOf_5 E q1 x2 fu M w3 w4 else some (t, w3, w4)
def f_Bx_ballotsOf (E : Ev) (M : Mm) (p1 : Nat) (x2 : Int) : Option Int :=
  ck (isIA E p1) <|
  (l_Bx_ballotsOf_5 E p1 x2 FU M 0 0).bind fun (t3, v3_3, v3_4) =>
  ck (t3 = 1) <|
  some v3_3
def f_B_allBallots (E : Ev) (M : Mm) : Option Int :=
  (f_Bx_ballotsOf E M 5 (M 2 3)).bind fun r0 =>
  some r0
def Lb_all_4b (E : Ev) (M : Mm) (q0 : Nat) (x1 : Int) (x2 : Int) : Option (Nat × Int × Int) :=
  ck (isO 12 E q0) <|
  ck (rgI x2) <|
  ck (rgI (M q0 3)) <|
  (if (M q0 3) ≤ x2 then
  some (1, x1, x2)
  else
  (rE E q0 2).bind fun p2 =>
  ck (isIA E p2) <|
  ck (inb x2 (tE E p2).2) <|
  some (0, (x1 + (M p2 x2.toNat)), (x2 + 1)))
def l_Lb_all_4 (E : Ev) (q0 : Nat) : Nat → Mm → Int → Int → Option (Nat × Int × Int)
  | 0, _, _, _ => none
  | fu + 1, M, x1, x2 => (Lb_all_4b E M q0 x1 x2).bind fun (t, w1, w2) => if t = 0 then l_Lb_all_4 E q0 fu M w1 w2 else some (t, w1, w2)
def f_Lb_all (E : Ev) (M : Mm) (p0 : Nat) : Option Int :=
  ck (isO 12 E p0) <|
  (l_Lb_all_4 E p0 FU M 0 0).bind fun (t4, v4_1, v4_2) =>
  ck (t4 = 1) <|
  some v4_1
def f_Ct_init (E : Ev) (M : Mm) (p0 : Nat) : Option (Ev × Mm) :=
  ck (isO 2 E p0) <|
  nb (nE E) fun (p0 : Nat) =>
  nb (eNew E (0, 30)) fun (E0 : Ev) =>
  nb (mN M (nE E)) fun (M0 : Mm) =>
  nb (eRef E0 p0 6 p0) fun (E1 : Ev) =>
  nb (nE E1) fun (p2 : Nat) =>
  nb (eNew E1 (0, 3)) fun (E2 : Ev) =>
  nb (mN M0 (nE E1)) fun (M2 : Mm) =>
  nb (eRef E2 p0 7 p2) fun (E3 : Ev) =>
  nb (nE E3) fun (p4 : Nat) =>
  nb (eNew E3 (0, 8)) fun (E4 : Ev) =>
  nb (mN M2 (nE E3)) fun (M4 : Mm) =>
  nb (eRef E4 p0 8 p4) fun (E5 : Ev) =>
  nb (nE E5) fun (p6 : Nat) =>
  nb (eNew E5 (0, 1170)) fun (E6 : Ev) =>
  nb (mN M4 (nE E5)) fun (M6 : Mm) =>
  nb (eRef E6 p0 9 p6) fun (E7 : Ev) =>
  some (E7, M6)
def f_Bx_everybody (E : Ev) (M : Mm) : Option Int :=
  ck (shI (M 2 2)) <|
  some ((2 ^ (M 2 2).toNat) - 1)
def Na_become_10b (E : Ev) (M : Mm) (q0 : Nat) (x3 : Int) (x5 : Int) : Option (Nat × Int × Int × Mm) :=
  ck (isNa E q0) <|
  ck (rgI x5) <|
  (if 13 ≤ x5 then
  some (1, x3, x5, M)
  else
  ck (rgJ x3) <|
  (if x3 ≤ 0 then
  some (1, x3, x5, M)
  else
  ck (inb x5 13) <|
  nb (u2 (u2 M (q0 + 1) x5.toNat (x3 % 1073741824)) q0 1 (((u2 M (q0 + 1) x5.toNat (x3 % 1073741824)) q0 1) + 1)) fun (M3 : Mm) =>
  some (0, (x3 / 1073741824), (x5 + 1), M3)))
def l_Na_become_10 (E : Ev) (q0 : Nat) : Nat → Mm → Int → Int → Option (Nat × Int × Int × Mm)
  | 0, _, _, _ => none
  | fu + 1, M, x3, x5 => (Na_become_10b E M q0 x3 x5).bind fun (t, w3, w5, N) => if t = 0 then l_Na_become_10 E q0 fu N w3 w5 else some (t, w3, w5, N)
def f_Na_become (E : Ev) (M : Mm) (p0 : Nat) (x1 : Int) : Option Mm :=
  ck (isNa E p0) <|
  (l_Na_become_10 E p0 FU (u2 M p0 1 0) x1 0).bind fun (t4, v4_3, v4_5, M4) =>
  ck (t4 = 1) <|
  some M4
def f_Co_weightOfA (E : Ev) (M : Mm) (x1 : Int) (x2 : Int) : Option (Nat × Ev × Mm) :=
  ck (Lay E) <|
  ck (inb ((x1 * 8) + x2) 240) <|
  (match (rE E 181 ((x1 * 8) + x2).toNat) with
  | none =>
  nb (nE E) fun (p2 : Nat) =>
  nb (eNew E (108, 0)) fun (E2 : Ev) =>
  nb (mN M (nE E)) fun (M2 : Mm) =>
  (f_Na_init E2 M2 p2).bind fun (E3, M3) =>
  ck (Gw E2 E3) <|
  ck (Lay E3) <|
  nb (eRef E3 181 ((x1 * 8) + x2).toNat p2) fun (E4 : Ev) =>
  (rE E4 181 ((x1 * 8) + x2).toNat).bind fun p5 =>
  ck (isNa E4 p5) <|
  some (p5, E4, M3)
  | some p1 =>
  (rE E 181 ((x1 * 8) + x2).toNat).bind fun p6 =>
  ck (isNa E p6) <|
  some (p6, E, M))
def Bx_topOf_2b (E : Ev) (M : Mm) (x1 : Int) (x2 : Int) (x3 : Int) : Option (Nat × Int × Int) :=
  ck (inb x1 31) <|
  ck (rgI x3) <|
  ck (rgI (M 7 x1.toNat)) <|
  (if (M 7 x1.toNat) ≤ x3 then
  some (2, x3, 0)
  else
  ck (inb x3 8) <|
  ck (nnI (M (9 + x1.toNat) x3.toNat)) <|
  ck (nnI x2) <|
  nb ((andI (M (9 + x1.toNat) x3.toNat) x2)) fun (v6 : Int) =>
  (if v6 = 0 then
  some (0, (x3 + 1), v6)
  else
  some (1, x3, v6)))
def l_Bx_topOf_2 (E : Ev) (x1 : Int) (x2 : Int) : Nat → Mm → Int → Option (Nat × Int × Int)
  | 0, _, _ => none
  | fu + 1, M, x3 => (Bx_topOf_2b E M x1 x2 x3).bind fun (t, w3, w4) => if t = 0 then l_Bx_topOf_2 E x1 x2 fu M w3 else some (t, w3, w4)
def f_Bx_topOf (E : Ev) (M : Mm) (x1 : Int) (x2 : Int) : Option Int :=
  (l_Bx_topOf_2 E x1 x2 FU M 0).bind fun (t7, v7_3, v7_4) =>
  (if t7 = 1 then
  some v7_4
  else (if t7 = 2 then
  some 0
  else none))
def f_Na_limbAt (E : Ev) (M : Mm) (p0 : Nat) (x1 : Int) : Option Int :=
  ck (isNa E p0) <|
  ck (rgI x1) <|
  ck (rgI (M p0 1)) <|
  (if (M p0 1) ≤ x1 then
  some 0
  else
  ck (inb x1 13) <|
  some (M (p0 + 1) x1.toNat))
def Na_trimTo_10b (E : Ev) (M : Mm) (q0 : Nat) : Option (Nat × Mm) :=
  ck (isNa E q0) <|
  ck (rgI (M q0 1)) <|
  (if (M q0 1) ≤ 0 then
  some (1, M)
  else
  ck (inb ((M q0 1) - 1) 13) <|
  ck (rgI (M (q0 + 1) ((M q0 1) - 1).toNat)) <|
  (if (M (q0 + 1) ((M q0 1) - 1).toNat) = 0 then
  some (0, (u2 M q0 1 ((M q0 1) - 1)))
  else
  some (1, M)))
def l_Na_trimTo_10 (E : Ev) (q0 : Nat) : Nat → Mm → Option (Nat × Mm)
  | 0, _ => none
  | fu + 1, M => (Na_trimTo_10b E M q0).bind fun (t, N) => if t = 0 then l_Na_trimTo_10 E q0 fu N else some (t, N)
def f_Na_trimTo (E : Ev) (M : Mm) (p0 : Nat) (x1 : Int) : Option Mm :=
  ck (isNa E p0) <|
  ck (rgI x1) <|
  (l_Na_trimTo_10 E p0 FU (u2 M p0 1 (min x1 13))).bind fun (t4, M4) =>
  ck (t4 = 1) <|
  some M4
def Na_add_24b (E : Ev) (M : Mm) (q0 : Nat) (q1 : Nat) (x2 : Int) (x3 : Int) (x4 : Int) : Option (Nat × Int × Int × Mm) :=
  ck (isNa E q0) <|
  ck (isNa E q1) <|
  ck (rgI x4) <|
  ck (rgI x2) <|
  (if x2 ≤ x4 then
  some (1, x3, x4, M)
  else
  (f_Na_limbAt E M q0 x4).bind fun r6 =>
  (f_Na_limbAt E M q1 x4).bind fun r7 =>
  nb ((((r6 + r7) + x3) % 1073741824)) fun (v8 : Int) =>
  ck (inb x4 13) <|
  ck (rgI ((r6 + r7) + x3)) <|
  nb ((((r6 + r7) + x3) / 1073741824)) fun (v11 : Int) =>
  some (0, v11, (x4 + 1), (u2 M (q0 + 1) x4.toNat v8)))
def l_Na_add_24 (E : Ev) (q0 : Nat) (q1 : Nat) (x2 : Int) : Nat → Mm → Int → Int → Option (Nat × Int × Int × Mm)
  | 0, _, _, _ => none
  | fu + 1, M, x3, x4 => (Na_add_24b E M q0 q1 x2 x3 x4).bind fun (t, w3, w4, N) => if t = 0 then l_Na_add_24 E q0 q1 x2 fu N w3 w4 else some (t, w3, w4, N)
def f_Na_add (E : Ev) (M : Mm) (p0 : Nat) (p1 : Nat) : Option Mm :=
  ck (isNa E p0) <|
  ck (isNa E p1) <|
  ck (rgI (M p0 1)) <|
  ck (rgI (M p1 1)) <|
  ck (rgI ((max (M p0 1) (M p1 1)) + 1)) <|
  nb ((min ((max (M p0 1) (M p1 1)) + 1) 13)) fun (v3 : Int) =>
  (l_Na_add_24 E p0 p1 v3 FU M 0 0).bind fun (t12, v12_3, v12_4, M12) =>
  ck (t12 = 1) <|
  (f_Na_trimTo E M12 p0 v3).bind fun M13 =>
  some M13
def f_In_bitCount (E : Ev) (M : Mm) (x0 : Int) : Option Int :=
  nb ((x0 - (andI (ushI x0 1) 1431655765))) fun (v0 : Int) =>
  ck (nnI v0) <|
  nb (((andI v0 858993459) + (andI (ushI v0 2) 858993459))) fun (v2 : Int) =>
  ck (nnI (v2 + (ushI v2 4))) <|
  nb ((andI (v2 + (ushI v2 4)) 252645135)) fun (v4 : Int) =>
  nb (((v4 + (ushI v4 8)) + (ushI (v4 + (ushI v4 8)) 16))) fun (v5 : Int) =>
  some (v5 % 64)
def Na_divideSmall_16b (E : Ev) (M : Mm) (q0 : Nat) (x1 : Int) (x2 : Int) (x4 : Int) : Option (Nat × Int × Int × Mm) :=
  ck (isNa E q0) <|
  ck (rgI x4) <|
  (if x4 < 0 then
  some (1, x2, x4, M)
  else
  ck (inb x4 13) <|
  ck (rgI (M (q0 + 1) x4.toNat)) <|
  nb (((x2 * 1073741824) + (M (q0 + 1) x4.toNat))) fun (v4 : Int) =>
  ck (rgI x1) <|
  ck (nnJ v4) <|
  ck (psJ x1) <|
  ck (psJ x1) <|
  some (0, (v4 % x1), (x4 + (-1)), (u2 M (q0 + 1) x4.toNat (v4 / x1))))
def l_Na_divideSmall_16 (E : Ev) (q0 : Nat) (x1 : Int) : Nat → Mm → Int → Int → Option (Nat × Int × Int × Mm)
  | 0, _, _, _ => none
  | fu + 1, M, x2, x4 => (Na_divideSmall_16b E M q0 x1 x2 x4).bind fun (t, w2, w4, N) => if t = 0 then l_Na_divideSmall_16 E q0 x1 fu N w2 w4 else some (t, w2, w4, N)
def f_Na_divideSmall (E : Ev) (M : Mm) (p0 : Nat) (x1 : Int) : Option (Int × Mm) :=
  ck (isNa E p0) <|
  ck (rgI x1) <|
  (if 0 < x1 then
  (l_Na_divideSmall_16 E p0 x1 FU M 0 ((M p0 1) - 1)).bind fun (t9, v9_2, v9_4, M9) =>
  ck (t9 = 1) <|
  (f_Na_trimTo E M9 p0 (M9 p0 1)).bind fun M10 =>
  some (v9_2, M10)
  else
  some (0, M))
def f_Co_weightOf (E : Ev) (M : Mm) (x1 : Int) (x2 : Int) : Option Nat :=
  ck (inb ((x1 * 8) + x2) 240) <|
  (rE E 181 ((x1 * 8) + x2).toNat).bind fun p1 =>
  ck (isNa E p1) <|
  (rE E 181 ((x1 * 8) + x2).toNat).bind fun p2 =>
  ck (isNa E p2) <|
  some p2
def Co_passOn_46b (E : Ev) (M : Mm) (x1 : Int) (x2 : Int) (x3 : Int) : Option (Nat × Int × Mm) :=
  ck (rgI x3) <|
  ck (rgI (M 2 2)) <|
  (if (M 2 2) ≤ x3 then
  some (1, x3, M)
  else
  (f_B_has E M x2 x3).bind fun r6 =>
  ck (rgI r6) <|
  (if r6 = 0 then
  some (0, (x3 + 1), M)
  else
  (f_Co_weightOf E M x1 x3).bind fun r8 =>
  ck (isNa E r8) <|
  (f_Na_add E M r8 185).bind fun M9 =>
  ck (inb x3 9) <|
  (f_Na_add E M9 (201 + 2 * x3.toNat) 185).bind fun M11 =>
  some (0, (x3 + 1), M11)))
def l_Co_passOn_46 (E : Ev) (x1 : Int) (x2 : Int) : Nat → Mm → Int → Option (Nat × Int × Mm)
  | 0, _, _ => none
  | fu + 1, M, x3 => (Co_passOn_46b E M x1 x2 x3).bind fun (t, w3, N) => if t = 0 then l_Co_passOn_46 E x1 x2 fu N w3 else some (t, w3, N)
def f_Co_passOn (E : Ev) (M : Mm) (x1 : Int) : Option Mm :=
  (f_Bx_topOf E M x1 (M 179 3)).bind fun r0 =>
  ck (rgI r0) <|
  (if r0 = 0 then
  (f_Na_add E M 217 185).bind fun M13 =>
  some M13
  else
  (f_In_bitCount E M r0).bind fun r2 =>
  (f_Na_divideSmall E M 185 r2).bind fun (r3, M3) =>
  (l_Co_passOn_46 E x1 r0 FU M3 0).bind fun (t12, v12_3, M12) =>
  ck (t12 = 1) <|
  some M12)
def Co_start_102b (E : Ev) (M : Mm) (x3 : Int) : Option (Nat × Int × Ev × Mm) :=
  ck (Lay E) <|
  ck (rgI x3) <|
  (if 9 ≤ x3 then
  some (1, x3, E, M)
  else
  ck (inb x3 9) <|
  (f_Na_become E M (201 + 2 * x3.toNat) 0).bind fun M9 =>
  some (0, (x3 + 1), E, M9))
def l_Co_start_102 : Nat → Ev → Mm → Int → Option (Nat × Int × Ev × Mm)
  | 0, _, _, _ => none
  | fu + 1, E, M, x3 => (Co_start_102b E M x3).bind fun (t, w3, F, N) => if t = 0 then l_Co_start_102 fu F N w3 else some (t, w3, F, N)
def Co_start_162b (E : Ev) (M : Mm) (x3 : Int) (x5 : Int) (x6 : Int) : Option (Nat × Int × Ev × Mm) :=
  ck (Lay E) <|
  ck (rgI x6) <|
  ck (rgI (M 2 2)) <|
  (if (M 2 2) ≤ x6 then
  some (1, x6, E, M)
  else
  (f_Co_weightOfA E M x5 x6).bind fun (r18, E18, M18) =>
  ck (Gw E E18) <|
  ck (Lay E18) <|
  ck (isNa E18 r18) <|
  (f_Na_become E18 M18 r18 0).bind fun M19 =>
  some (0, (x6 + 1), E18, M19))
def l_Co_start_162 (x3 : Int) (x5 : Int) : Nat → Ev → Mm → Int → Option (Nat × Int × Ev × Mm)
  | 0, _, _, _ => none
  | fu + 1, E, M, x6 => (Co_start_162b E M x3 x5 x6).bind fun (t, w6, F, N) => if t = 0 then l_Co_start_162 x3 x5 fu F N w6 else some (t, w6, F, N)
def Co_start_147b (E : Ev) (M : Mm) (x3 : Int) (x5 : Int) : Option (Nat × Int × Ev × Mm) :=
  ck (Lay E) <|
  ck (rgI x5) <|
  ck (rgI (M 2 3)) <|
  (if (M 2 3) ≤ x5 then
  some (1, x5, E, M)
  else
  (l_Co_start_162 x3 x5 32 E M 0).bind fun (t20, v20_6, E20, M20) =>
  ck (Gw E E20) <|
  ck (Lay E20) <|
  ck (t20 = 1) <|
  ck (inb x5 31) <|
  ck (rgI (M20 5 x5.toNat)) <|
  (f_Na_become E20 M20 185 ((M20 5 x5.toNat) * x3)).bind fun M23 =>
  (f_Co_passOn E20 M23 x5).bind fun M24 =>
  some (0, (x5 + 1), E20, M24))
def l_Co_start_147 (x3 : Int) : Nat → Ev → Mm → Int → Option (Nat × Int × Ev × Mm)
  | 0, _, _, _ => none
  | fu + 1, E, M, x5 => (Co_start_147b E M x3 x5).bind fun (t, w5, F, N) => if t = 0 then l_Co_start_147 x3 fu F N w5 else some (t, w5, F, N)
def f_Co_start (E : Ev) (M : Mm) (p1 : Nat) (x2 : Int) : Option (Ev × Mm) :=
  ck (Lay E) <|
  ck (isCt E p1) <|
  (f_Bx_ballotsOf E (u2 (u2 M p1 1 (M 2 2)) p1 2 ((u2 M p1 1 (M 2 2)) 2 3)) 5 ((u2 (u2 M p1 1 (M 2 2)) p1 2 ((u2 M p1 1 (M 2 2)) 2 3)) 2 3)).bind fun r0 =>
  ck (nnI ((u2 (u2 (u2 M p1 1 (M 2 2)) p1 2 ((u2 M p1 1 (M 2 2)) 2 3)) p1 3 r0) p1 3)) <|
  ck (psI (x2 + 1)) <|
  nb (u2 (u2 (u2 (u2 M p1 1 (M 2 2)) p1 2 ((u2 M p1 1 (M 2 2)) 2 3)) p1 3 r0) p1 0 ((((u2 (u2 (u2 M p1 1 (M 2 2)) p1 2 ((u2 M p1 1 (M 2 2)) 2 3)) p1 3 r0) p1 3) / (x2 + 1)) + 1)) fun (M3 : Mm) =>
  ck (cpk 0 0 30 31 30) <|
  nb (uA (u2 (u2 M3 p1 4 0) p1 5 0) (p1 + 1) (va_cpy ((u2 (u2 M3 p1 4 0) p1 5 0) 5) ((u2 (u2 M3 p1 4 0) p1 5 0) (p1 + 1)) 0 0 30)) fun (M5 : Mm) =>
  (f_Bx_everybody E M5).bind fun r6 =>
  (l_Co_start_102 5000 E (u2 M5 179 3 r6) 0).bind fun (t10, v10_3, E10, M10) =>
  ck (Gw E E10) <|
  ck (Lay E10) <|
  ck (t10 = 1) <|
  ck (inb (M10 2 2) 13) <|
  (f_Na_become E10 M10 183 (facF (M10 2 2).toNat)).bind fun M13 =>
  (l_Co_start_147 (facF (M10 2 2).toNat) 32 E10 M13 0).bind fun (t25, v25_5, E25, M25) =>
  ck (Gw E10 E25) <|
  ck (Lay E25) <|
  ck (t25 = 1) <|
  some (E25, M25)
def f_Ct_placeOf (E : Ev) (M : Mm) (p0 : Nat) (x1 : Int) (x2 : Int) : Option Int :=
  ck (isCt E p0) <|
  some (((x1 * 10) + x2) * 13)
def Na_store_2b (E : Ev) (M : Mm) (q0 : Nat) (q1 : Nat) (x2 : Int) (x3 : Int) : Option (Nat × Int × Mm) :=
  ck (isNa E q0) <|
  ck (isIA E q1) <|
  ck (rgI x3) <|
  (if 13 ≤ x3 then
  some (1, x3, M)
  else
  (f_Na_limbAt E M q0 x3).bind fun r1 =>
  ck (inb (x2 + x3) (tE E q1).2) <|
  some (0, (x3 + 1), (u2 M q1 (x2 + x3).toNat r1)))
def l_Na_store_2 (E : Ev) (q0 : Nat) (q1 : Nat) (x2 : Int) : Nat → Mm → Int → Option (Nat × Int × Mm)
  | 0, _, _ => none
  | fu + 1, M, x3 => (Na_store_2b E M q0 q1 x2 x3).bind fun (t, w3, N) => if t = 0 then l_Na_store_2 E q0 q1 x2 fu N w3 else some (t, w3, N)
def f_Na_store (E : Ev) (M : Mm) (p0 : Nat) (p1 : Nat) (x2 : Int) : Option Mm :=
  ck (isNa E p0) <|
  ck (isIA E p1) <|
  (l_Na_store_2 E p0 p1 x2 FU M 0).bind fun (t3, v3_3, M3) =>
  ck (t3 = 1) <|
  some M3
def Co_keepMoment_12b (E : Ev) (M : Mm) (q1 : Nat) (x2 : Int) (x3 : Int) : Option (Nat × Int × Mm) :=
  ck (isCt E q1) <|
  ck (rgI x3) <|
  (if 9 ≤ x3 then
  some (1, x3, M)
  else
  ck (inb x3 9) <|
  (f_Ct_placeOf E M q1 x2 x3).bind fun r2 =>
  (f_Na_store E M (201 + 2 * x3.toNat) (q1 + 4) r2).bind fun M3 =>
  some (0, (x3 + 1), M3))
def l_Co_keepMoment_12 (E : Ev) (q1 : Nat) (x2 : Int) : Nat → Mm → Int → Option (Nat × Int × Mm)
  | 0, _, _ => none
  | fu + 1, M, x3 => (Co_keepMoment_12b E M q1 x2 x3).bind fun (t, w3, N) => if t = 0 then l_Co_keepMoment_12 E q1 x2 fu N w3 else some (t, w3, N)
def f_Co_keepMoment (E : Ev) (M : Mm) (p1 : Nat) : Option Mm :=
  ck (isCt E p1) <|
  (l_Co_keepMoment_12 E p1 ((M p1 4) + (M p1 5)) FU M 0).bind fun (t4, v4_3, M4) =>
  ck (t4 = 1) <|
  (f_Ct_placeOf E M4 p1 ((M p1 4) + (M p1 5)) 9).bind fun r5 =>
  (f_Na_store E M4 183 (p1 + 4) r5).bind fun M6 =>
  some M6
def Na_compareWith_14b (E : Ev) (M : Mm) (q0 : Nat) (q1 : Nat) (x2 : Int) : Option (Nat × Int) :=
  ck (isNa E q0) <|
  ck (isNa E q1) <|
  ck (rgI x2) <|
  (if x2 < 0 then
  some (2, x2)
  else
  (f_Na_limbAt E M q0 x2).bind fun r4 =>
  (f_Na_limbAt E M q1 x2).bind fun r5 =>
  ck (rgI r4) <|
  ck (rgI r5) <|
  (if r4 = r5 then
  some (0, (x2 + (-1)))
  else
  some (1, x2)))
def l_Na_compareWith_14 (E : Ev) (q0 : Nat) (q1 : Nat) : Nat → Mm → Int → Option (Nat × Int)
  | 0, _, _ => none
  | fu + 1, M, x2 => (Na_compareWith_14b E M q0 q1 x2).bind fun (t, w2) => if t = 0 then l_Na_compareWith_14 E q0 q1 fu M w2 else some (t, w2)
def f_Na_compareWith (E : Ev) (M : Mm) (p0 : Nat) (p1 : Nat) : Option Int :=
  ck (isNa E p0) <|
  ck (isNa E p1) <|
  ck (rgI (M p0 1)) <|
  ck (rgI (M p1 1)) <|
  nb (((max (M p0 1) (M p1 1)) - 1)) fun (v2 : Int) =>
  (l_Na_compareWith_14 E p0 p1 FU M v2).bind fun (t8, v8_2) =>
  (if t8 = 1 then
  (f_Na_limbAt E M p0 v8_2).bind fun r9 =>
  (f_Na_limbAt E M p1 v8_2).bind fun r10 =>
  ck (rgI r9) <|
  ck (rgI r10) <|
  (if r10 ≤ r9 then
  some 1
  else
  some (-1))
  else (if t8 = 2 then
  some 0
  else none))
def f_Bx_winsLot (E : Ev) (M : Mm) (x1 : Int) (x2 : Int) : Option Int :=
  ck (inb x1 8) <|
  ck (inb x2 8) <|
  ck (rgI (M 4 x1.toNat)) <|
  ck (rgI (M 4 x2.toNat)) <|
  (if (M 4 x1.toNat) < (M 4 x2.toNat) then
  some 1
  else
  (if (M 4 x1.toNat) = (M 4 x2.toNat) then
  (if x2 ≤ x1 then
  some 0
  else
  some 1)
  else
  some 0))
def f_Co_isAhead (E : Ev) (M : Mm) (x1 : Int) (x2 : Int) : Option Int :=
  ck (inb x1 9) <|
  ck (inb x2 9) <|
  (f_Na_compareWith E M (201 + 2 * x1.toNat) (201 + 2 * x2.toNat)).bind fun r2 =>
  ck (rgI r2) <|
  (if 0 < r2 then
  some 1
  else
  (if r2 = 0 then
  (f_Bx_winsLot E M x1 x2).bind fun r4 =>
  ck (rgI r4) <|
  (if r4 = 0 then
  some 0
  else
  some 1)
  else
  some 0))
def Co_greatestPile_4b (E : Ev) (M : Mm) (x1 : Int) (x2 : Int) : Option (Nat × Int × Int) :=
  ck (rgI x2) <|
  ck (rgI (M 2 2)) <|
  (if (M 2 2) ≤ x2 then
  some (1, x1, x2)
  else
  (f_B_has E M (M 179 3) x2).bind fun r2 =>
  ck (rgI r2) <|
  (if r2 = 0 then
  some (0, x1, (x2 + 1))
  else
  ck (rgI x1) <|
  (if x1 = (-1) then
  some (0, x2, (x2 + 1))
  else
  (f_Co_isAhead E M x2 x1).bind fun r5 =>
  ck (rgI r5) <|
  (if r5 = 0 then
  some (0, x1, (x2 + 1))
  else
  some (0, x2, (x2 + 1))))))
def l_Co_greatestPile_4 (E : Ev) : Nat → Mm → Int → Int → Option (Nat × Int × Int)
  | 0, _, _, _ => none
  | fu + 1, M, x1, x2 => (Co_greatestPile_4b E M x1 x2).bind fun (t, w1, w2) => if t = 0 then l_Co_greatestPile_4 E fu M w1 w2 else some (t, w1, w2)
def f_Co_greatestPile (E : Ev) (M : Mm) : Option Int :=
  (l_Co_greatestPile_4 E FU M (-1) 0).bind fun (t7, v7_1, v7_2) =>
  ck (t7 = 1) <|
  some v7_1
def f_Co_elect (E : Ev) (M : Mm) (p1 : Nat) (x2 : Int) : Option Mm :=
  ck (isCt E p1) <|
  ck (shI x2) <|
  ck (nnI (M 179 3)) <|
  ck (nnI (2 ^ x2.toNat)) <|
  ck (rgI ((u2 M 179 3 (dfI (M 179 3) (2 ^ x2.toNat))) p1 4)) <|
  (if 3 ≤ ((u2 M 179 3 (dfI (M 179 3) (2 ^ x2.toNat))) p1 4) then
  some (u2 M 179 3 (dfI (M 179 3) (2 ^ x2.toNat)))
  else
  ck (inb ((u2 M 179 3 (dfI (M 179 3) (2 ^ x2.toNat))) p1 4) 3) <|
  nb (u2 (u2 M 179 3 (dfI (M 179 3) (2 ^ x2.toNat))) (p1 + 2) ((u2 M 179 3 (dfI (M 179 3) (2 ^ x2.toNat))) p1 4).toNat x2) fun (M5 : Mm) =>
  some (u2 M5 p1 4 ((M5 p1 4) + 1)))
def f_Na_copyFrom (E : Ev) (M : Mm) (p0 : Nat) (p1 : Nat) : Option Mm :=
  ck (isNa E p0) <|
  ck (isNa E p1) <|
  ck (cpk 0 0 (M p1 1) 13 13) <|
  nb (u2 (uA M (p0 + 1) (va_cpy (M (p1 + 1)) (M (p0 + 1)) 0 0 (M p1 1).toNat)) p0 1 ((uA M (p0 + 1) (va_cpy (M (p1 + 1)) (M (p0 + 1)) 0 0 (M p1 1).toNat)) p1 1)) fun (M1 : Mm) =>
  some M1
def Na_multiplySmall_17b (E : Ev) (M : Mm) (q0 : Nat) (x1 : Int) (x2 : Int) (x3 : Int) (x5 : Int) : Option (Nat × Int × Int × Mm) :=
  ck (isNa E q0) <|
  ck (rgI x5) <|
  ck (rgI x2) <|
  (if x2 ≤ x5 then
  some (1, x3, x5, M)
  else
  (f_Na_limbAt E M q0 x5).bind fun r3 =>
  ck (rgI r3) <|
  ck (rgI x1) <|
  nb (((x3 + (r3 * x1)) % 1073741824)) fun (v6 : Int) =>
  ck (inb x5 13) <|
  ck (rgJ (x3 + (r3 * x1))) <|
  nb (((x3 + (r3 * x1)) / 1073741824)) fun (v9 : Int) =>
  some (0, v9, (x5 + 1), (u2 M (q0 + 1) x5.toNat v6)))
def l_Na_multiplySmall_17 (E : Ev) (q0 : Nat) (x1 : Int) (x2 : Int) : Nat → Mm → Int → Int → Option (Nat × Int × Int × Mm)
  | 0, _, _, _ => none
  | fu + 1, M, x3, x5 => (Na_multiplySmall_17b E M q0 x1 x2 x3 x5).bind fun (t, w3, w5, N) => if t = 0 then l_Na_multiplySmall_17 E q0 x1 x2 fu N w3 w5 else some (t, w3, w5, N)
def f_Na_multiplySmall (E : Ev) (M : Mm) (p0 : Nat) (x1 : Int) : Option Mm :=
  ck (isNa E p0) <|
  ck (rgI ((M p0 1) + 2)) <|
  (l_Na_multiplySmall_17 E p0 x1 (min ((M p0 1) + 2) 13) FU M 0 0).bind fun (t10, v10_3, v10_5, M10) =>
  ck (t10 = 1) <|
  (f_Na_trimTo E M10 p0 (min ((M p0 1) + 2) 13)).bind fun M11 =>
  some M11
def Co_smallestPile_4b (E : Ev) (M : Mm) (x1 : Int) (x2 : Int) : Option (Nat × Int × Int) :=
  ck (rgI x2) <|
  ck (rgI (M 2 2)) <|
  (if (M 2 2) ≤ x2 then
  some (1, x1, x2)
  else
  (f_B_has E M (M 179 3) x2).bind fun r2 =>
  ck (rgI r2) <|
  (if r2 = 0 then
  some (0, x1, (x2 + 1))
  else
  ck (rgI x1) <|
  (if x1 = (-1) then
  some (0, x2, (x2 + 1))
  else
  (f_Co_isAhead E M x1 x2).bind fun r5 =>
  ck (rgI r5) <|
  (if r5 = 0 then
  some (0, x1, (x2 + 1))
  else
  some (0, x2, (x2 + 1))))))
def l_Co_smallestPile_4 (E : Ev) : Nat → Mm → Int → Int → Option (Nat × Int × Int)
  | 0, _, _, _ => none
  | fu + 1, M, x1, x2 => (Co_smallestPile_4b E M x1 x2).bind fun (t, w1, w2) => if t = 0 then l_Co_smallestPile_4 E fu M w1 w2 else some (t, w1, w2)
def f_Co_smallestPile (E : Ev) (M : Mm) : Option Int :=
  (l_Co_smallestPile_4 E FU M (-1) 0).bind fun (t7, v7_1, v7_2) =>
  ck (t7 = 1) <|
  some v7_1
def Co_exclude_55b (E : Ev) (M : Mm) (q1 : Nat) (x2 : Int) (x3 : Int) : Option (Nat × Int × Mm) :=
  ck (isCt E q1) <|
  ck (rgI x3) <|
  ck (rgI (M q1 2)) <|
  (if (M q1 2) ≤ x3 then
  some (1, x3, M)
  else
  (f_Co_weightOf E M x3 x2).bind fun r8 =>
  ck (isNa E r8) <|
  (f_Na_copyFrom E M 185 r8).bind fun M9 =>
  (f_Co_passOn E M9 x3).bind fun M10 =>
  some (0, (x3 + 1), M10))
def l_Co_exclude_55 (E : Ev) (q1 : Nat) (x2 : Int) : Nat → Mm → Int → Option (Nat × Int × Mm)
  | 0, _, _ => none
  | fu + 1, M, x3 => (Co_exclude_55b E M q1 x2 x3).bind fun (t, w3, N) => if t = 0 then l_Co_exclude_55 E q1 x2 fu N w3 else some (t, w3, N)
def Co_exclude_j43 (E : Ev) (M : Mm) (q1 : Nat) (x2 : Int) : Option Mm :=
  ck (isCt E q1) <|
  ck (inb x2 9) <|
  (f_Na_become E M (201 + 2 * x2.toNat) 0).bind fun M5 =>
  (l_Co_exclude_55 E q1 x2 FU M5 0).bind fun (t11, v11_3, M11) =>
  ck (t11 = 1) <|
  some M11
def f_Co_exclude (E : Ev) (M : Mm) (p1 : Nat) (x2 : Int) : Option Mm :=
  ck (isCt E p1) <|
  ck (shI x2) <|
  ck (nnI (M 179 3)) <|
  ck (nnI (2 ^ x2.toNat)) <|
  ck (rgI ((u2 M 179 3 (dfI (M 179 3) (2 ^ x2.toNat))) p1 5)) <|
  (if 8 ≤ ((u2 M 179 3 (dfI (M 179 3) (2 ^ x2.toNat))) p1 5) then
  Co_exclude_j43 E (u2 M 179 3 (dfI (M 179 3) (2 ^ x2.toNat))) p1 x2
  else
  ck (inb ((u2 M 179 3 (dfI (M 179 3) (2 ^ x2.toNat))) p1 5) 8) <|
  nb (u2 (u2 M 179 3 (dfI (M 179 3) (2 ^ x2.toNat))) (p1 + 3) ((u2 M 179 3 (dfI (M 179 3) (2 ^ x2.toNat))) p1 5).toNat x2) fun (M13 : Mm) =>
  Co_exclude_j43 E (u2 M13 p1 5 ((M13 p1 5) + 1)) p1 x2)
def Co_takeStep_j79 (E : Ev) (M : Mm) (x4 : Int) : Option (Int × Mm) :=
  ck (rgI x4) <|
  (if x4 ≤ 0 then
  some (0, M)
  else
  some (1, M))
def f_Co_takeStep (E : Ev) (M : Mm) (p1 : Nat) (x2 : Int) (x3 : Int) : Option (Int × Mm) :=
  ck (isCt E p1) <|
  (f_In_bitCount E M (M 179 3)).bind fun r0 =>
  ck (rgI r0) <|
  ck (rgI x3) <|
  (if x3 < r0 then
  (f_Na_copyFrom E M 187 183).bind fun M3 =>
  (f_Na_multiplySmall E M3 187 (M3 p1 0)).bind fun M4 =>
  ck (inb x2 9) <|
  (f_Na_compareWith E M4 (201 + 2 * x2.toNat) 187).bind fun r6 =>
  ck (rgI r6) <|
  (if r6 < 0 then
  (f_Co_smallestPile E M4).bind fun r8 =>
  (f_Co_exclude E M4 p1 r8).bind fun M9 =>
  Co_takeStep_j79 E M9 r6
  else
  (f_Co_elect E M4 p1 x2).bind fun M11 =>
  Co_takeStep_j79 E M11 r6)
  else
  (f_Co_elect E M p1 x2).bind fun M12 =>
  some (0, M12))
def Na_subtract_4b (E : Ev) (M : Mm) (q0 : Nat) (q1 : Nat) (x2 : Int) (x3 : Int) : Option (Nat × Int × Int × Mm) :=
  ck (isNa E q0) <|
  ck (isNa E q1) <|
  ck (rgI x3) <|
  ck (rgI (M q0 1)) <|
  (if (M q0 1) ≤ x3 then
  some (1, x2, x3, M)
  else
  ck (inb x3 13) <|
  (f_Na_limbAt E M q1 x3).bind fun r3 =>
  nb ((((M (q0 + 1) x3.toNat) - r3) + x2)) fun (v4 : Int) =>
  ck (rgI v4) <|
  some (0, (v4 / 1073741824), (x3 + 1), (u2 M (q0 + 1) x3.toNat (v4 % 1073741824))))
def l_Na_subtract_4 (E : Ev) (q0 : Nat) (q1 : Nat) : Nat → Mm → Int → Int → Option (Nat × Int × Int × Mm)
  | 0, _, _, _ => none
  | fu + 1, M, x2, x3 => (Na_subtract_4b E M q0 q1 x2 x3).bind fun (t, w2, w3, N) => if t = 0 then l_Na_subtract_4 E q0 q1 fu N w2 w3 else some (t, w2, w3, N)
def f_Na_subtract (E : Ev) (M : Mm) (p0 : Nat) (p1 : Nat) : Option Mm :=
  ck (isNa E p0) <|
  ck (isNa E p1) <|
  (l_Na_subtract_4 E p0 p1 FU M 0 0).bind fun (t6, v6_2, v6_3, M6) =>
  ck (t6 = 1) <|
  (f_Na_trimTo E M6 p0 (M6 p0 1)).bind fun M7 =>
  some M7
def Na_subtractMultiple_j50 (E : Ev) (M : Mm) (q0 : Nat) (q1 : Nat) (x2 : Int) (x3 : Int) (x7 : Int) (y0 : Int) (y1 : Int) (y2 : Int) : Option (Nat × Int × Int × Mm) :=
  ck (isNa E q0) <|
  ck (isNa E q1) <|
  nb (((y2 + (y1 - y0)) % 1073741824)) fun (v4 : Int) =>
  ck (inb (x2 + x7) 13) <|
  ck (rgJ (y2 + (y1 - y0))) <|
  nb (((y2 + (y1 - y0)) / 1073741824)) fun (v7 : Int) =>
  some (0, v7, (x7 + 1), (u2 M (q0 + 1) (x2 + x7).toNat v4))
def Na_subtractMultiple_6b (E : Ev) (M : Mm) (q0 : Nat) (q1 : Nat) (x2 : Int) (x3 : Int) (x5 : Int) (x7 : Int) : Option (Nat × Int × Int × Mm) :=
  ck (isNa E q0) <|
  ck (isNa E q1) <|
  ck (rgI x7) <|
  ck (rgI (M q1 1)) <|
  (if (M q1 1) < x7 then
  some (1, x5, x7, M)
  else
  ck (inb (x2 + x7) 13) <|
  ck (rgI (M (q0 + 1) (x2 + x7).toNat)) <|
  (if (M q1 1) ≤ x7 then
  Na_subtractMultiple_j50 E M q0 q1 x2 x3 x7 0 (M (q0 + 1) (x2 + x7).toNat) x5
  else
  ck (inb x7 13) <|
  ck (rgI (M (q1 + 1) x7.toNat)) <|
  Na_subtractMultiple_j50 E M q0 q1 x2 x3 x7 (x3 * (M (q1 + 1) x7.toNat)) (M (q0 + 1) (x2 + x7).toNat) x5))
def l_Na_subtractMultiple_6 (E : Ev) (q0 : Nat) (q1 : Nat) (x2 : Int) (x3 : Int) : Nat → Mm → Int → Int → Option (Nat × Int × Int × Mm)
  | 0, _, _, _ => none
  | fu + 1, M, x5, x7 => (Na_subtractMultiple_6b E M q0 q1 x2 x3 x5 x7).bind fun (t, w5, w7, N) => if t = 0 then l_Na_subtractMultiple_6 E q0 q1 x2 x3 fu N w5 w7 else some (t, w5, w7, N)
def f_Na_subtractMultiple (E : Ev) (M : Mm) (p0 : Nat) (p1 : Nat) (x2 : Int) (x3 : Int) : Option (Int × Mm) :=
  ck (isNa E p0) <|
  ck (isNa E p1) <|
  (l_Na_subtractMultiple_6 E p0 p1 x2 x3 FU M 0 0).bind fun (t10, v10_5, v10_7, M10) =>
  ck (t10 = 1) <|
  some (v10_5, M10)
def Na_takeMultiple_78b (E : Ev) (M : Mm) (q0 : Nat) (q1 : Nat) (x2 : Int) (x3 : Int) (x4 : Int) (x8 : Int) (x10 : Int) (x12 : Int) : Option (Nat × Int × Int × Int × Mm) :=
  ck (isNa E q0) <|
  ck (isNa E q1) <|
  ck (rgI x12) <|
  (if 2 ≤ x12 then
  some (1, x8, x10, x12, M)
  else
  ck (rgJ x10) <|
  (if 1073741823 < x10 then
  some (1, x8, x10, x12, M)
  else
  ck (inb ((M q1 1) - 2) 13) <|
  ck (rgI (M (q1 + 1) ((M q1 1) - 2).toNat)) <|
  ck (inb (x3 - 2) 13) <|
  ck (rgI (M (q0 + 1) (x3 - 2).toNat)) <|
  ck (rgJ (x8 * (M (q1 + 1) ((M q1 1) - 2).toNat))) <|
  ck (rgJ ((x10 * 1073741824) + (M (q0 + 1) (x3 - 2).toNat))) <|
  (if (x8 * (M (q1 + 1) ((M q1 1) - 2).toNat)) ≤ ((x10 * 1073741824) + (M (q0 + 1) (x3 - 2).toNat)) then
  some (0, x8, x10, (x12 + 1), M)
  else
  some (0, (x8 - 1), (x10 + x4), (x12 + 1), M))))
def l_Na_takeMultiple_78 (E : Ev) (q0 : Nat) (q1 : Nat) (x2 : Int) (x3 : Int) (x4 : Int) : Nat → Mm → Int → Int → Int → Option (Nat × Int × Int × Int × Mm)
  | 0, _, _, _, _ => none
  | fu + 1, M, x8, x10, x12 => (Na_takeMultiple_78b E M q0 q1 x2 x3 x4 x8 x10 x12).bind fun (t, w8, w10, w12, N) => if t = 0 then l_Na_takeMultiple_78 E q0 q1 x2 x3 x4 fu N w8 w10 w12 else some (t, w8, w10, w12, N)
def Na_takeMultiple_j146 (E : Ev) (M : Mm) (q0 : Nat) (q1 : Nat) (x2 : Int) (x8 : Int) : Option (Int × Mm) :=
  ck (isNa E q0) <|
  ck (isNa E q1) <|
  (f_Na_subtractMultiple E M q0 q1 x2 x8).bind fun (r21, M21) =>
  ck (rgJ r21) <|
  (if 0 ≤ r21 then
  some (x8, M21)
  else
  (f_Na_subtractMultiple E M21 q0 q1 x2 (-1)).bind fun (r23, M23) =>
  some ((x8 - 1), M23))
def f_Na_takeMultiple (E : Ev) (M : Mm) (p0 : Nat) (p1 : Nat) (x2 : Int) : Option (Int × Mm) :=
  ck (isNa E p0) <|
  ck (isNa E p1) <|
  ck (inb ((M p1 1) - 1) 13) <|
  ck (rgI (M (p1 + 1) ((M p1 1) - 1).toNat)) <|
  nb ((M (p1 + 1) ((M p1 1) - 1).toNat)) fun (v2 : Int) =>
  (if v2 = 0 then
  some (0, M)
  else
  ck (inb (x2 + (M p1 1)) 13) <|
  ck (rgI (M (p0 + 1) (x2 + (M p1 1)).toNat)) <|
  ck (inb ((x2 + (M p1 1)) - 1) 13) <|
  ck (rgI (M (p0 + 1) ((x2 + (M p1 1)) - 1).toNat)) <|
  nb ((((M (p0 + 1) (x2 + (M p1 1)).toNat) * 1073741824) + (M (p0 + 1) ((x2 + (M p1 1)) - 1).toNat))) fun (v7 : Int) =>
  ck (nnJ v7) <|
  ck (psJ v2) <|
  ck (rgJ (v7 / v2)) <|
  nb ((v7 - ((min (v7 / v2) 1073741823) * v2))) fun (v11 : Int) =>
  (l_Na_takeMultiple_78 E p0 p1 x2 (x2 + (M p1 1)) v2 FU M (min (v7 / v2) 1073741823) v11 0).bind fun (t20, v20_8, v20_10, v20_12, M20) =>
  ck (t20 = 1) <|
  Na_takeMultiple_j146 E M20 p0 p1 x2 v20_8)
def Na_divide_43b (E : Ev) (M : Mm) (q0 : Nat) (q1 : Nat) (q2 : Nat) (q3 : Nat) (x4 : Int) : Option (Nat × Int × Mm) :=
  ck (isNa E q0) <|
  ck (isNa E q1) <|
  ck (isNa E q2) <|
  ck (isNa E q3) <|
  ck (rgI x4) <|
  (if 30 ≤ x4 then
  some (1, x4, M)
  else
  ck (inb ((M q1 1) - 1) 13) <|
  ck (shI x4) <|
  ck (rgI ((M (q1 + 1) ((M q1 1) - 1).toNat) * 2 ^ x4.toNat)) <|
  ck (rgI (((M (q1 + 1) ((M q1 1) - 1).toNat) * 2 ^ x4.toNat) / 536870912)) <|
  (if (((M (q1 + 1) ((M q1 1) - 1).toNat) * 2 ^ x4.toNat) / 536870912) = 0 then
  some (0, (x4 + 1), M)
  else
  some (1, x4, M)))
def l_Na_divide_43 (E : Ev) (q0 : Nat) (q1 : Nat) (q2 : Nat) (q3 : Nat) : Nat → Mm → Int → Option (Nat × Int × Mm)
  | 0, _, _ => none
  | fu + 1, M, x4 => (Na_divide_43b E M q0 q1 q2 q3 x4).bind fun (t, w4, N) => if t = 0 then l_Na_divide_43 E q0 q1 q2 q3 fu N w4 else some (t, w4, N)
def Na_divide_103b (E : Ev) (M : Mm) (q0 : Nat) (q2 : Nat) (q3 : Nat) (x4 : Int) (x5 : Int) : Option (Nat × Int × Mm) :=
  ck (isNa E q0) <|
  ck (isNa E q2) <|
  ck (isNa E q3) <|
  ck (rgI x5) <|
  (if 13 ≤ x5 then
  some (1, x5, M)
  else
  ck (inb x5 13) <|
  some (0, (x5 + 1), (u2 M (q0 + 1) x5.toNat 0)))
def l_Na_divide_103 (E : Ev) (q0 : Nat) (q2 : Nat) (q3 : Nat) (x4 : Int) : Nat → Mm → Int → Option (Nat × Int × Mm)
  | 0, _, _ => none
  | fu + 1, M, x5 => (Na_divide_103b E M q0 q2 q3 x4 x5).bind fun (t, w5, N) => if t = 0 then l_Na_divide_103 E q0 q2 q3 x4 fu N w5 else some (t, w5, N)
def Na_divide_148b (E : Ev) (M : Mm) (q0 : Nat) (q2 : Nat) (q3 : Nat) (x4 : Int) (x5 : Int) : Option (Nat × Int × Mm) :=
  ck (isNa E q0) <|
  ck (isNa E q2) <|
  ck (isNa E q3) <|
  ck (rgI x5) <|
  (if x5 < 0 then
  some (1, x5, M)
  else
  (f_Na_takeMultiple E M q0 q3 x5).bind fun (r19, M19) =>
  ck (inb x5 13) <|
  some (0, (x5 + (-1)), (u2 M19 (q2 + 1) x5.toNat r19)))
def l_Na_divide_148 (E : Ev) (q0 : Nat) (q2 : Nat) (q3 : Nat) (x4 : Int) : Nat → Mm → Int → Option (Nat × Int × Mm)
  | 0, _, _ => none
  | fu + 1, M, x5 => (Na_divide_148b E M q0 q2 q3 x4 x5).bind fun (t, w5, N) => if t = 0 then l_Na_divide_148 E q0 q2 q3 x4 fu N w5 else some (t, w5, N)
def Na_divide_j76 (E : Ev) (M : Mm) (q0 : Nat) (q1 : Nat) (q2 : Nat) (q3 : Nat) (x4 : Int) : Option Mm :=
  ck (isNa E q0) <|
  ck (isNa E q1) <|
  ck (isNa E q2) <|
  ck (isNa E q3) <|
  (f_Na_copyFrom E M q3 q1).bind fun M7 =>
  ck (shI x4) <|
  (f_Na_multiplySmall E M7 q3 (2 ^ x4.toNat)).bind fun M9 =>
  ck (shI x4) <|
  (f_Na_multiplySmall E M9 q0 (2 ^ x4.toNat)).bind fun M11 =>
  (l_Na_divide_103 E q0 q2 q3 x4 FU M11 (M11 q0 1)).bind fun (t14, v14_5, M14) =>
  ck (t14 = 1) <|
  (f_Ar_fillI E M14 (q2 + 1) 0).bind fun M15 =>
  ck (rgI (M15 q0 1)) <|
  nb (((min (M15 q0 1) 12) - (M15 q3 1))) fun (v17 : Int) =>
  (l_Na_divide_148 E q0 q2 q3 x4 FU M15 v17).bind fun (t21, v21_5, M21) =>
  ck (t21 = 1) <|
  (f_Na_trimTo E M21 q2 13).bind fun M22 =>
  (f_Na_trimTo E M22 q0 13).bind fun M23 =>
  ck (shI x4) <|
  (f_Na_divideSmall E M23 q0 (2 ^ x4.toNat)).bind fun (r25, M25) =>
  some M25
def Na_divide_j36 (E : Ev) (M : Mm) (y0 : Int) (y1 : Nat) : Option Mm :=
  ck (isNa E y1) <|
  (f_Na_become E M y1 y0).bind fun M30 =>
  some M30
def f_Na_divide (E : Ev) (M : Mm) (p0 : Nat) (p1 : Nat) (p2 : Nat) (p3 : Nat) : Option Mm :=
  ck (isNa E p0) <|
  ck (isNa E p1) <|
  ck (isNa E p2) <|
  ck (isNa E p3) <|
  ck (rgI (M p1 1)) <|
  (if 1 < (M p1 1) then
  (l_Na_divide_43 E p0 p1 p2 p3 FU M 0).bind fun (t6, v6_4, M6) =>
  ck (t6 = 1) <|
  Na_divide_j76 E M6 p0 p1 p2 p3 v6_4
  else
  (f_Na_copyFrom E M p2 p0).bind fun M26 =>
  ck (rgI (M26 p1 1)) <|
  (if (M26 p1 1) = 0 then
  Na_divide_j36 E M26 0 p0
  else
  (f_Na_divideSmall E M26 p2 (M26 (p1 + 1) 0)).bind fun (r28, M28) =>
  ck (rgI r28) <|
  Na_divide_j36 E M28 r28 p0))
def f_Na_isOne (E : Ev) (M : Mm) (p0 : Nat) : Option Int :=
  ck (isNa E p0) <|
  ck (rgI (M p0 1)) <|
  (if (M p0 1) = 1 then
  ck (rgI (M (p0 + 1) 0)) <|
  (if (M (p0 + 1) 0) = 1 then
  some 1
  else
  some 0)
  else
  some 0)
def Co_reduce_28b (E : Ev) (M : Mm) (q1 : Nat) (q2 : Nat) (x3 : Int) : Option (Nat × Nat × Nat × Int × Mm) :=
  ck (isNa E q1) <|
  ck (isNa E q2) <|
  ck (rgI x3) <|
  (if 1000 ≤ x3 then
  some (1, q1, q2, x3, M)
  else
  ck (rgI (M q2 1)) <|
  (if (M q2 1) ≤ 0 then
  some (1, q1, q2, x3, M)
  else
  (f_Na_divide E M q1 q2 197 199).bind fun M4 =>
  some (0, q2, q1, (x3 + 1), M4)))
def l_Co_reduce_28 (E : Ev) : Nat → Mm → Nat → Nat → Int → Option (Nat × Nat × Nat × Int × Mm)
  | 0, _, _, _, _ => none
  | fu + 1, M, q1, q2, x3 => (Co_reduce_28b E M q1 q2 x3).bind fun (t, w1, w2, w3, N) => if t = 0 then l_Co_reduce_28 E fu N w1 w2 w3 else some (t, w1, w2, w3, N)
def Co_reduce_j69 (E : Ev) (M : Mm) (q1 : Nat) : Option Mm :=
  ck (isNa E q1) <|
  (f_Na_isOne E M q1).bind fun r6 =>
  ck (rgI r6) <|
  (if r6 = 0 then
  (f_Na_divide E M 189 q1 197 199).bind fun M8 =>
  (f_Na_copyFrom E M8 189 197).bind fun M9 =>
  (f_Na_divide E M9 191 q1 197 199).bind fun M10 =>
  (f_Na_copyFrom E M10 191 197).bind fun M11 =>
  some M11
  else
  some M)
def f_Co_reduce (E : Ev) (M : Mm) : Option Mm :=
  (f_Na_copyFrom E M 193 191).bind fun M0 =>
  (f_Na_copyFrom E M0 195 189).bind fun M1 =>
  (l_Co_reduce_28 E FU M1 193 195 0).bind fun (t5, v5_1, v5_2, v5_3, M5) =>
  ck (t5 = 1) <|
  ck (isNa E v5_1) <|
  Co_reduce_j69 E M5 v5_1
def Na_multiply_24b (E : Ev) (M : Mm) (q0 : Nat) (q1 : Nat) (q2 : Nat) (x3 : Int) (x4 : Int) (x6 : Int) : Option (Nat × Int × Int × Mm) :=
  ck (isNa E q0) <|
  ck (isNa E q1) <|
  ck (isNa E q2) <|
  ck (rgI x6) <|
  ck (rgI (M q2 1)) <|
  (if (M q2 1) < x6 then
  some (1, x4, x6, M)
  else
  ck (rgI (x3 + x6)) <|
  (if 13 ≤ (x3 + x6) then
  some (1, x4, x6, M)
  else
  ck (inb x3 13) <|
  ck (rgI (M (q1 + 1) x3.toNat)) <|
  (f_Na_limbAt E M q2 x6).bind fun r8 =>
  ck (rgI r8) <|
  ck (inb (x3 + x6) 13) <|
  ck (rgI (M (q0 + 1) (x3 + x6).toNat)) <|
  nb ((x4 + (((M (q1 + 1) x3.toNat) * r8) + (M (q0 + 1) (x3 + x6).toNat)))) fun (v12 : Int) =>
  ck (rgJ v12) <|
  some (0, (v12 / 1073741824), (x6 + 1), (u2 M (q0 + 1) (x3 + x6).toNat (v12 % 1073741824)))))
def l_Na_multiply_24 (E : Ev) (q0 : Nat) (q1 : Nat) (q2 : Nat) (x3 : Int) : Nat → Mm → Int → Int → Option (Nat × Int × Int × Mm)
  | 0, _, _, _ => none
  | fu + 1, M, x4, x6 => (Na_multiply_24b E M q0 q1 q2 x3 x4 x6).bind fun (t, w4, w6, N) => if t = 0 then l_Na_multiply_24 E q0 q1 q2 x3 fu N w4 w6 else some (t, w4, w6, N)
def Na_multiply_10b (E : Ev) (M : Mm) (q0 : Nat) (q1 : Nat) (q2 : Nat) (x3 : Int) : Option (Nat × Int × Mm) :=
  ck (isNa E q0) <|
  ck (isNa E q1) <|
  ck (isNa E q2) <|
  ck (rgI x3) <|
  ck (rgI (M q1 1)) <|
  (if (M q1 1) ≤ x3 then
  some (1, x3, M)
  else
  (l_Na_multiply_24 E q0 q1 q2 x3 FU M 0 0).bind fun (t14, v14_4, v14_6, M14) =>
  ck (t14 = 1) <|
  some (0, (x3 + 1), M14))
def l_Na_multiply_10 (E : Ev) (q0 : Nat) (q1 : Nat) (q2 : Nat) : Nat → Mm → Int → Option (Nat × Int × Mm)
  | 0, _, _ => none
  | fu + 1, M, x3 => (Na_multiply_10b E M q0 q1 q2 x3).bind fun (t, w3, N) => if t = 0 then l_Na_multiply_10 E q0 q1 q2 fu N w3 else some (t, w3, N)
def f_Na_multiply (E : Ev) (M : Mm) (p0 : Nat) (p1 : Nat) (p2 : Nat) : Option Mm :=
  ck (isNa E p0) <|
  ck (isNa E p1) <|
  ck (isNa E p2) <|
  (f_Ar_fillI E M (p0 + 1) 0).bind fun M0 =>
  (l_Na_multiply_10 E p0 p1 p2 FU M0 0).bind fun (t15, v15_3, M15) =>
  ck (t15 = 1) <|
  (f_Na_trimTo E M15 p0 13).bind fun M16 =>
  some M16
def f_Co_multiply (E : Ev) (M : Mm) (p1 : Nat) (p2 : Nat) : Option Mm :=
  ck (isNa E p1) <|
  ck (isNa E p2) <|
  ck (rgI (M p1 1)) <|
  (if (M p1 1) ≤ 0 then
  some M
  else
  (f_Na_multiply E M 199 p1 p2).bind fun M1 =>
  (f_Na_copyFrom E M1 p1 199).bind fun M2 =>
  some M2)
def Co_multiplyAll_11b (E : Ev) (M : Mm) (q1 : Nat) (x2 : Int) : Option (Nat × Int × Mm) :=
  ck (isNa E q1) <|
  ck (rgI x2) <|
  (if 9 ≤ x2 then
  some (1, x2, M)
  else
  ck (inb x2 9) <|
  (f_Co_multiply E M (201 + 2 * x2.toNat) q1).bind fun M3 =>
  some (0, (x2 + 1), M3))
def l_Co_multiplyAll_11 (E : Ev) (q1 : Nat) : Nat → Mm → Int → Option (Nat × Int × Mm)
  | 0, _, _ => none
  | fu + 1, M, x2 => (Co_multiplyAll_11b E M q1 x2).bind fun (t, w2, N) => if t = 0 then l_Co_multiplyAll_11 E q1 fu N w2 else some (t, w2, N)
def Co_multiplyAll_49b (E : Ev) (M : Mm) (q1 : Nat) (x2 : Int) (x3 : Int) : Option (Nat × Int × Mm) :=
  ck (isNa E q1) <|
  ck (rgI x3) <|
  ck (rgI (M 2 2)) <|
  (if (M 2 2) ≤ x3 then
  some (1, x3, M)
  else
  (f_B_has E M (M 179 3) x3).bind fun r9 =>
  ck (rgI r9) <|
  (if r9 = 0 then
  some (0, (x3 + 1), M)
  else
  (f_Co_weightOf E M x2 x3).bind fun r11 =>
  ck (isNa E r11) <|
  (f_Co_multiply E M r11 q1).bind fun M12 =>
  some (0, (x3 + 1), M12)))
def l_Co_multiplyAll_49 (E : Ev) (q1 : Nat) (x2 : Int) : Nat → Mm → Int → Option (Nat × Int × Mm)
  | 0, _, _ => none
  | fu + 1, M, x3 => (Co_multiplyAll_49b E M q1 x2 x3).bind fun (t, w3, N) => if t = 0 then l_Co_multiplyAll_49 E q1 x2 fu N w3 else some (t, w3, N)
def Co_multiplyAll_36b (E : Ev) (M : Mm) (q1 : Nat) (x2 : Int) : Option (Nat × Int × Mm) :=
  ck (isNa E q1) <|
  ck (rgI x2) <|
  ck (rgI (M 2 3)) <|
  (if (M 2 3) ≤ x2 then
  some (1, x2, M)
  else
  (l_Co_multiplyAll_49 E q1 x2 FU M 0).bind fun (t13, v13_3, M13) =>
  ck (t13 = 1) <|
  some (0, (x2 + 1), M13))
def l_Co_multiplyAll_36 (E : Ev) (q1 : Nat) : Nat → Mm → Int → Option (Nat × Int × Mm)
  | 0, _, _ => none
  | fu + 1, M, x2 => (Co_multiplyAll_36b E M q1 x2).bind fun (t, w2, N) => if t = 0 then l_Co_multiplyAll_36 E q1 fu N w2 else some (t, w2, N)
def f_Co_multiplyAll (E : Ev) (M : Mm) (p1 : Nat) : Option Mm :=
  ck (isNa E p1) <|
  (f_Co_multiply E M 183 p1).bind fun M0 =>
  (l_Co_multiplyAll_11 E p1 FU M0 0).bind fun (t4, v4_2, M4) =>
  ck (t4 = 1) <|
  (l_Co_multiplyAll_36 E p1 FU M4 0).bind fun (t14, v14_2, M14) =>
  ck (t14 = 1) <|
  some M14
def Co_passSurplus_64b (E : Ev) (M : Mm) (x1 : Int) (x2 : Int) : Option (Nat × Int × Mm) :=
  ck (rgI x2) <|
  ck (rgI (M 2 3)) <|
  (if (M 2 3) ≤ x2 then
  some (1, x2, M)
  else
  (f_Co_weightOf E M x2 x1).bind fun r9 =>
  ck (isNa E r9) <|
  (f_Na_multiply E M 185 r9 189).bind fun M10 =>
  (f_Co_passOn E M10 x2).bind fun M11 =>
  some (0, (x2 + 1), M11))
def l_Co_passSurplus_64 (E : Ev) (x1 : Int) : Nat → Mm → Int → Option (Nat × Int × Mm)
  | 0, _, _ => none
  | fu + 1, M, x2 => (Co_passSurplus_64b E M x1 x2).bind fun (t, w2, N) => if t = 0 then l_Co_passSurplus_64 E x1 fu N w2 else some (t, w2, N)
def f_Co_passSurplus (E : Ev) (M : Mm) (x1 : Int) : Option Mm :=
  ck (inb x1 9) <|
  (f_Na_copyFrom E M 189 (201 + 2 * x1.toNat)).bind fun M1 =>
  (f_Na_subtract E M1 189 187).bind fun M2 =>
  (f_Na_copyFrom E M2 191 (201 + 2 * x1.toNat)).bind fun M3 =>
  (f_Co_reduce E M3).bind fun M4 =>
  (f_Na_copyFrom E M4 (201 + 2 * x1.toNat) 187).bind fun M5 =>
  (f_Co_multiplyAll E M5 191).bind fun M6 =>
  (l_Co_passSurplus_64 E x1 FU M6 0).bind fun (t12, v12_2, M12) =>
  ck (t12 = 1) <|
  some M12
def Co_holdCount_j119 (E : Ev) (M : Mm) (x1 : Int) (q2 : Nat) (x3 : Int) : Option (Nat × Int × Ev × Mm) :=
  ck (Lay E) <|
  ck (isCt E q2) <|
  (f_Co_keepMoment E M q2).bind fun M17 =>
  some (0, (x3 + 1), E, M17)
def Co_holdCount_64b (E : Ev) (M : Mm) (x1 : Int) (q2 : Nat) (x3 : Int) : Option (Nat × Int × Ev × Mm) :=
  ck (Lay E) <|
  ck (isCt E q2) <|
  ck (rgI x3) <|
  ck (rgI (M 2 2)) <|
  (if (M 2 2) ≤ x3 then
  some (1, x3, E, M)
  else
  ck (rgI (x1 - (M q2 4))) <|
  (if (x1 - (M q2 4)) ≤ 0 then
  some (0, (x3 + 1), E, M)
  else
  ck (rgI (M 179 3)) <|
  (if (M 179 3) = 0 then
  some (0, (x3 + 1), E, M)
  else
  (f_Co_greatestPile E M).bind fun r14 =>
  (f_Co_takeStep E M q2 r14 (x1 - (M q2 4))).bind fun (r15, M15) =>
  ck (rgI r15) <|
  (if r15 = 0 then
  Co_holdCount_j119 E M15 x1 q2 x3
  else
  (f_Co_passSurplus E M15 r14).bind fun M18 =>
  Co_holdCount_j119 E M18 x1 q2 x3))))
def l_Co_holdCount_64 (x1 : Int) (q2 : Nat) : Nat → Ev → Mm → Int → Option (Nat × Int × Ev × Mm)
  | 0, _, _, _ => none
  | fu + 1, E, M, x3 => (Co_holdCount_64b E M x1 q2 x3).bind fun (t, w3, F, N) => if t = 0 then l_Co_holdCount_64 x1 q2 fu F N w3 else some (t, w3, F, N)
def Co_holdCount_j41 (E : Ev) (M : Mm) (x1 : Int) : Option (Int × Ev × Mm) :=
  ck (Lay E) <|
  ck (inb (M 179 2) 21) <|
  (rE E 180 (M 179 2).toNat).bind fun p7 =>
  ck (isCt E p7) <|
  (f_Co_start E M p7 x1).bind fun (E8, M8) =>
  ck (Gw E E8) <|
  ck (Lay E8) <|
  ck (isCt E8 p7) <|
  (f_Co_keepMoment E8 M8 p7).bind fun M9 =>
  (l_Co_holdCount_64 x1 p7 5000 E8 M9 0).bind fun (t19, v19_3, E19, M19) =>
  ck (Gw E8 E19) <|
  ck (Lay E19) <|
  ck (t19 = 1) <|
  ck (isCt E19 p7) <|
  some ((M19 p7 4), E19, M19)
def f_Co_holdCount (E : Ev) (M : Mm) (x1 : Int) : Option (Int × Ev × Mm) :=
  ck (Lay E) <|
  ck (nnI ((M 179 2) + 1)) <|
  ck (inb ((u2 M 179 2 (((M 179 2) + 1) % 21)) 179 2) 21) <|
  (match (rE E 180 ((u2 M 179 2 (((M 179 2) + 1) % 21)) 179 2).toNat) with
  | none =>
  nb (nE E) fun (p3 : Nat) =>
  nb (eNew E (102, 0)) fun (E3 : Ev) =>
  nb (mN (u2 M 179 2 (((M 179 2) + 1) % 21)) (nE E)) fun (M3 : Mm) =>
  (f_Ct_init E3 M3 p3).bind fun (E4, M4) =>
  ck (Gw E3 E4) <|
  ck (Lay E4) <|
  nb (eRef E4 180 ((u2 M 179 2 (((M 179 2) + 1) % 21)) 179 2).toNat p3) fun (E5 : Ev) =>
  Co_holdCount_j41 E5 M4 x1
  | some p2 =>
  Co_holdCount_j41 E (u2 M 179 2 (((M 179 2) + 1) % 21)) x1)
def f_B_transferable (E : Ev) (M : Mm) (x1 : Int) : Option (Int × Ev × Mm) :=
  ck (Lay E) <|
  (f_B_needRange E M x1 1 3).bind fun _u =>
  ck (rgI (M 2 2)) <|
  (if (M 2 2) = 0 then
  none
  else
  (f_Co_holdCount E M x1).bind fun (r2, E2, M2) =>
  ck (Gw E E2) <|
  ck (Lay E2) <|
  (f_B_remember E2 M2 9 0 0).bind fun M3 =>
  some (r2, E2, M3))
def f_Co_latest (E : Ev) (M : Mm) : Option ((Option Nat)) :=
  ck (inb (M 179 2) 21) <|
  some (rE E 180 (M 179 2).toNat)
def f_B_electedAt (E : Ev) (M : Mm) (x1 : Int) : Option Int :=
  (f_Co_latest E M).bind fun r0 =>
  (match r0 with
  | none =>
  none
  | some p0 =>
  ck (isCt E p0) <|
  ck (rgI x1) <|
  (if x1 < 0 then
  none
  else
  ck (rgI (M p0 4)) <|
  (if x1 < (M p0 4) then
  ck (inb x1 3) <|
  some (M (p0 + 2) x1.toNat)
  else
  none)))
def f_B_quota (E : Ev) (M : Mm) : Option Int :=
  (f_Co_latest E M).bind fun r0 =>
  (match r0 with
  | none =>
  some (-1)
  | some p0 =>
  ck (isCt E p0) <|
  some (M p0 0))
def Lb_solid_30b (E : Ev) (M : Mm) (q0 : Nat) (x1 : Int) (x2 : Int) (x3 : Int) (x5 : Int) (x4 : Int) (x6 : Int) : Option (Nat × Int × Int) :=
  ck (isO 12 E q0) <|
  ck (rgI x6) <|
  ck (rgI (M q0 0)) <|
  (if (M q0 0) ≤ x6 then
  some (1, x4, x6)
  else
  ck (rgI x4) <|
  (if x4 = 0 then
  some (0, 0, (x6 + 1))
  else
  ck (rgI x1) <|
  ck (shI x5) <|
  (if ((x1 / 2 ^ x5.toNat) % 2) = 0 then
  some (0, 1, (x6 + 1))
  else
  ck (shI x6) <|
  (if ((x1 / 2 ^ x6.toNat) % 2) = 1 then
  some (0, 1, (x6 + 1))
  else
  (rE E q0 1).bind fun p10 =>
  ck (isQ 6 E p10) <|
  ck (inb x3 (tE E p10).2) <|
  (rE E p10 x3.toNat).bind fun p12 =>
  ck (isIA E p12) <|
  ck (inb x5 (tE E p12).2) <|
  (rE E q0 1).bind fun p14 =>
  ck (isQ 6 E p14) <|
  ck (inb x3 (tE E p14).2) <|
  (rE E p14 x3.toNat).bind fun p16 =>
  ck (isIA E p16) <|
  ck (inb x6 (tE E p16).2) <|
  ck (rgI (M p12 x5.toNat)) <|
  ck (rgI (M p16 x6.toNat)) <|
  (if (M p16 x6.toNat) ≤ (M p12 x5.toNat) then
  some (0, 0, (x6 + 1))
  else
  some (0, 1, (x6 + 1)))))))
def l_Lb_solid_30 (E : Ev) (q0 : Nat) (x1 : Int) (x2 : Int) (x3 : Int) (x5 : Int) : Nat → Mm → Int → Int → Option (Nat × Int × Int)
  | 0, _, _, _ => none
  | fu + 1, M, x4, x6 => (Lb_solid_30b E M q0 x1 x2 x3 x5 x4 x6).bind fun (t, w4, w6) => if t = 0 then l_Lb_solid_30 E q0 x1 x2 x3 x5 fu M w4 w6 else some (t, w4, w6)
def Lb_solid_18b (E : Ev) (M : Mm) (q0 : Nat) (x1 : Int) (x2 : Int) (x3 : Int) (x4 : Int) (x5 : Int) : Option (Nat × Int × Int) :=
  ck (isO 12 E q0) <|
  ck (rgI x5) <|
  ck (rgI (M q0 0)) <|
  (if (M q0 0) ≤ x5 then
  some (1, x4, x5)
  else
  (l_Lb_solid_30 E q0 x1 x2 x3 x5 FU M x4 0).bind fun (t20, v20_4, v20_6) =>
  ck (t20 = 1) <|
  some (0, v20_4, (x5 + 1)))
def l_Lb_solid_18 (E : Ev) (q0 : Nat) (x1 : Int) (x2 : Int) (x3 : Int) : Nat → Mm → Int → Int → Option (Nat × Int × Int)
  | 0, _, _, _ => none
  | fu + 1, M, x4, x5 => (Lb_solid_18b E M q0 x1 x2 x3 x4 x5).bind fun (t, w4, w5) => if t = 0 then l_Lb_solid_18 E q0 x1 x2 x3 fu M w4 w5 else some (t, w4, w5)
def Lb_solid_4b (E : Ev) (M : Mm) (q0 : Nat) (x1 : Int) (x2 : Int) (x3 : Int) : Option (Nat × Int × Int) :=
  ck (isO 12 E q0) <|
  ck (rgI x3) <|
  ck (rgI (M q0 3)) <|
  (if (M q0 3) ≤ x3 then
  some (1, x2, x3)
  else
  (l_Lb_solid_18 E q0 x1 x2 x3 FU M 1 0).bind fun (t21, v21_4, v21_5) =>
  ck (t21 = 1) <|
  ck (rgI v21_4) <|
  (if v21_4 = 0 then
  some (0, (x2 + 0), (x3 + 1))
  else
  (rE E q0 2).bind fun p23 =>
  ck (isIA E p23) <|
  ck (inb x3 (tE E p23).2) <|
  some (0, (x2 + (M p23 x3.toNat)), (x3 + 1))))
def l_Lb_solid_4 (E : Ev) (q0 : Nat) (x1 : Int) : Nat → Mm → Int → Int → Option (Nat × Int × Int)
  | 0, _, _, _ => none
  | fu + 1, M, x2, x3 => (Lb_solid_4b E M q0 x1 x2 x3).bind fun (t, w2, w3) => if t = 0 then l_Lb_solid_4 E q0 x1 fu M w2 w3 else some (t, w2, w3)
def f_Lb_solid (E : Ev) (M : Mm) (p0 : Nat) (x1 : Int) : Option Int :=
  ck (isO 12 E p0) <|
  (l_Lb_solid_4 E p0 x1 FU M 0 0).bind fun (t25, v25_2, v25_3) =>
  ck (t25 = 1) <|
  some v25_2
def Bx_findSupport_23b (E : Ev) (M : Mm) (q1 : Nat) (x2 : Int) (x3 : Int) (x4 : Int) (x5 : Int) (x6 : Int) : Option (Nat × Int × Int × Mm) :=
  ck (isIA E q1) <|
  ck (inb x4 31) <|
  ck (rgI x6) <|
  ck (rgI (M 7 x4.toNat)) <|
  (if (M 7 x4.toNat) ≤ x6 then
  some (1, x5, x6, M)
  else
  ck (inb x6 8) <|
  ck (nnI x5) <|
  ck (nnI (M (9 + x4.toNat) x6.toNat)) <|
  nb ((orI x5 (M (9 + x4.toNat) x6.toNat))) fun (v9 : Int) =>
  ck (rgI v9) <|
  ck (rgI x3) <|
  (if v9 = x3 then
  some (0, v9, (x6 + 1), M)
  else
  ck (inb v9 256) <|
  ck (inb x4 (tE E q1).2) <|
  nb (((M 40 v9.toNat) + (M q1 x4.toNat))) fun (v14 : Int) =>
  some (0, v9, (x6 + 1), (u2 M 40 v9.toNat v14))))
def l_Bx_findSupport_23 (E : Ev) (q1 : Nat) (x2 : Int) (x3 : Int) (x4 : Int) : Nat → Mm → Int → Int → Option (Nat × Int × Int × Mm)
  | 0, _, _, _ => none
  | fu + 1, M, x5, x6 => (Bx_findSupport_23b E M q1 x2 x3 x4 x5 x6).bind fun (t, w5, w6, N) => if t = 0 then l_Bx_findSupport_23 E q1 x2 x3 x4 fu N w5 w6 else some (t, w5, w6, N)
def Bx_findSupport_11b (E : Ev) (M : Mm) (q1 : Nat) (x2 : Int) (x3 : Int) (x4 : Int) : Option (Nat × Int × Mm) :=
  ck (isIA E q1) <|
  ck (rgI x4) <|
  ck (rgI x2) <|
  (if x2 ≤ x4 then
  some (1, x4, M)
  else
  (l_Bx_findSupport_23 E q1 x2 x3 x4 FU M 0 0).bind fun (t15, v15_5, v15_6, M15) =>
  ck (t15 = 1) <|
  some (0, (x4 + 1), M15))
def l_Bx_findSupport_11 (E : Ev) (q1 : Nat) (x2 : Int) (x3 : Int) : Nat → Mm → Int → Option (Nat × Int × Mm)
  | 0, _, _ => none
  | fu + 1, M, x4 => (Bx_findSupport_11b E M q1 x2 x3 x4).bind fun (t, w4, N) => if t = 0 then l_Bx_findSupport_11 E q1 x2 x3 fu N w4 else some (t, w4, N)
def f_Bx_findSupport (E : Ev) (M : Mm) (p1 : Nat) (x2 : Int) (x3 : Int) : Option Mm :=
  ck (isIA E p1) <|
  (f_Ar_fillI E M 40 0).bind fun M0 =>
  (l_Bx_findSupport_11 E p1 x2 x3 FU M0 0).bind fun (t16, v16_4, M16) =>
  ck (t16 = 1) <|
  (f_Bx_ballotsOf E M16 p1 x2).bind fun r17 =>
  ck (inb x3 256) <|
  some (u2 M16 40 x3.toNat r17)
def f_B_solidQuotas (E : Ev) (M : Mm) (x1 : Int) : Option (Int × Mm) :=
  (f_Bx_everybody E M).bind fun r0 =>
  (f_B_needRange E M x1 1 r0).bind fun _u =>
  (f_Co_latest E M).bind fun r2 =>
  (match r2 with
  | none =>
  none
  | some p2 =>
  ck (isCt E p2) <|
  ck (rgI (M p2 0)) <|
  (if 1 ≤ (M p2 0) then
  (f_Bx_everybody E M).bind fun r4 =>
  (f_Bx_findSupport E M 5 (M 2 3) r4).bind fun M5 =>
  ck (inb x1 256) <|
  ck (nnI (M5 40 x1.toNat)) <|
  ck (psI (M5 p2 0)) <|
  (f_In_bitCount E M5 x1).bind fun r9 =>
  ck (rgI ((M5 40 x1.toNat) / (M5 p2 0))) <|
  ck (rgI r9) <|
  nb ((min ((M5 40 x1.toNat) / (M5 p2 0)) r9)) fun (v12 : Int) =>
  some (v12, M5)
  else
  none))
def f_Na_load (E : Ev) (M : Mm) (p0 : Nat) (p1 : Nat) (x2 : Int) : Option Mm :=
  ck (isNa E p0) <|
  ck (isIA E p1) <|
  ck (cpk x2 0 13 (tE E p1).2 13) <|
  (f_Na_trimTo E (uA M (p0 + 1) (va_cpy (M p1) (M (p0 + 1)) x2.toNat 0 13)) p0 13).bind fun M1 =>
  some M1
def f_Co_loadPile (E : Ev) (M : Mm) (p1 : Nat) (x2 : Int) (x3 : Int) : Option Mm :=
  ck (isCt E p1) <|
  (f_Ct_placeOf E M p1 x2 x3).bind fun r0 =>
  (f_Na_load E M 189 (p1 + 4) r0).bind fun M1 =>
  (f_Ct_placeOf E M1 p1 x2 9).bind fun r2 =>
  (f_Na_load E M1 191 (p1 + 4) r2).bind fun M3 =>
  some M3
def f_B_appendByte (E : Ev) (M : Mm) (x1 : Int) : Option Mm :=
  ck (rgI (M 1 13)) <|
  (if 240 ≤ (M 1 13) then
  some M
  else
  ck (inb (M 1 13) 240) <|
  some (u2 (u2 M 249 (M 1 13).toNat x1) 1 13 (((u2 M 249 (M 1 13).toNat x1) 1 13) + 1)))
def B_appendNumber_20b (E : Ev) (M : Mm) (q1 : Nat) (x2 : Int) (x3 : Int) : Option (Nat × Int × Mm) :=
  ck (isNa E q1) <|
  ck (rgI x3) <|
  (if 240 ≤ x3 then
  some (1, x3, M)
  else
  ck (rgI (M q1 1)) <|
  (if (M q1 1) ≤ 0 then
  some (1, x3, M)
  else
  (f_Na_divideSmall E M q1 10).bind fun (r4, M4) =>
  (f_B_appendByte E M4 (48 + r4)).bind fun M5 =>
  some (0, (x3 + 1), M5)))
def l_B_appendNumber_20 (E : Ev) (q1 : Nat) (x2 : Int) : Nat → Mm → Int → Option (Nat × Int × Mm)
  | 0, _, _ => none
  | fu + 1, M, x3 => (B_appendNumber_20b E M q1 x2 x3).bind fun (t, w3, N) => if t = 0 then l_B_appendNumber_20 E q1 x2 fu N w3 else some (t, w3, N)
def B_appendNumber_63b (E : Ev) (M : Mm) (x3 : Int) (x4 : Int) : Option (Nat × Int × Int × Mm) :=
  ck (rgI x3) <|
  ck (rgI x4) <|
  (if x4 ≤ x3 then
  some (1, x3, x4, M)
  else
  ck (inb x3 240) <|
  ck (inb x4 240) <|
  some (0, (x3 + 1), (x4 + (-1)), (u2 (u2 M 249 x3.toNat (M 249 x4.toNat)) 249 x4.toNat (M 249 x3.toNat))))
def l_B_appendNumber_63 (E : Ev) : Nat → Mm → Int → Int → Option (Nat × Int × Int × Mm)
  | 0, _, _, _ => none
  | fu + 1, M, x3, x4 => (B_appendNumber_63b E M x3 x4).bind fun (t, w3, w4, N) => if t = 0 then l_B_appendNumber_63 E fu N w3 w4 else some (t, w3, w4, N)
def f_B_appendNumber (E : Ev) (M : Mm) (p1 : Nat) : Option Mm :=
  ck (isNa E p1) <|
  (f_Na_divideSmall E M p1 10).bind fun (r0, M0) =>
  (f_B_appendByte E M0 (48 + r0)).bind fun M1 =>
  (l_B_appendNumber_20 E p1 (M 1 13) FU M1 1).bind fun (t6, v6_3, M6) =>
  ck (t6 = 1) <|
  (l_B_appendNumber_63 E FU M6 (M 1 13) ((M6 1 13) - 1)).bind fun (t11, v11_3, v11_4, M11) =>
  ck (t11 = 1) <|
  some M11
def B_writePile_j72 (E : Ev) (M : Mm) (y0 : Int) (y1 : Int) (y2 : Nat) : Option (Int × Mm) :=
  ck (isCt E y2) <|
  (f_Co_loadPile E M y2 y1 y0).bind fun M5 =>
  (f_Co_reduce E M5).bind fun M6 =>
  (f_B_appendNumber E (u2 M6 1 13 0) 189).bind fun M7 =>
  (f_Na_isOne E M7 191).bind fun r8 =>
  ck (rgI r8) <|
  (if r8 = 0 then
  (f_B_appendByte E M7 47).bind fun M10 =>
  (f_B_appendNumber E M10 191).bind fun M11 =>
  some ((M11 1 13), M11)
  else
  some ((M7 1 13), M7))
def B_writePile_j16 (E : Ev) (M : Mm) (x1 : Int) (x2 : Int) : Option (Int × Mm) :=
  (f_Co_latest E M).bind fun r1 =>
  (match r1 with
  | none =>
  none
  | some p1 =>
  ck (isCt E p1) <|
  ck (rgI x1) <|
  (if x1 < 0 then
  none
  else
  ck (rgI ((M p1 4) + (M p1 5))) <|
  (if x1 ≤ ((M p1 4) + (M p1 5)) then
  ck (rgI x2) <|
  (if x2 = (-1) then
  B_writePile_j72 E M 8 x1 p1
  else
  B_writePile_j72 E M x2 x1 p1)
  else
  none)))
def f_B_writePile (E : Ev) (M : Mm) (x1 : Int) (x2 : Int) : Option (Int × Mm) :=
  ck (rgI x2) <|
  (if x2 = (-1) then
  B_writePile_j16 E M x1 x2
  else
  (f_B_needIndex E M x2 (M 2 2)).bind fun _u =>
  B_writePile_j16 E M x1 x2)
def f_B_outputByte (E : Ev) (M : Mm) (x1 : Int) : Option Int :=
  ck (rgI x1) <|
  (if x1 < 0 then
  some (-1)
  else
  ck (rgI (M 1 13)) <|
  (if x1 < (M 1 13) then
  ck (inb x1 240) <|
  some (M 249 x1.toNat)
  else
  some (-1)))
def La_reads_19b (E : Ev) (M : Mm) (x1 : Int) (x2 : Int) (x4 : Int) (x6 : Int) (x7 : Int) : Option (Nat × Int × Int × Int × Int) :=
  ck (rgI x7) <|
  ck (rgI x1) <|
  (if x1 ≤ x7 then
  some (1, x2, x4, x6, x7)
  else
  (f_B_outputByte E M x7).bind fun r3 =>
  ck (rgI r3) <|
  (if r3 = 47 then
  some (0, x2, x4, 1, (x7 + 1))
  else
  ck (rgI x6) <|
  (if x6 = 0 then
  some (0, (((10 * x2) + r3) - 48), x4, x6, (x7 + 1))
  else
  some (0, x2, (((10 * x4) + r3) - 48), x6, (x7 + 1)))))
def l_La_reads_19 (E : Ev) (x1 : Int) : Nat → Mm → Int → Int → Int → Int → Option (Nat × Int × Int × Int × Int)
  | 0, _, _, _, _, _ => none
  | fu + 1, M, x2, x4, x6, x7 => (La_reads_19b E M x1 x2 x4 x6 x7).bind fun (t, w2, w4, w6, w7) => if t = 0 then l_La_reads_19 E x1 fu M w2 w4 w6 w7 else some (t, w2, w4, w6, w7)
def f_La_reads (E : Ev) (M : Mm) (x1 : Int) : Option Int :=
  ck (rgI x1) <|
  (if x1 ≤ 16 then
  (l_La_reads_19 E x1 FU M 0 0 0 0).bind fun (t6, v6_2, v6_4, v6_6, v6_7) =>
  ck (t6 = 1) <|
  ck (rgI v6_6) <|
  (if v6_6 = 0 then
  some (v6_2 * 840)
  else
  ck (psJ v6_4) <|
  ck (rgJ ((840 : Int) % v6_4)) <|
  (if ((840 : Int) % v6_4) = 0 then
  ck (psJ v6_4) <|
  some (v6_2 * ((840 : Int) / v6_4))
  else
  some 0))
  else
  some 0)
def f_B_steps (E : Ev) (M : Mm) : Option Int :=
  (f_Co_latest E M).bind fun r0 =>
  (match r0 with
  | none =>
  some 0
  | some p0 =>
  ck (isCt E p0) <|
  some ((M p0 4) + (M p0 5)))
def La_transferable_21b (E : Ev) (M : Mm) (q1 : Nat) (x3 : Int) (x4 : Int) (x5 : Int) (x6 : Int) : Option (Nat × Int × Int × Ev × Mm) :=
  ck (Lay E) <|
  ck (isO 12 E q1) <|
  ck (rgI x6) <|
  ck (rgI x4) <|
  (if x4 ≤ x6 then
  some (1, x5, x6, E, M)
  else
  (f_B_electedAt E M x6).bind fun r4 =>
  ck (shI r4) <|
  ck (nnI x5) <|
  ck (nnI (2 ^ r4.toNat)) <|
  some (0, (orI x5 (2 ^ r4.toNat)), (x6 + 1), E, M))
def l_La_transferable_21 (q1 : Nat) (x3 : Int) (x4 : Int) : Nat → Ev → Mm → Int → Int → Option (Nat × Int × Int × Ev × Mm)
  | 0, _, _, _, _ => none
  | fu + 1, E, M, x5, x6 => (La_transferable_21b E M q1 x3 x4 x5 x6).bind fun (t, w5, w6, F, N) => if t = 0 then l_La_transferable_21 q1 x3 x4 fu F N w5 w6 else some (t, w5, w6, F, N)
def La_transferable_j153 (E : Ev) (M : Mm) (q1 : Nat) (x5 : Int) (x8 : Int) (x9 : Int) : Option (Nat × Int × Int × Ev × Mm) :=
  ck (Lay E) <|
  ck (isO 12 E q1) <|
  (f_B_solidQuotas E M x8).bind fun (r28, M28) =>
  (f_In_bitCount E M28 x8).bind fun r29 =>
  ck (rgI x9) <|
  ck (rgI r29) <|
  ck (rgI r28) <|
  (if r28 = (min x9 r29) then
  some (0, 1, (x8 + 1), E, M28)
  else
  some (0, 0, (x8 + 1), E, M28))
def La_transferable_101b (E : Ev) (M : Mm) (q1 : Nat) (x5 : Int) (x7 : Int) (x8 : Int) : Option (Nat × Int × Int × Ev × Mm) :=
  ck (Lay E) <|
  ck (isO 12 E q1) <|
  ck (shI (M q1 0)) <|
  ck (rgI x8) <|
  ck (rgI (2 ^ (M q1 0).toNat)) <|
  (if (2 ^ (M q1 0).toNat) ≤ x8 then
  some (1, x7, x8, E, M)
  else
  (f_Lb_solid E M q1 x8).bind fun r18 =>
  (f_B_quota E M).bind fun r19 =>
  ck (nnI r18) <|
  ck (psI r19) <|
  ck (rgI x7) <|
  (if x7 = 0 then
  some (0, 0, (x8 + 1), E, M)
  else
  ck (nnI x8) <|
  ck (nnI x5) <|
  (f_In_bitCount E M (andI x8 x5)).bind fun r25 =>
  ck (rgI r25) <|
  ck (rgI (r18 / r19)) <|
  (if (r18 / r19) ≤ r25 then
  La_transferable_j153 E M q1 x5 x8 (r18 / r19)
  else
  (if (andI x8 x5) = x8 then
  La_transferable_j153 E M q1 x5 x8 (r18 / r19)
  else
  some (0, 0, (x8 + 1), E, M)))))
def l_La_transferable_101 (q1 : Nat) (x5 : Int) : Nat → Ev → Mm → Int → Int → Option (Nat × Int × Int × Ev × Mm)
  | 0, _, _, _, _ => none
  | fu + 1, E, M, x7, x8 => (La_transferable_101b E M q1 x5 x7 x8).bind fun (t, w7, w8, F, N) => if t = 0 then l_La_transferable_101 q1 x5 fu F N w7 w8 else some (t, w7, w8, F, N)
def La_transferable_223b (E : Ev) (M : Mm) (q1 : Nat) (x8 : Int) (x9 : Int) (x11 : Int) (x12 : Int) (x13 : Int) : Option (Nat × Int × Int × Ev × Mm) :=
  ck (Lay E) <|
  ck (isO 12 E q1) <|
  ck (rgI x13) <|
  ck (rgI (M q1 0)) <|
  (if (M q1 0) ≤ x13 then
  some (1, x12, x13, E, M)
  else
  (rE E q1 1).bind fun p41 =>
  ck (isQ 6 E p41) <|
  ck (inb x11 (tE E p41).2) <|
  (rE E p41 x11.toNat).bind fun p43 =>
  ck (isIA E p43) <|
  ck (inb x13 (tE E p43).2) <|
  ck (rgI (M p43 x13.toNat)) <|
  (if (M p43 x13.toNat) = 0 then
  some (0, (x12 + 1), (x13 + 1), E, M)
  else
  some (0, (x12 + 0), (x13 + 1), E, M)))
def l_La_transferable_223 (q1 : Nat) (x8 : Int) (x9 : Int) (x11 : Int) : Nat → Ev → Mm → Int → Int → Option (Nat × Int × Int × Ev × Mm)
  | 0, _, _, _, _ => none
  | fu + 1, E, M, x12, x13 => (La_transferable_223b E M q1 x8 x9 x11 x12 x13).bind fun (t, w12, w13, F, N) => if t = 0 then l_La_transferable_223 q1 x8 x9 x11 fu F N w12 w13 else some (t, w12, w13, F, N)
def La_transferable_208b (E : Ev) (M : Mm) (q1 : Nat) (x8 : Int) (x9 : Int) (x11 : Int) : Option (Nat × Int × Int × Ev × Mm) :=
  ck (Lay E) <|
  ck (isO 12 E q1) <|
  ck (rgI x11) <|
  ck (rgI (M q1 3)) <|
  (if (M q1 3) ≤ x11 then
  some (1, x9, x11, E, M)
  else
  (l_La_transferable_223 q1 x8 x9 x11 5000 E M 0 0).bind fun (t46, v46_12, v46_13, E46, M46) =>
  ck (Gw E E46) <|
  ck (Lay E46) <|
  ck (t46 = 1) <|
  (rE E46 q1 1).bind fun p47 =>
  ck (isQ 6 E46 p47) <|
  ck (inb x11 (tE E46 p47).2) <|
  (rE E46 p47 x11.toNat).bind fun p49 =>
  ck (isIA E46 p49) <|
  ck (inb x8 (tE E46 p49).2) <|
  ck (rgI (M46 p49 x8.toNat)) <|
  (if (M46 p49 x8.toNat) = 0 then
  (rE E46 q1 2).bind fun p52 =>
  ck (isIA E46 p52) <|
  ck (inb x11 (tE E46 p52).2) <|
  ck (rgI (M46 p52 x11.toNat)) <|
  ck (psI v46_12) <|
  ck (rgI ((840 : Int) / v46_12)) <|
  nb ((x9 + ((M46 p52 x11.toNat) * ((840 : Int) / v46_12)))) fun (v57 : Int) =>
  some (0, v57, (x11 + 1), E46, M46)
  else
  some (0, (x9 + 0), (x11 + 1), E46, M46)))
def l_La_transferable_208 (q1 : Nat) (x8 : Int) : Nat → Ev → Mm → Int → Int → Option (Nat × Int × Int × Ev × Mm)
  | 0, _, _, _, _ => none
  | fu + 1, E, M, x9, x11 => (La_transferable_208b E M q1 x8 x9 x11).bind fun (t, w9, w11, F, N) => if t = 0 then l_La_transferable_208 q1 x8 fu F N w9 w11 else some (t, w9, w11, F, N)
def La_transferable_188b (E : Ev) (M : Mm) (q1 : Nat) (x7 : Int) (x8 : Int) : Option (Nat × Int × Int × Ev × Mm) :=
  ck (Lay E) <|
  ck (isO 12 E q1) <|
  ck (rgI x8) <|
  ck (rgI (M q1 0)) <|
  (if (M q1 0) ≤ x8 then
  some (1, x7, x8, E, M)
  else
  ck (rgI x7) <|
  (if x7 = 0 then
  some (1, x7, x8, E, M)
  else
  (l_La_transferable_208 q1 x8 5000 E M 0 0).bind fun (t58, v58_9, v58_11, E58, M58) =>
  ck (Gw E E58) <|
  ck (Lay E58) <|
  ck (t58 = 1) <|
  (f_B_writePile E58 M58 0 x8).bind fun (r59, M59) =>
  (f_La_reads E58 M59 r59).bind fun r60 =>
  ck (rgJ r60) <|
  ck (rgJ v58_9) <|
  (if r60 = v58_9 then
  some (0, 1, (x8 + 1), E58, M59)
  else
  some (0, 0, (x8 + 1), E58, M59))))
def l_La_transferable_188 (q1 : Nat) : Nat → Ev → Mm → Int → Int → Option (Nat × Int × Int × Ev × Mm)
  | 0, _, _, _, _ => none
  | fu + 1, E, M, x7, x8 => (La_transferable_188b E M q1 x7 x8).bind fun (t, w7, w8, F, N) => if t = 0 then l_La_transferable_188 q1 fu F N w7 w8 else some (t, w7, w8, F, N)
def La_transferable_j335 (E : Ev) (M : Mm) (x7 : Int) : Option (Int × Ev × Mm) :=
  ck (Lay E) <|
  ck (rgI x7) <|
  (if x7 = 0 then
  some (0, E, M)
  else
  (f_B_steps E M).bind fun r65 =>
  (f_B_writePile E M r65 (-1)).bind fun (r66, M66) =>
  (f_La_reads E M66 r66).bind fun r67 =>
  ck (rgJ r67) <|
  (if r67 < 0 then
  some (0, E, M66)
  else
  some (1, E, M66)))
def f_La_transferable (E : Ev) (M : Mm) (p1 : Nat) (p2 : Nat) : Option (Int × Ev × Mm) :=
  ck (Lay E) <|
  ck (isO 12 E p1) <|
  ck (isIA E p2) <|
  (f_La_next E M p2 3).bind fun (r0, M0) =>
  (f_B_transferable E M0 (1 + r0)).bind fun (r1, E1, M1) =>
  ck (Gw E E1) <|
  ck (Lay E1) <|
  (l_La_transferable_21 p1 (1 + r0) r1 5000 E1 M1 0 0).bind fun (t8, v8_5, v8_6, E8, M8) =>
  ck (Gw E1 E8) <|
  ck (Lay E8) <|
  ck (t8 = 1) <|
  (f_Lb_all E8 M8 p1).bind fun r9 =>
  (f_B_quota E8 M8).bind fun r10 =>
  ck (nnI r9) <|
  ck (psI ((1 + r0) + 1)) <|
  ck (rgI r10) <|
  ck (rgI ((r9 / ((1 + r0) + 1)) + 1)) <|
  (if r10 = ((r9 / ((1 + r0) + 1)) + 1) then
  ck (rgI (1 + r0)) <|
  ck (rgI (M8 p1 0)) <|
  ck (rgI r1) <|
  (if r1 = (min (1 + r0) (M8 p1 0)) then
  (f_In_bitCount E8 M8 v8_5).bind fun r74 =>
  ck (rgI r74) <|
  (if r74 = r1 then
  (l_La_transferable_101 p1 v8_5 5000 E8 M8 1 1).bind fun (t78, v78_7, v78_8, E78, M78) =>
  ck (Gw E8 E78) <|
  ck (Lay E78) <|
  ck (t78 = 1) <|
  (l_La_transferable_188 p1 5000 E78 M78 v78_7 0).bind fun (t79, v79_7, v79_8, E79, M79) =>
  ck (Gw E78 E79) <|
  ck (Lay E79) <|
  ck (t79 = 1) <|
  La_transferable_j335 E79 M79 v79_7
  else
  (l_La_transferable_101 p1 v8_5 5000 E8 M8 0 1).bind fun (t76, v76_7, v76_8, E76, M76) =>
  ck (Gw E8 E76) <|
  ck (Lay E76) <|
  ck (t76 = 1) <|
  (l_La_transferable_188 p1 5000 E76 M76 v76_7 0).bind fun (t77, v77_7, v77_8, E77, M77) =>
  ck (Gw E76 E77) <|
  ck (Lay E77) <|
  ck (t77 = 1) <|
  La_transferable_j335 E77 M77 v77_7)
  else
  (l_La_transferable_101 p1 v8_5 5000 E8 M8 0 1).bind fun (t72, v72_7, v72_8, E72, M72) =>
  ck (Gw E8 E72) <|
  ck (Lay E72) <|
  ck (t72 = 1) <|
  (l_La_transferable_188 p1 5000 E72 M72 v72_7 0).bind fun (t73, v73_7, v73_8, E73, M73) =>
  ck (Gw E72 E73) <|
  ck (Lay E73) <|
  ck (t73 = 1) <|
  La_transferable_j335 E73 M73 v73_7)
  else
  (l_La_transferable_101 p1 v8_5 5000 E8 M8 0 1).bind fun (t33, v33_7, v33_8, E33, M33) =>
  ck (Gw E8 E33) <|
  ck (Lay E33) <|
  ck (t33 = 1) <|
  (l_La_transferable_188 p1 5000 E33 M33 v33_7 0).bind fun (t63, v63_7, v63_8, E63, M63) =>
  ck (Gw E33 E63) <|
  ck (Lay E63) <|
  ck (t63 = 1) <|
  La_transferable_j335 E63 M63 v63_7)
def f_Bx_soleTopOf (E : Ev) (M : Mm) (x1 : Int) (x2 : Int) : Option Int :=
  (f_Bx_topOf E M x1 x2).bind fun r0 =>
  (f_In_bitCount E M r0).bind fun r1 =>
  ck (rgI r1) <|
  (if r1 = 1 then
  (f_In_bitCount E M (r0 - 1)).bind fun r3 =>
  some r3
  else
  some (-1))
def Po_changePairs_27b (E : Ev) (M : Mm) (x1 : Int) (x2 : Int) (x3 : Int) (x4 : Int) (x5 : Int) : Option (Nat × Int × Mm) :=
  ck (rgI x5) <|
  ck (rgI (M 2 2)) <|
  (if (M 2 2) ≤ x5 then
  some (1, x5, M)
  else
  (f_B_has E M x2 x5).bind fun r6 =>
  ck (rgI r6) <|
  (if r6 = 0 then
  some (0, (x5 + 1), M)
  else
  ck (inb ((x4 * 8) + x5) 64) <|
  nb (((M 45 ((x4 * 8) + x5).toNat) + x3)) fun (v9 : Int) =>
  some (0, (x5 + 1), (u2 M 45 ((x4 * 8) + x5).toNat v9))))
def l_Po_changePairs_27 (E : Ev) (x1 : Int) (x2 : Int) (x3 : Int) (x4 : Int) : Nat → Mm → Int → Option (Nat × Int × Mm)
  | 0, _, _ => none
  | fu + 1, M, x5 => (Po_changePairs_27b E M x1 x2 x3 x4 x5).bind fun (t, w5, N) => if t = 0 then l_Po_changePairs_27 E x1 x2 x3 x4 fu N w5 else some (t, w5, N)
def Po_changePairs_3b (E : Ev) (M : Mm) (x1 : Int) (x2 : Int) (x3 : Int) (x4 : Int) : Option (Nat × Int × Mm) :=
  ck (rgI x4) <|
  ck (rgI (M 2 2)) <|
  (if (M 2 2) ≤ x4 then
  some (1, x4, M)
  else
  (f_B_has E M x1 x4).bind fun r2 =>
  ck (rgI r2) <|
  (if r2 = 0 then
  some (0, (x4 + 1), M)
  else
  (l_Po_changePairs_27 E x1 x2 x3 x4 FU M 0).bind fun (t10, v10_5, M10) =>
  ck (t10 = 1) <|
  some (0, (x4 + 1), M10)))
def l_Po_changePairs_3 (E : Ev) (x1 : Int) (x2 : Int) (x3 : Int) : Nat → Mm → Int → Option (Nat × Int × Mm)
  | 0, _, _ => none
  | fu + 1, M, x4 => (Po_changePairs_3b E M x1 x2 x3 x4).bind fun (t, w4, N) => if t = 0 then l_Po_changePairs_3 E x1 x2 x3 fu N w4 else some (t, w4, N)
def f_Po_changePairs (E : Ev) (M : Mm) (x1 : Int) (x2 : Int) (x3 : Int) : Option Mm :=
  (l_Po_changePairs_3 E x1 x2 x3 FU M 0).bind fun (t11, v11_4, M11) =>
  ck (t11 = 1) <|
  some M11
def Po_change_62b (E : Ev) (M : Mm) (x1 : Int) (x2 : Int) (x4 : Int) (x5 : Int) : Option (Nat × Int × Int × Mm) :=
  ck (inb x1 31) <|
  ck (rgI x5) <|
  ck (rgI (M 7 x1.toNat)) <|
  (if (M 7 x1.toNat) ≤ x5 then
  some (1, x4, x5, M)
  else
  ck (inb x5 8) <|
  ck (nnI (M (9 + x1.toNat) x5.toNat)) <|
  ck (nnI (M 41 1)) <|
  nb ((andI (M (9 + x1.toNat) x5.toNat) (M 41 1))) fun (v11 : Int) =>
  ck (nnI x4) <|
  ck (nnI v11) <|
  (f_Po_changePairs E M v11 (dfI x4 v11) x2).bind fun M14 =>
  some (0, (dfI x4 v11), (x5 + 1), M14))
def l_Po_change_62 (E : Ev) (x1 : Int) (x2 : Int) : Nat → Mm → Int → Int → Option (Nat × Int × Int × Mm)
  | 0, _, _, _ => none
  | fu + 1, M, x4, x5 => (Po_change_62b E M x1 x2 x4 x5).bind fun (t, w4, w5, N) => if t = 0 then l_Po_change_62 E x1 x2 fu N w4 w5 else some (t, w4, w5, N)
def Po_change_122b (E : Ev) (M : Mm) (x1 : Int) (x2 : Int) (x5 : Int) : Option (Nat × Int × Mm) :=
  ck (rgI x5) <|
  ck (rgI (M 2 2)) <|
  (if (M 2 2) ≤ x5 then
  some (1, x5, M)
  else
  ck (inb x1 31) <|
  ck (nnI (M 6 x1.toNat)) <|
  ck (nnI (M 41 1)) <|
  (f_B_has E M (andI (M 6 x1.toNat) (M 41 1)) x5).bind fun r21 =>
  ck (rgI r21) <|
  (if r21 = 0 then
  some (0, (x5 + 1), M)
  else
  ck (inb x5 8) <|
  some (0, (x5 + 1), (u2 M 44 x5.toNat ((M 44 x5.toNat) + x2)))))
def l_Po_change_122 (E : Ev) (x1 : Int) (x2 : Int) : Nat → Mm → Int → Option (Nat × Int × Mm)
  | 0, _, _ => none
  | fu + 1, M, x5 => (Po_change_122b E M x1 x2 x5).bind fun (t, w5, N) => if t = 0 then l_Po_change_122 E x1 x2 fu N w5 else some (t, w5, N)
def f_Po_change (E : Ev) (M : Mm) (x1 : Int) (x2 : Int) : Option Mm :=
  ck (rgI x2) <|
  (if x2 = 0 then
  some M
  else
  ck (inb x1 31) <|
  nb (u2 (u2 M 42 x1.toNat ((M 42 x1.toNat) + x2)) 41 2 (((u2 M 42 x1.toNat ((M 42 x1.toNat) + x2)) 41 2) + x2)) fun (M2 : Mm) =>
  (f_Bx_soleTopOf E M2 x1 (M2 41 1)).bind fun r3 =>
  ck (rgI r3) <|
  (if r3 = (-1) then
  (l_Po_change_62 E x1 x2 FU M2 (M2 41 1) 0).bind fun (t15, v15_4, v15_5, M15) =>
  ck (t15 = 1) <|
  (l_Po_change_122 E x1 x2 FU M15 0).bind fun (t24, v24_5, M24) =>
  ck (t24 = 1) <|
  some M24
  else
  ck (inb r3 8) <|
  nb (((u2 M2 43 r3.toNat ((M2 43 r3.toNat) + x2)) 41 1)) fun (v26 : Int) =>
  (l_Po_change_62 E x1 x2 FU (u2 M2 43 r3.toNat ((M2 43 r3.toNat) + x2)) v26 0).bind fun (t27, v27_4, v27_5, M27) =>
  ck (t27 = 1) <|
  (l_Po_change_122 E x1 x2 FU M27 0).bind fun (t28, v28_5, M28) =>
  ck (t28 = 1) <|
  some M28))
def Po_open_44b (E : Ev) (M : Mm) (x2 : Int) : Option (Nat × Int × Mm) :=
  ck (rgI x2) <|
  ck (rgI (M 2 3)) <|
  (if (M 2 3) ≤ x2 then
  some (1, x2, M)
  else
  ck (inb x2 31) <|
  (f_Po_change E M x2 (M 5 x2.toNat)).bind fun M7 =>
  some (0, (x2 + 1), M7))
def l_Po_open_44 (E : Ev) : Nat → Mm → Int → Option (Nat × Int × Mm)
  | 0, _, _ => none
  | fu + 1, M, x2 => (Po_open_44b E M x2).bind fun (t, w2, N) => if t = 0 then l_Po_open_44 E fu N w2 else some (t, w2, N)
def f_Po_open (E : Ev) (M : Mm) (x1 : Int) : Option Mm :=
  (f_Ar_fillI E (u2 (u2 M 41 1 x1) 41 2 0) 42 0).bind fun M0 =>
  (f_Ar_fillI E M0 43 0).bind fun M1 =>
  (f_Ar_fillI E M1 44 0).bind fun M2 =>
  (f_Ar_fillI E M2 45 0).bind fun M3 =>
  (l_Po_open_44 E FU M3 0).bind fun (t8, v8_2, M8) =>
  ck (t8 = 1) <|
  some M8
def f_Po_pair (E : Ev) (M : Mm) (x1 : Int) (x2 : Int) : Option Int :=
  ck (inb ((x1 * 8) + x2) 64) <|
  some (M 45 ((x1 * 8) + x2).toNat)
def f_B_ahead (E : Ev) (M : Mm) (x1 : Int) (x2 : Int) : Option (Int × Mm) :=
  (f_B_needIndex E M x1 (M 2 2)).bind fun _u =>
  (f_B_needIndex E M x2 (M 2 2)).bind fun _u =>
  (f_Bx_everybody E M).bind fun r2 =>
  (f_Po_open E M r2).bind fun M3 =>
  (f_Po_pair E M3 x1 x2).bind fun r4 =>
  some (r4, M3)
def Lb_ahead_5b (E : Ev) (M : Mm) (q0 : Nat) (x1 : Int) (x2 : Int) (x3 : Int) (x4 : Int) : Option (Nat × Int × Int) :=
  ck (isO 12 E q0) <|
  ck (rgI x4) <|
  ck (rgI (M q0 3)) <|
  (if (M q0 3) ≤ x4 then
  some (1, x3, x4)
  else
  (rE E q0 1).bind fun p2 =>
  ck (isQ 6 E p2) <|
  ck (inb x4 (tE E p2).2) <|
  (rE E p2 x4.toNat).bind fun p4 =>
  ck (isIA E p4) <|
  ck (inb x1 (tE E p4).2) <|
  (rE E q0 1).bind fun p6 =>
  ck (isQ 6 E p6) <|
  ck (inb x4 (tE E p6).2) <|
  (rE E p6 x4.toNat).bind fun p8 =>
  ck (isIA E p8) <|
  ck (inb x2 (tE E p8).2) <|
  ck (rgI (M p4 x1.toNat)) <|
  ck (rgI (M p8 x2.toNat)) <|
  (if (M p8 x2.toNat) ≤ (M p4 x1.toNat) then
  some (0, (x3 + 0), (x4 + 1))
  else
  (rE E q0 2).bind fun p12 =>
  ck (isIA E p12) <|
  ck (inb x4 (tE E p12).2) <|
  some (0, (x3 + (M p12 x4.toNat)), (x4 + 1))))
def l_Lb_ahead_5 (E : Ev) (q0 : Nat) (x1 : Int) (x2 : Int) : Nat → Mm → Int → Int → Option (Nat × Int × Int)
  | 0, _, _, _ => none
  | fu + 1, M, x3, x4 => (Lb_ahead_5b E M q0 x1 x2 x3 x4).bind fun (t, w3, w4) => if t = 0 then l_Lb_ahead_5 E q0 x1 x2 fu M w3 w4 else some (t, w3, w4)
def f_Lb_ahead (E : Ev) (M : Mm) (p0 : Nat) (x1 : Int) (x2 : Int) : Option Int :=
  ck (isO 12 E p0) <|
  (l_Lb_ahead_5 E p0 x1 x2 FU M 0 0).bind fun (t14, v14_3, v14_4) =>
  ck (t14 = 1) <|
  some v14_3
def f_Po_beats (E : Ev) (M : Mm) (x1 : Int) (x2 : Int) : Option Int :=
  (f_Po_pair E M x1 x2).bind fun r0 =>
  (f_Po_pair E M x2 x1).bind fun r1 =>
  ck (rgI r0) <|
  ck (rgI r1) <|
  (if r0 ≤ r1 then
  some 0
  else
  some 1)
def Po_findBeaten_23b (E : Ev) (M : Mm) (x1 : Int) (x2 : Int) : Option (Nat × Int × Mm) :=
  ck (rgI x2) <|
  ck (rgI (M 2 2)) <|
  (if (M 2 2) ≤ x2 then
  some (1, x2, M)
  else
  (f_Po_beats E M x1 x2).bind fun r5 =>
  ck (rgI r5) <|
  (if r5 = 0 then
  some (0, (x2 + 1), M)
  else
  ck (inb x1 8) <|
  ck (shI x2) <|
  ck (nnI (M 46 x1.toNat)) <|
  ck (nnI (2 ^ x2.toNat)) <|
  nb ((orI (M 46 x1.toNat) (2 ^ x2.toNat))) fun (v11 : Int) =>
  some (0, (x2 + 1), (u2 M 46 x1.toNat v11))))
def l_Po_findBeaten_23 (E : Ev) (x1 : Int) : Nat → Mm → Int → Option (Nat × Int × Mm)
  | 0, _, _ => none
  | fu + 1, M, x2 => (Po_findBeaten_23b E M x1 x2).bind fun (t, w2, N) => if t = 0 then l_Po_findBeaten_23 E x1 fu N w2 else some (t, w2, N)
def Po_findBeaten_10b (E : Ev) (M : Mm) (x1 : Int) : Option (Nat × Int × Mm) :=
  ck (rgI x1) <|
  ck (rgI (M 2 2)) <|
  (if (M 2 2) ≤ x1 then
  some (1, x1, M)
  else
  (l_Po_findBeaten_23 E x1 FU M 0).bind fun (t12, v12_2, M12) =>
  ck (t12 = 1) <|
  some (0, (x1 + 1), M12))
def l_Po_findBeaten_10 (E : Ev) : Nat → Mm → Int → Option (Nat × Int × Mm)
  | 0, _, _ => none
  | fu + 1, M, x1 => (Po_findBeaten_10b E M x1).bind fun (t, w1, N) => if t = 0 then l_Po_findBeaten_10 E fu N w1 else some (t, w1, N)
def f_Po_findBeaten (E : Ev) (M : Mm) : Option Mm :=
  (f_Ar_fillI E M 46 0).bind fun M0 =>
  (l_Po_findBeaten_10 E FU M0 0).bind fun (t13, v13_1, M13) =>
  ck (t13 = 1) <|
  some M13
def Po_isBeatingSet_2b (E : Ev) (M : Mm) (x1 : Int) (x2 : Int) : Option (Nat × Int) :=
  ck (rgI x2) <|
  ck (rgI (M 2 2)) <|
  (if (M 2 2) ≤ x2 then
  some (2, x2)
  else
  (f_B_has E M x1 x2).bind fun r2 =>
  ck (rgI r2) <|
  (if r2 = 0 then
  some (0, (x2 + 1))
  else
  ck (inb x2 8) <|
  ck (nnI (M 46 x2.toNat)) <|
  ck (nnI x1) <|
  ck (rgI (orI (M 46 x2.toNat) x1)) <|
  ck (rgI (M 41 1)) <|
  (if (orI (M 46 x2.toNat) x1) = (M 41 1) then
  some (0, (x2 + 1))
  else
  some (1, x2))))
def l_Po_isBeatingSet_2 (E : Ev) (x1 : Int) : Nat → Mm → Int → Option (Nat × Int)
  | 0, _, _ => none
  | fu + 1, M, x2 => (Po_isBeatingSet_2b E M x1 x2).bind fun (t, w2) => if t = 0 then l_Po_isBeatingSet_2 E x1 fu M w2 else some (t, w2)
def f_Po_isBeatingSet (E : Ev) (M : Mm) (x1 : Int) : Option Int :=
  (l_Po_isBeatingSet_2 E x1 FU M 0).bind fun (t9, v9_2) =>
  (if t9 = 1 then
  some 0
  else (if t9 = 2 then
  some 1
  else none))
def Po_smallestBeatingSet_11b (E : Ev) (M : Mm) (x1 : Int) (x2 : Int) : Option (Nat × Int × Int × Mm) :=
  ck (rgI x2) <|
  ck (rgI (M 41 1)) <|
  (if (M 41 1) ≤ x2 then
  some (1, x1, x2, M)
  else
  (f_In_bitCount E M x2).bind fun r3 =>
  (f_In_bitCount E M x1).bind fun r4 =>
  ck (rgI r3) <|
  ck (rgI r4) <|
  (if r4 ≤ r3 then
  some (0, x1, (x2 + 1), M)
  else
  (f_Po_isBeatingSet E M x2).bind fun r7 =>
  ck (rgI r7) <|
  (if r7 = 0 then
  some (0, x1, (x2 + 1), M)
  else
  some (0, x2, (x2 + 1), M))))
def l_Po_smallestBeatingSet_11 (E : Ev) : Nat → Mm → Int → Int → Option (Nat × Int × Int × Mm)
  | 0, _, _, _ => none
  | fu + 1, M, x1, x2 => (Po_smallestBeatingSet_11b E M x1 x2).bind fun (t, w1, w2, N) => if t = 0 then l_Po_smallestBeatingSet_11 E fu N w1 w2 else some (t, w1, w2, N)
def f_Po_smallestBeatingSet (E : Ev) (M : Mm) : Option (Int × Mm) :=
  (f_Po_findBeaten E M).bind fun M0 =>
  (l_Po_smallestBeatingSet_11 E FU M0 (M0 41 1) 1).bind fun (t9, v9_1, v9_2, M9) =>
  ck (t9 = 1) <|
  some (v9_1, M9)
def f_B_beatingSet (E : Ev) (M : Mm) : Option (Int × Mm) :=
  (f_Bx_everybody E M).bind fun r0 =>
  (f_Po_open E M r0).bind fun M1 =>
  (f_Po_smallestBeatingSet E M1).bind fun (r2, M2) =>
  some (r2, M2)
def La_way_D0_6b (E : Ev) (M : Mm) (q0 : Nat) (x1 : Int) (x2 : Int) (x3 : Int) (x4 : Int) (x5 : Int) : Option (Nat × Int × Int) :=
  ck (isQ 6 E q0) <|
  ck (rgI x5) <|
  ck (rgI ((tE E q0).2 : Int)) <|
  (if ((tE E q0).2 : Int) ≤ x5 then
  some (2, x4, x5)
  else
  ck (rgI x3) <|
  ck (shI x5) <|
  (if ((x3 / 2 ^ x5.toNat) % 2) = 1 then
  some (0, x4, (x5 + 1))
  else
  ck (inb x1 (tE E q0).2) <|
  (rE E q0 x1.toNat).bind fun p5 =>
  ck (isIA E p5) <|
  ck (inb x5 (tE E p5).2) <|
  ck (inb x5 (tE E q0).2) <|
  (rE E q0 x5.toNat).bind fun p8 =>
  ck (isIA E p8) <|
  ck (inb x1 (tE E p8).2) <|
  ck (rgI (M p5 x5.toNat)) <|
  ck (rgI (M p8 x1.toNat)) <|
  (if (M p8 x1.toNat) < (M p5 x5.toNat) then
  ck (rgI x2) <|
  (if x5 = x2 then
  (rE E q0 x1.toNat).bind fun p13 =>
  ck (isIA E p13) <|
  ck (inb x5 (tE E p13).2) <|
  ck (rgI x4) <|
  ck (rgI (M p13 x5.toNat)) <|
  some (0, (max x4 (M p13 x5.toNat)), (x5 + 1))
  else
  some (1, x4, x5))
  else
  some (0, x4, (x5 + 1)))))
def l_La_way_D0_6 (E : Ev) (q0 : Nat) (x1 : Int) (x2 : Int) (x3 : Int) : Nat → Mm → Int → Int → Option (Nat × Int × Int)
  | 0, _, _, _ => none
  | fu + 1, M, x4, x5 => (La_way_D0_6b E M q0 x1 x2 x3 x4 x5).bind fun (t, w4, w5) => if t = 0 then l_La_way_D0_6 E q0 x1 x2 x3 fu M w4 w5 else some (t, w4, w5)
def f_La_way_D0 (E : Ev) (M : Mm) (p0 : Nat) (x1 : Int) (x2 : Int) (x3 : Int) : Option Int :=
  ck (isQ 6 E p0) <|
  (l_La_way_D0_6 E p0 x1 x2 x3 FU M 0 0).bind fun (t17, v17_4, v17_5) =>
  (if t17 = 1 then
  ck (inb x1 (tE E p0).2) <|
  (rE E p0 x1.toNat).bind fun p19 =>
  ck (isIA E p19) <|
  ck (inb v17_5 (tE E p19).2) <|
  ck (shI v17_5) <|
  ck (nnI x3) <|
  ck (nnI (2 ^ v17_5.toNat)) <|
  none
  else (if t17 = 2 then
  some v17_4
  else none))
def La_way_D1_j78 (E : Ev) (M : Mm) (q0 : Nat) (x1 : Int) (x2 : Int) (x3 : Int) (x4 : Int) (x5 : Int) (y0 : Int) : Option (Nat × Int × Int) :=
  ck (isQ 6 E q0) <|
  ck (rgI x4) <|
  ck (rgI y0) <|
  some (0, (max x4 y0), (x5 + 1))
def La_way_D1_6b (E : Ev) (M : Mm) (q0 : Nat) (x1 : Int) (x2 : Int) (x3 : Int) (x4 : Int) (x5 : Int) : Option (Nat × Int × Int) :=
  ck (isQ 6 E q0) <|
  ck (rgI x5) <|
  ck (rgI ((tE E q0).2 : Int)) <|
  (if ((tE E q0).2 : Int) ≤ x5 then
  some (1, x4, x5)
  else
  ck (rgI x3) <|
  ck (shI x5) <|
  (if ((x3 / 2 ^ x5.toNat) % 2) = 1 then
  some (0, x4, (x5 + 1))
  else
  ck (inb x1 (tE E q0).2) <|
  (rE E q0 x1.toNat).bind fun p5 =>
  ck (isIA E p5) <|
  ck (inb x5 (tE E p5).2) <|
  ck (inb x5 (tE E q0).2) <|
  (rE E q0 x5.toNat).bind fun p8 =>
  ck (isIA E p8) <|
  ck (inb x1 (tE E p8).2) <|
  ck (rgI (M p5 x5.toNat)) <|
  ck (rgI (M p8 x1.toNat)) <|
  (if (M p8 x1.toNat) < (M p5 x5.toNat) then
  ck (rgI x2) <|
  (if x5 = x2 then
  (rE E q0 x1.toNat).bind fun p23 =>
  ck (isIA E p23) <|
  ck (inb x5 (tE E p23).2) <|
  La_way_D1_j78 E M q0 x1 x2 x3 x4 x5 (M p23 x5.toNat)
  else
  (rE E q0 x1.toNat).bind fun p13 =>
  ck (isIA E p13) <|
  ck (inb x5 (tE E p13).2) <|
  ck (shI x5) <|
  ck (nnI x3) <|
  ck (nnI (2 ^ x5.toNat)) <|
  (f_La_way_D0 E M q0 x5 x2 (orI x3 (2 ^ x5.toNat))).bind fun r18 =>
  ck (rgI (M p13 x5.toNat)) <|
  ck (rgI r18) <|
  La_way_D1_j78 E M q0 x1 x2 x3 x4 x5 (min (M p13 x5.toNat) r18))
  else
  some (0, x4, (x5 + 1)))))
def l_La_way_D1_6 (E : Ev) (q0 : Nat) (x1 : Int) (x2 : Int) (x3 : Int) : Nat → Mm → Int → Int → Option (Nat × Int × Int)
  | 0, _, _, _ => none
  | fu + 1, M, x4, x5 => (La_way_D1_6b E M q0 x1 x2 x3 x4 x5).bind fun (t, w4, w5) => if t = 0 then l_La_way_D1_6 E q0 x1 x2 x3 fu M w4 w5 else some (t, w4, w5)
def f_La_way_D1 (E : Ev) (M : Mm) (p0 : Nat) (x1 : Int) (x2 : Int) (x3 : Int) : Option Int :=
  ck (isQ 6 E p0) <|
  (l_La_way_D1_6 E p0 x1 x2 x3 FU M 0 0).bind fun (t25, v25_4, v25_5) =>
  ck (t25 = 1) <|
  some v25_4
def La_way_D2_j78 (E : Ev) (M : Mm) (q0 : Nat) (x1 : Int) (x2 : Int) (x3 : Int) (x4 : Int) (x5 : Int) (y0 : Int) : Option (Nat × Int × Int) :=
  ck (isQ 6 E q0) <|
  ck (rgI x4) <|
  ck (rgI y0) <|
  some (0, (max x4 y0), (x5 + 1))
def La_way_D2_6b (E : Ev) (M : Mm) (q0 : Nat) (x1 : Int) (x2 : Int) (x3 : Int) (x4 : Int) (x5 : Int) : Option (Nat × Int × Int) :=
  ck (isQ 6 E q0) <|
  ck (rgI x5) <|
  ck (rgI ((tE E q0).2 : Int)) <|
  (if ((tE E q0).2 : Int) ≤ x5 then
  some (1, x4, x5)
  else
  ck (rgI x3) <|
  ck (shI x5) <|
  (if ((x3 / 2 ^ x5.toNat) % 2) = 1 then
  some (0, x4, (x5 + 1))
  else
  ck (inb x1 (tE E q0).2) <|
  (rE E q0 x1.toNat).bind fun p5 =>
  ck (isIA E p5) <|
  ck (inb x5 (tE E p5).2) <|
  ck (inb x5 (tE E q0).2) <|
  (rE E q0 x5.toNat).bind fun p8 =>
  ck (isIA E p8) <|
  ck (inb x1 (tE E p8).2) <|
  ck (rgI (M p5 x5.toNat)) <|
  ck (rgI (M p8 x1.toNat)) <|
  (if (M p8 x1.toNat) < (M p5 x5.toNat) then
  ck (rgI x2) <|
  (if x5 = x2 then
  (rE E q0 x1.toNat).bind fun p23 =>
  ck (isIA E p23) <|
  ck (inb x5 (tE E p23).2) <|
  La_way_D2_j78 E M q0 x1 x2 x3 x4 x5 (M p23 x5.toNat)
  else
  (rE E q0 x1.toNat).bind fun p13 =>
  ck (isIA E p13) <|
  ck (inb x5 (tE E p13).2) <|
  ck (shI x5) <|
  ck (nnI x3) <|
  ck (nnI (2 ^ x5.toNat)) <|
  (f_La_way_D1 E M q0 x5 x2 (orI x3 (2 ^ x5.toNat))).bind fun r18 =>
  ck (rgI (M p13 x5.toNat)) <|
  ck (rgI r18) <|
  La_way_D2_j78 E M q0 x1 x2 x3 x4 x5 (min (M p13 x5.toNat) r18))
  else
  some (0, x4, (x5 + 1)))))
def l_La_way_D2_6 (E : Ev) (q0 : Nat) (x1 : Int) (x2 : Int) (x3 : Int) : Nat → Mm → Int → Int → Option (Nat × Int × Int)
  | 0, _, _, _ => none
  | fu + 1, M, x4, x5 => (La_way_D2_6b E M q0 x1 x2 x3 x4 x5).bind fun (t, w4, w5) => if t = 0 then l_La_way_D2_6 E q0 x1 x2 x3 fu M w4 w5 else some (t, w4, w5)
def f_La_way_D2 (E : Ev) (M : Mm) (p0 : Nat) (x1 : Int) (x2 : Int) (x3 : Int) : Option Int :=
  ck (isQ 6 E p0) <|
  (l_La_way_D2_6 E p0 x1 x2 x3 FU M 0 0).bind fun (t25, v25_4, v25_5) =>
  ck (t25 = 1) <|
  some v25_4
def La_way_D3_j78 (E : Ev) (M : Mm) (q0 : Nat) (x1 : Int) (x2 : Int) (x3 : Int) (x4 : Int) (x5 : Int) (y0 : Int) : Option (Nat × Int × Int) :=
  ck (isQ 6 E q0) <|
  ck (rgI x4) <|
  ck (rgI y0) <|
  some (0, (max x4 y0), (x5 + 1))
def La_way_D3_6b (E : Ev) (M : Mm) (q0 : Nat) (x1 : Int) (x2 : Int) (x3 : Int) (x4 : Int) (x5 : Int) : Option (Nat × Int × Int) :=
  ck (isQ 6 E q0) <|
  ck (rgI x5) <|
  ck (rgI ((tE E q0).2 : Int)) <|
  (if ((tE E q0).2 : Int) ≤ x5 then
  some (1, x4, x5)
  else
  ck (rgI x3) <|
  ck (shI x5) <|
  (if ((x3 / 2 ^ x5.toNat) % 2) = 1 then
  some (0, x4, (x5 + 1))
  else
  ck (inb x1 (tE E q0).2) <|
  (rE E q0 x1.toNat).bind fun p5 =>
  ck (isIA E p5) <|
  ck (inb x5 (tE E p5).2) <|
  ck (inb x5 (tE E q0).2) <|
  (rE E q0 x5.toNat).bind fun p8 =>
  ck (isIA E p8) <|
  ck (inb x1 (tE E p8).2) <|
  ck (rgI (M p5 x5.toNat)) <|
  ck (rgI (M p8 x1.toNat)) <|
  (if (M p8 x1.toNat) < (M p5 x5.toNat) then
  ck (rgI x2) <|
  (if x5 = x2 then
  (rE E q0 x1.toNat).bind fun p23 =>
  ck (isIA E p23) <|
  ck (inb x5 (tE E p23).2) <|
  La_way_D3_j78 E M q0 x1 x2 x3 x4 x5 (M p23 x5.toNat)
  else
  (rE E q0 x1.toNat).bind fun p13 =>
  ck (isIA E p13) <|
  ck (inb x5 (tE E p13).2) <|
  ck (shI x5) <|
  ck (nnI x3) <|
  ck (nnI (2 ^ x5.toNat)) <|
  (f_La_way_D2 E M q0 x5 x2 (orI x3 (2 ^ x5.toNat))).bind fun r18 =>
  ck (rgI (M p13 x5.toNat)) <|
  ck (rgI r18) <|
  La_way_D3_j78 E M q0 x1 x2 x3 x4 x5 (min (M p13 x5.toNat) r18))
  else
  some (0, x4, (x5 + 1)))))
def l_La_way_D3_6 (E : Ev) (q0 : Nat) (x1 : Int) (x2 : Int) (x3 : Int) : Nat → Mm → Int → Int → Option (Nat × Int × Int)
  | 0, _, _, _ => none
  | fu + 1, M, x4, x5 => (La_way_D3_6b E M q0 x1 x2 x3 x4 x5).bind fun (t, w4, w5) => if t = 0 then l_La_way_D3_6 E q0 x1 x2 x3 fu M w4 w5 else some (t, w4, w5)
def f_La_way_D3 (E : Ev) (M : Mm) (p0 : Nat) (x1 : Int) (x2 : Int) (x3 : Int) : Option Int :=
  ck (isQ 6 E p0) <|
  (l_La_way_D3_6 E p0 x1 x2 x3 FU M 0 0).bind fun (t25, v25_4, v25_5) =>
  ck (t25 = 1) <|
  some v25_4
def f_Po_path (E : Ev) (M : Mm) (x1 : Int) (x2 : Int) : Option Int :=
  ck (inb ((x1 * 8) + x2) 64) <|
  some (M 47 ((x1 * 8) + x2).toNat)
def Po_widenPaths_10b (E : Ev) (M : Mm) (x1 : Int) (x2 : Int) (x3 : Int) (x4 : Int) : Option (Nat × Int × Mm) :=
  ck (rgI x4) <|
  ck (rgI (M 2 2)) <|
  (if (M 2 2) ≤ x4 then
  some (1, x4, M)
  else
  (f_Po_path E M x2 x4).bind fun r3 =>
  ck (rgI x3) <|
  ck (rgI r3) <|
  ck (rgI x1) <|
  (if x4 = x1 then
  some (0, (x4 + 1), M)
  else
  (f_Po_path E M x1 x4).bind fun r7 =>
  ck (rgI r7) <|
  (if (min x3 r3) ≤ r7 then
  some (0, (x4 + 1), M)
  else
  ck (inb ((x1 * 8) + x4) 64) <|
  some (0, (x4 + 1), (u2 M 47 ((x1 * 8) + x4).toNat (min x3 r3))))))
def l_Po_widenPaths_10 (E : Ev) (x1 : Int) (x2 : Int) (x3 : Int) : Nat → Mm → Int → Option (Nat × Int × Mm)
  | 0, _, _ => none
  | fu + 1, M, x4 => (Po_widenPaths_10b E M x1 x2 x3 x4).bind fun (t, w4, N) => if t = 0 then l_Po_widenPaths_10 E x1 x2 x3 fu N w4 else some (t, w4, N)
def f_Po_widenPaths (E : Ev) (M : Mm) (x1 : Int) (x2 : Int) : Option Mm :=
  (f_Po_path E M x1 x2).bind fun r0 =>
  (l_Po_widenPaths_10 E x1 x2 r0 FU M 0).bind fun (t10, v10_4, M10) =>
  ck (t10 = 1) <|
  some M10
def Po_findPaths_j55 (E : Ev) (M : Mm) (x1 : Int) (x2 : Int) (y0 : Int) (y1 : Int) (y2 : Nat) : Option (Nat × Int × Mm) :=
  ck (isIA E y2) <|
  ck (inb y1 (tE E y2).2) <|
  some (0, (x2 + 1), (u2 M y2 y1.toNat y0))
def Po_findPaths_15b (E : Ev) (M : Mm) (x1 : Int) (x2 : Int) : Option (Nat × Int × Mm) :=
  ck (rgI x2) <|
  ck (rgI (M 2 2)) <|
  (if (M 2 2) ≤ x2 then
  some (1, x2, M)
  else
  (f_Po_beats E M x1 x2).bind fun r4 =>
  ck (rgI r4) <|
  (if r4 = 0 then
  Po_findPaths_j55 E M x1 x2 0 ((x1 * 8) + x2) 47
  else
  (f_Po_pair E M x1 x2).bind fun r7 =>
  Po_findPaths_j55 E M x1 x2 r7 ((x1 * 8) + x2) 47))
def l_Po_findPaths_15 (E : Ev) (x1 : Int) : Nat → Mm → Int → Option (Nat × Int × Mm)
  | 0, _, _ => none
  | fu + 1, M, x2 => (Po_findPaths_15b E M x1 x2).bind fun (t, w2, N) => if t = 0 then l_Po_findPaths_15 E x1 fu N w2 else some (t, w2, N)
def Po_findPaths_2b (E : Ev) (M : Mm) (x1 : Int) : Option (Nat × Int × Mm) :=
  ck (rgI x1) <|
  ck (rgI (M 2 2)) <|
  (if (M 2 2) ≤ x1 then
  some (1, x1, M)
  else
  (l_Po_findPaths_15 E x1 FU M 0).bind fun (t8, v8_2, M8) =>
  ck (t8 = 1) <|
  some (0, (x1 + 1), M8))
def l_Po_findPaths_2 (E : Ev) : Nat → Mm → Int → Option (Nat × Int × Mm)
  | 0, _, _ => none
  | fu + 1, M, x1 => (Po_findPaths_2b E M x1).bind fun (t, w1, N) => if t = 0 then l_Po_findPaths_2 E fu N w1 else some (t, w1, N)
def Po_findPaths_83b (E : Ev) (M : Mm) (x1 : Int) (x2 : Int) : Option (Nat × Int × Mm) :=
  ck (rgI x2) <|
  ck (rgI (M 2 2)) <|
  (if (M 2 2) ≤ x2 then
  some (1, x2, M)
  else
  ck (rgI x1) <|
  (if x2 = x1 then
  some (0, (x2 + 1), M)
  else
  (f_Po_path E M x2 x1).bind fun r15 =>
  ck (rgI r15) <|
  (if r15 ≤ 0 then
  some (0, (x2 + 1), M)
  else
  (f_Po_widenPaths E M x2 x1).bind fun M17 =>
  some (0, (x2 + 1), M17))))
def l_Po_findPaths_83 (E : Ev) (x1 : Int) : Nat → Mm → Int → Option (Nat × Int × Mm)
  | 0, _, _ => none
  | fu + 1, M, x2 => (Po_findPaths_83b E M x1 x2).bind fun (t, w2, N) => if t = 0 then l_Po_findPaths_83 E x1 fu N w2 else some (t, w2, N)
def Po_findPaths_70b (E : Ev) (M : Mm) (x1 : Int) : Option (Nat × Int × Mm) :=
  ck (rgI x1) <|
  ck (rgI (M 2 2)) <|
  (if (M 2 2) ≤ x1 then
  some (1, x1, M)
  else
  (l_Po_findPaths_83 E x1 FU M 0).bind fun (t18, v18_2, M18) =>
  ck (t18 = 1) <|
  some (0, (x1 + 1), M18))
def l_Po_findPaths_70 (E : Ev) : Nat → Mm → Int → Option (Nat × Int × Mm)
  | 0, _, _ => none
  | fu + 1, M, x1 => (Po_findPaths_70b E M x1).bind fun (t, w1, N) => if t = 0 then l_Po_findPaths_70 E fu N w1 else some (t, w1, N)
def f_Po_findPaths (E : Ev) (M : Mm) : Option Mm :=
  (l_Po_findPaths_2 E FU M 0).bind fun (t9, v9_1, M9) =>
  ck (t9 = 1) <|
  (l_Po_findPaths_70 E FU M9 0).bind fun (t19, v19_1, M19) =>
  ck (t19 = 1) <|
  some M19
def f_B_strongestPath (E : Ev) (M : Mm) (x1 : Int) (x2 : Int) : Option (Int × Mm) :=
  (f_B_needIndex E M x1 (M 2 2)).bind fun _u =>
  (f_B_needIndex E M x2 (M 2 2)).bind fun _u =>
  (f_Bx_everybody E M).bind fun r2 =>
  (f_Po_open E M r2).bind fun M3 =>
  (f_Po_findPaths E M3).bind fun M4 =>
  (f_Po_path E M4 x1 x2).bind fun r5 =>
  some (r5, M4)
def Po_beaterOfAll_6b (E : Ev) (M : Mm) (x1 : Int) : Option (Nat × Int × Mm) :=
  ck (rgI x1) <|
  ck (rgI (M 2 2)) <|
  (if (M 2 2) ≤ x1 then
  some (2, x1, M)
  else
  ck (inb x1 8) <|
  ck (shI x1) <|
  ck (nnI (M 41 1)) <|
  ck (nnI (2 ^ x1.toNat)) <|
  ck (rgI (M 46 x1.toNat)) <|
  (if (M 46 x1.toNat) = (dfI (M 41 1) (2 ^ x1.toNat)) then
  some (1, x1, M)
  else
  some (0, (x1 + 1), M)))
def l_Po_beaterOfAll_6 (E : Ev) : Nat → Mm → Int → Option (Nat × Int × Mm)
  | 0, _, _ => none
  | fu + 1, M, x1 => (Po_beaterOfAll_6b E M x1).bind fun (t, w1, N) => if t = 0 then l_Po_beaterOfAll_6 E fu N w1 else some (t, w1, N)
def f_Po_beaterOfAll (E : Ev) (M : Mm) : Option (Int × Mm) :=
  (f_Po_findBeaten E M).bind fun M0 =>
  (l_Po_beaterOfAll_6 E FU M0 0).bind fun (t8, v8_1, M8) =>
  (if t8 = 1 then
  some (v8_1, M8)
  else (if t8 = 2 then
  some ((-1), M8)
  else none))
def f_B_beatsAll (E : Ev) (M : Mm) : Option (Int × Mm) :=
  (f_Bx_everybody E M).bind fun r0 =>
  (f_Po_open E M r0).bind fun M1 =>
  (f_Po_beaterOfAll E M1).bind fun (r2, M2) =>
  some (r2, M2)
def f_B_needPlace (E : Ev) (M : Mm) (x0 : Int) (x1 : Int) : Option Unit :=
  ck (rgI x0) <|
  (if x0 < 0 then
  none
  else
  ck (rgI x1) <|
  (if x0 < x1 then
  some ()
  else
  none))
def Po_distanceWithFirst_19b (E : Ev) (M : Mm) (x2 : Int) (x3 : Int) (x4 : Int) (x6 : Int) : Option (Nat × Int × Int) :=
  ck (rgI x6) <|
  ck (rgI (M 2 2)) <|
  (if (M 2 2) ≤ x6 then
  some (1, x4, x6)
  else
  (f_B_has E M x3 x6).bind fun r7 =>
  ck (rgI r7) <|
  (if r7 = 0 then
  some (0, x4, (x6 + 1))
  else
  (f_Po_pair E M x6 x2).bind fun r9 =>
  ck (rgI r9) <|
  some (0, (x4 + r9), (x6 + 1))))
def l_Po_distanceWithFirst_19 (E : Ev) (x2 : Int) (x3 : Int) : Nat → Mm → Int → Int → Option (Nat × Int × Int)
  | 0, _, _, _ => none
  | fu + 1, M, x4, x6 => (Po_distanceWithFirst_19b E M x2 x3 x4 x6).bind fun (t, w4, w6) => if t = 0 then l_Po_distanceWithFirst_19 E x2 x3 fu M w4 w6 else some (t, w4, w6)
def f_Po_distanceWithFirst (E : Ev) (M : Mm) (x1 : Int) (x2 : Int) : Option Int :=
  ck (shI x2) <|
  ck (nnI x1) <|
  ck (nnI (2 ^ x2.toNat)) <|
  ck (inb (dfI x1 (2 ^ x2.toNat)) 256) <|
  nb ((M 50 (dfI x1 (2 ^ x2.toNat)).toNat)) fun (v4 : Int) =>
  (l_Po_distanceWithFirst_19 E x2 (dfI x1 (2 ^ x2.toNat)) FU M v4 0).bind fun (t11, v11_4, v11_6) =>
  ck (t11 = 1) <|
  some v11_4
def Po_findDistances_24b (E : Ev) (M : Mm) (x1 : Int) (x2 : Int) (x4 : Int) : Option (Nat × Int × Int × Mm) :=
  ck (rgI x4) <|
  ck (rgI (M 2 2)) <|
  (if (M 2 2) ≤ x4 then
  some (1, x2, x4, M)
  else
  (f_B_has E M x1 x4).bind fun r4 =>
  ck (rgI r4) <|
  (if r4 = 0 then
  some (0, x2, (x4 + 1), M)
  else
  (f_Po_distanceWithFirst E M x1 x4).bind fun r6 =>
  ck (rgJ x2) <|
  (if x2 = (-1) then
  some (0, r6, (x4 + 1), M)
  else
  ck (rgJ r6) <|
  some (0, (min x2 r6), (x4 + 1), M))))
def l_Po_findDistances_24 (E : Ev) (x1 : Int) : Nat → Mm → Int → Int → Option (Nat × Int × Int × Mm)
  | 0, _, _, _ => none
  | fu + 1, M, x2, x4 => (Po_findDistances_24b E M x1 x2 x4).bind fun (t, w2, w4, N) => if t = 0 then l_Po_findDistances_24 E x1 fu N w2 w4 else some (t, w2, w4, N)
def Po_findDistances_9b (E : Ev) (M : Mm) (x1 : Int) : Option (Nat × Int × Mm) :=
  ck (rgI x1) <|
  ck (rgI (M 41 1)) <|
  (if (M 41 1) < x1 then
  some (1, x1, M)
  else
  (l_Po_findDistances_24 E x1 FU M (-1) 0).bind fun (t9, v9_2, v9_4, M9) =>
  ck (t9 = 1) <|
  ck (inb x1 256) <|
  some (0, (x1 + 1), (u2 M9 50 x1.toNat v9_2)))
def l_Po_findDistances_9 (E : Ev) : Nat → Mm → Int → Option (Nat × Int × Mm)
  | 0, _, _ => none
  | fu + 1, M, x1 => (Po_findDistances_9b E M x1).bind fun (t, w1, N) => if t = 0 then l_Po_findDistances_9 E fu N w1 else some (t, w1, N)
def f_Po_findDistances (E : Ev) (M : Mm) : Option Mm :=
  (l_Po_findDistances_9 E FU (u2 M 50 0 0) 1).bind fun (t11, v11_1, M11) =>
  ck (t11 = 1) <|
  some M11
def Po_firstOfConsensus_2b (E : Ev) (M : Mm) (x1 : Int) (x2 : Int) : Option (Nat × Int) :=
  ck (rgI x2) <|
  ck (rgI (M 2 2)) <|
  (if (M 2 2) ≤ x2 then
  some (2, x2)
  else
  (f_B_has E M x1 x2).bind fun r2 =>
  ck (rgI r2) <|
  (if r2 = 0 then
  some (0, (x2 + 1))
  else
  (f_Po_distanceWithFirst E M x1 x2).bind fun r4 =>
  ck (inb x1 256) <|
  ck (rgJ r4) <|
  ck (rgJ (M 50 x1.toNat)) <|
  (if r4 = (M 50 x1.toNat) then
  some (1, x2)
  else
  some (0, (x2 + 1)))))
def l_Po_firstOfConsensus_2 (E : Ev) (x1 : Int) : Nat → Mm → Int → Option (Nat × Int)
  | 0, _, _ => none
  | fu + 1, M, x2 => (Po_firstOfConsensus_2b E M x1 x2).bind fun (t, w2) => if t = 0 then l_Po_firstOfConsensus_2 E x1 fu M w2 else some (t, w2)
def f_Po_firstOfConsensus (E : Ev) (M : Mm) (x1 : Int) : Option Int :=
  (l_Po_firstOfConsensus_2 E x1 FU M 0).bind fun (t8, v8_2) =>
  (if t8 = 1 then
  some v8_2
  else (if t8 = 2 then
  some 0
  else none))
def Po_consensusPlace_10b (E : Ev) (M : Mm) (x1 : Int) (x2 : Int) (x3 : Int) (x4 : Int) : Option (Nat × Int × Int × Int) :=
  ck (rgI x4) <|
  ck (rgI x1) <|
  (if x1 < x4 then
  some (1, x2, x3, x4)
  else
  ck (rgI x2) <|
  (if x2 = 0 then
  some (1, x2, x3, x4)
  else
  (f_Po_firstOfConsensus E M x2).bind fun r3 =>
  ck (shI r3) <|
  ck (nnI x2) <|
  ck (nnI (2 ^ r3.toNat)) <|
  some (0, (dfI x2 (2 ^ r3.toNat)), r3, (x4 + 1))))
def l_Po_consensusPlace_10 (E : Ev) (x1 : Int) : Nat → Mm → Int → Int → Int → Option (Nat × Int × Int × Int)
  | 0, _, _, _, _ => none
  | fu + 1, M, x2, x3, x4 => (Po_consensusPlace_10b E M x1 x2 x3 x4).bind fun (t, w2, w3, w4) => if t = 0 then l_Po_consensusPlace_10 E x1 fu M w2 w3 w4 else some (t, w2, w3, w4)
def f_Po_consensusPlace (E : Ev) (M : Mm) (x1 : Int) : Option Int :=
  (l_Po_consensusPlace_10 E x1 FU M (M 41 1) (-1) 0).bind fun (t7, v7_2, v7_3, v7_4) =>
  ck (t7 = 1) <|
  some v7_3
def f_B_consensusAt (E : Ev) (M : Mm) (x1 : Int) : Option (Int × Mm) :=
  (f_B_needPlace E M x1 (M 2 2)).bind fun _u =>
  (f_Bx_everybody E M).bind fun r1 =>
  (f_Po_open E M r1).bind fun M2 =>
  (f_Po_findDistances E M2).bind fun M3 =>
  (f_Po_consensusPlace E M3 x1).bind fun r4 =>
  some (r4, M3)
def Po_winnersByPaths_24b (E : Ev) (M : Mm) (x2 : Int) (x1 : Int) (x3 : Int) : Option (Nat × Int × Int × Mm) :=
  ck (rgI x3) <|
  ck (rgI (M 2 2)) <|
  (if (M 2 2) ≤ x3 then
  some (1, x1, x3, M)
  else
  (f_Po_path E M x3 x2).bind fun r5 =>
  (f_Po_path E M x2 x3).bind fun r6 =>
  ck (rgI r5) <|
  ck (rgI r6) <|
  (if r5 ≤ r6 then
  some (0, x1, (x3 + 1), M)
  else
  ck (shI x2) <|
  ck (nnI x1) <|
  ck (nnI (2 ^ x2.toNat)) <|
  some (0, (dfI x1 (2 ^ x2.toNat)), (x3 + 1), M)))
def l_Po_winnersByPaths_24 (E : Ev) (x2 : Int) : Nat → Mm → Int → Int → Option (Nat × Int × Int × Mm)
  | 0, _, _, _ => none
  | fu + 1, M, x1, x3 => (Po_winnersByPaths_24b E M x2 x1 x3).bind fun (t, w1, w3, N) => if t = 0 then l_Po_winnersByPaths_24 E x2 fu N w1 w3 else some (t, w1, w3, N)
def Po_winnersByPaths_11b (E : Ev) (M : Mm) (x1 : Int) (x2 : Int) : Option (Nat × Int × Int × Mm) :=
  ck (rgI x2) <|
  ck (rgI (M 2 2)) <|
  (if (M 2 2) ≤ x2 then
  some (1, x1, x2, M)
  else
  (l_Po_winnersByPaths_24 E x2 FU M x1 0).bind fun (t12, v12_1, v12_3, M12) =>
  ck (t12 = 1) <|
  some (0, v12_1, (x2 + 1), M12))
def l_Po_winnersByPaths_11 (E : Ev) : Nat → Mm → Int → Int → Option (Nat × Int × Int × Mm)
  | 0, _, _, _ => none
  | fu + 1, M, x1, x2 => (Po_winnersByPaths_11b E M x1 x2).bind fun (t, w1, w2, N) => if t = 0 then l_Po_winnersByPaths_11 E fu N w1 w2 else some (t, w1, w2, N)
def f_Po_winnersByPaths (E : Ev) (M : Mm) : Option (Int × Mm) :=
  (f_Po_findPaths E M).bind fun M0 =>
  (l_Po_winnersByPaths_11 E FU M0 (M0 41 1) 0).bind fun (t13, v13_1, v13_2, M13) =>
  ck (t13 = 1) <|
  some (v13_1, M13)
def f_B_pathWinners (E : Ev) (M : Mm) : Option (Int × Mm) :=
  (f_Bx_everybody E M).bind fun r0 =>
  (f_Po_open E M r0).bind fun M1 =>
  (f_Po_winnersByPaths E M1).bind fun (r2, M2) =>
  some (r2, M2)
def f_B_consensusDistance (E : Ev) (M : Mm) : Option (Int × Mm) :=
  (f_Bx_everybody E M).bind fun r0 =>
  (f_Po_open E M r0).bind fun M1 =>
  (f_Po_findDistances E M1).bind fun M2 =>
  (f_Bx_everybody E M2).bind fun r3 =>
  ck (inb r3 256) <|
  some ((M2 50 r3.toNat), M2)
def La_pairs_j64 (E : Ev) (M : Mm) (q1 : Nat) (q2 : Nat) (x3 : Int) (x4 : Int) (x5 : Int) (y0 : Int) (y1 : Int) (y2 : Nat) : Option (Nat × Int × Int × Ev × Mm) :=
  ck (Lay E) <|
  ck (isO 12 E q1) <|
  ck (isQ 6 E q2) <|
  ck (isIA E y2) <|
  ck (inb y1 (tE E y2).2) <|
  ck (rgI x3) <|
  (if x3 = 0 then
  some (0, 0, (x5 + 1), E, (u2 M y2 y1.toNat y0))
  else
  (f_B_ahead E (u2 M y2 y1.toNat y0) x4 x5).bind fun (r12, M12) =>
  ck (inb x4 (tE E q2).2) <|
  (rE E q2 x4.toNat).bind fun p14 =>
  ck (isIA E p14) <|
  ck (inb x5 (tE E p14).2) <|
  ck (rgI r12) <|
  ck (rgI (M12 p14 x5.toNat)) <|
  (if r12 = (M12 p14 x5.toNat) then
  some (0, 1, (x5 + 1), E, M12)
  else
  some (0, 0, (x5 + 1), E, M12)))
def La_pairs_30b (E : Ev) (M : Mm) (q1 : Nat) (q2 : Nat) (x4 : Int) (x3 : Int) (x5 : Int) : Option (Nat × Int × Int × Ev × Mm) :=
  ck (Lay E) <|
  ck (isO 12 E q1) <|
  ck (isQ 6 E q2) <|
  ck (rgI x5) <|
  ck (rgI (M q1 0)) <|
  (if (M q1 0) ≤ x5 then
  some (1, x3, x5, E, M)
  else
  ck (inb x4 (tE E q2).2) <|
  (rE E q2 x4.toNat).bind fun p8 =>
  ck (isIA E p8) <|
  (if x4 = x5 then
  La_pairs_j64 E M q1 q2 x3 x4 x5 0 x5 p8
  else
  (f_Lb_ahead E M q1 x4 x5).bind fun r9 =>
  La_pairs_j64 E M q1 q2 x3 x4 x5 r9 x5 p8))
def l_La_pairs_30 (q1 : Nat) (q2 : Nat) (x4 : Int) : Nat → Ev → Mm → Int → Int → Option (Nat × Int × Int × Ev × Mm)
  | 0, _, _, _, _ => none
  | fu + 1, E, M, x3, x5 => (La_pairs_30b E M q1 q2 x4 x3 x5).bind fun (t, w3, w5, F, N) => if t = 0 then l_La_pairs_30 q1 q2 x4 fu F N w3 w5 else some (t, w3, w5, F, N)
def La_pairs_18b (E : Ev) (M : Mm) (q1 : Nat) (q2 : Nat) (x3 : Int) (x4 : Int) : Option (Nat × Int × Int × Ev × Mm) :=
  ck (Lay E) <|
  ck (isO 12 E q1) <|
  ck (isQ 6 E q2) <|
  ck (rgI x4) <|
  ck (rgI (M q1 0)) <|
  (if (M q1 0) ≤ x4 then
  some (1, x3, x4, E, M)
  else
  (l_La_pairs_30 q1 q2 x4 5000 E M x3 0).bind fun (t18, v18_3, v18_5, E18, M18) =>
  ck (Gw E E18) <|
  ck (Lay E18) <|
  ck (t18 = 1) <|
  some (0, v18_3, (x4 + 1), E18, M18))
def l_La_pairs_18 (q1 : Nat) (q2 : Nat) : Nat → Ev → Mm → Int → Int → Option (Nat × Int × Int × Ev × Mm)
  | 0, _, _, _, _ => none
  | fu + 1, E, M, x3, x4 => (La_pairs_18b E M q1 q2 x3 x4).bind fun (t, w3, w4, F, N) => if t = 0 then l_La_pairs_18 q1 q2 fu F N w3 w4 else some (t, w3, w4, F, N)
def La_pairs_j251 (E : Ev) (M : Mm) (q1 : Nat) (q2 : Nat) (x3 : Int) (x4 : Int) (x5 : Int) (x6 : Int) (x7 : Int) (x9 : Int) (y0 : Int) : Option (Nat × Int × Int × Int × Int × Ev × Mm) :=
  ck (Lay E) <|
  ck (isO 12 E q1) <|
  ck (isQ 6 E q2) <|
  ck (rgI x3) <|
  (if x3 = 0 then
  some (0, 0, x7, y0, (x9 + 1), E, M)
  else
  ck (rgI x4) <|
  ck (shI x6) <|
  (if ((x4 / 2 ^ x6.toNat) % 2) = 0 then
  some (0, 1, x7, y0, (x9 + 1), E, M)
  else
  ck (shI x9) <|
  (if ((x4 / 2 ^ x9.toNat) % 2) = 1 then
  some (0, 1, x7, y0, (x9 + 1), E, M)
  else
  ck (inb x6 (tE E q2).2) <|
  (rE E q2 x6.toNat).bind fun p41 =>
  ck (isIA E p41) <|
  ck (inb x9 (tE E p41).2) <|
  ck (inb x9 (tE E q2).2) <|
  (rE E q2 x9.toNat).bind fun p44 =>
  ck (isIA E p44) <|
  ck (inb x6 (tE E p44).2) <|
  ck (rgI (M p41 x9.toNat)) <|
  ck (rgI (M p44 x6.toNat)) <|
  (if (M p41 x9.toNat) ≤ (M p44 x6.toNat) then
  some (0, 0, x7, y0, (x9 + 1), E, M)
  else
  some (0, 1, x7, y0, (x9 + 1), E, M)))))
def La_pairs_j222 (E : Ev) (M : Mm) (q1 : Nat) (q2 : Nat) (x3 : Int) (x4 : Int) (x5 : Int) (x6 : Int) (x8 : Int) (x9 : Int) (y0 : Int) : Option (Nat × Int × Int × Int × Int × Ev × Mm) :=
  ck (Lay E) <|
  ck (isO 12 E q1) <|
  ck (isQ 6 E q2) <|
  ck (rgI x8) <|
  (if x8 = 0 then
  La_pairs_j251 E M q1 q2 x3 x4 x5 x6 y0 x9 0
  else
  ck (inb x6 (tE E q2).2) <|
  (rE E q2 x6.toNat).bind fun p49 =>
  ck (isIA E p49) <|
  ck (inb x9 (tE E p49).2) <|
  ck (inb x9 (tE E q2).2) <|
  (rE E q2 x9.toNat).bind fun p52 =>
  ck (isIA E p52) <|
  ck (inb x6 (tE E p52).2) <|
  ck (rgI (M p49 x9.toNat)) <|
  ck (rgI (M p52 x6.toNat)) <|
  (if (M p49 x9.toNat) ≤ (M p52 x6.toNat) then
  La_pairs_j251 E M q1 q2 x3 x4 x5 x6 y0 x9 0
  else
  La_pairs_j251 E M q1 q2 x3 x4 x5 x6 y0 x9 1))
def La_pairs_j204 (E : Ev) (M : Mm) (q1 : Nat) (q2 : Nat) (x4 : Int) (x5 : Int) (x6 : Int) (x7 : Int) (x8 : Int) (x9 : Int) (x10 : Int) (x11 : Int) (y0 : Int) : Option (Nat × Int × Int × Int × Int × Ev × Mm) :=
  ck (Lay E) <|
  ck (isO 12 E q1) <|
  ck (isQ 6 E q2) <|
  ck (rgI x7) <|
  (if x7 = 0 then
  La_pairs_j222 E M q1 q2 y0 x4 x5 x6 x8 x9 0
  else
  ck (rgI x10) <|
  ck (rgI x11) <|
  (if x10 < x11 then
  La_pairs_j222 E M q1 q2 y0 x4 x5 x6 x8 x9 0
  else
  La_pairs_j222 E M q1 q2 y0 x4 x5 x6 x8 x9 1))
def La_pairs_135b (E : Ev) (M : Mm) (q1 : Nat) (q2 : Nat) (x4 : Int) (x5 : Int) (x6 : Int) (x3 : Int) (x7 : Int) (x8 : Int) (x9 : Int) : Option (Nat × Int × Int × Int × Int × Ev × Mm) :=
  ck (Lay E) <|
  ck (isO 12 E q1) <|
  ck (isQ 6 E q2) <|
  ck (rgI x9) <|
  ck (rgI (M q1 0)) <|
  (if (M q1 0) ≤ x9 then
  some (1, x3, x7, x8, x9, E, M)
  else
  ck (rgI x3) <|
  (if x3 = 0 then
  some (1, x3, x7, x8, x9, E, M)
  else
  ck (rgI x6) <|
  (if x6 = x9 then
  some (0, x3, x7, x8, (x9 + 1), E, M)
  else
  ck (shI x6) <|
  (f_La_way_D3 E M q2 x6 x9 (2 ^ x6.toNat)).bind fun r28 =>
  ck (shI x9) <|
  (f_La_way_D3 E M q2 x9 x6 (2 ^ x9.toNat)).bind fun r30 =>
  (f_B_strongestPath E M x6 x9).bind fun (r31, M31) =>
  ck (rgI r31) <|
  ck (rgI r28) <|
  (if r31 = r28 then
  La_pairs_j204 E M31 q1 q2 x4 x5 x6 x7 x8 x9 r28 r30 1
  else
  La_pairs_j204 E M31 q1 q2 x4 x5 x6 x7 x8 x9 r28 r30 0))))
def l_La_pairs_135 (q1 : Nat) (q2 : Nat) (x4 : Int) (x5 : Int) (x6 : Int) : Nat → Ev → Mm → Int → Int → Int → Int → Option (Nat × Int × Int × Int × Int × Ev × Mm)
  | 0, _, _, _, _, _, _ => none
  | fu + 1, E, M, x3, x7, x8, x9 => (La_pairs_135b E M q1 q2 x4 x5 x6 x3 x7 x8 x9).bind fun (t, w3, w7, w8, w9, F, N) => if t = 0 then l_La_pairs_135 q1 q2 x4 x5 x6 fu F N w3 w7 w8 w9 else some (t, w3, w7, w8, w9, F, N)
def La_pairs_j345 (E : Ev) (M : Mm) (q1 : Nat) (q2 : Nat) (x4 : Int) (x5 : Int) (x6 : Int) (x8 : Int) (y0 : Int) (y1 : Int) : Option (Nat × Int × Int × Int × Ev × Mm) :=
  ck (Lay E) <|
  ck (isO 12 E q1) <|
  ck (isQ 6 E q2) <|
  ck (rgI y1) <|
  ck (rgI y0) <|
  (if y1 = y0 then
  ck (rgI x8) <|
  (if x8 = 0 then
  some (0, 1, x5, (x6 + 1), E, M)
  else
  ck (shI x6) <|
  ck (rgI x4) <|
  ck (rgI (2 ^ x6.toNat)) <|
  (if x4 = (2 ^ x6.toNat) then
  (f_B_consensusAt E M 0).bind fun (r72, M72) =>
  ck (rgI r72) <|
  (if r72 = x6 then
  some (0, 1, x5, (x6 + 1), E, M72)
  else
  some (0, 0, x5, (x6 + 1), E, M72))
  else
  some (0, 0, x5, (x6 + 1), E, M)))
  else
  some (0, 0, x5, (x6 + 1), E, M))
def La_pairs_j322 (E : Ev) (M : Mm) (q1 : Nat) (q2 : Nat) (x3 : Int) (x4 : Int) (x6 : Int) (x8 : Int) (y0 : Int) (y1 : Int) : Option (Nat × Int × Int × Int × Ev × Mm) :=
  ck (Lay E) <|
  ck (isO 12 E q1) <|
  ck (isQ 6 E q2) <|
  ck (nnI y1) <|
  ck (nnI y0) <|
  ck (rgI x3) <|
  (if x3 = 0 then
  some (0, 0, (orI y1 y0), (x6 + 1), E, M)
  else
  (f_B_beatsAll E M).bind fun (r63, M63) =>
  ck (rgI r63) <|
  ck (rgI x6) <|
  (if r63 = x6 then
  La_pairs_j345 E M63 q1 q2 x4 (orI y1 y0) x6 x8 1 x8
  else
  La_pairs_j345 E M63 q1 q2 x4 (orI y1 y0) x6 x8 0 x8))
def La_pairs_j307 (E : Ev) (M : Mm) (q1 : Nat) (q2 : Nat) (x3 : Int) (x4 : Int) (x5 : Int) (x6 : Int) (x7 : Int) (x8 : Int) : Option (Nat × Int × Int × Int × Ev × Mm) :=
  ck (Lay E) <|
  ck (isO 12 E q1) <|
  ck (isQ 6 E q2) <|
  ck (rgI x7) <|
  (if x7 = 0 then
  La_pairs_j322 E M q1 q2 x3 x4 x6 x8 0 x5
  else
  ck (shI x6) <|
  La_pairs_j322 E M q1 q2 x3 x4 x6 x8 (2 ^ x6.toNat) x5)
def La_pairs_117b (E : Ev) (M : Mm) (q1 : Nat) (q2 : Nat) (x4 : Int) (x3 : Int) (x5 : Int) (x6 : Int) : Option (Nat × Int × Int × Int × Ev × Mm) :=
  ck (Lay E) <|
  ck (isO 12 E q1) <|
  ck (isQ 6 E q2) <|
  ck (rgI x6) <|
  ck (rgI (M q1 0)) <|
  (if (M q1 0) ≤ x6 then
  some (1, x3, x5, x6, E, M)
  else
  (l_La_pairs_135 q1 q2 x4 x5 x6 5000 E M x3 1 1 0).bind fun (t58, v58_3, v58_7, v58_8, v58_9, E58, M58) =>
  ck (Gw E E58) <|
  ck (Lay E58) <|
  ck (t58 = 1) <|
  La_pairs_j307 E58 M58 q1 q2 v58_3 x4 x5 x6 v58_7 v58_8)
def l_La_pairs_117 (q1 : Nat) (q2 : Nat) (x4 : Int) : Nat → Ev → Mm → Int → Int → Int → Option (Nat × Int × Int × Int × Ev × Mm)
  | 0, _, _, _, _, _ => none
  | fu + 1, E, M, x3, x5, x6 => (La_pairs_117b E M q1 q2 x4 x3 x5 x6).bind fun (t, w3, w5, w6, F, N) => if t = 0 then l_La_pairs_117 q1 q2 x4 fu F N w3 w5 w6 else some (t, w3, w5, w6, F, N)
def La_pairs_444b (E : Ev) (M : Mm) (q1 : Nat) (q2 : Nat) (x8 : Int) (x9 : Int) (x6 : Int) (x10 : Int) : Option (Nat × Int × Int × Ev × Mm) :=
  ck (Lay E) <|
  ck (isO 12 E q1) <|
  ck (isQ 6 E q2) <|
  ck (rgI x10) <|
  ck (rgI (M q1 0)) <|
  (if (M q1 0) ≤ x10 then
  some (1, x6, x10, E, M)
  else
  (f_B_consensusAt E M x10).bind fun (r83, M83) =>
  ck (inb r83 (tE E q2).2) <|
  (rE E q2 r83.toNat).bind fun p85 =>
  ck (isIA E p85) <|
  ck (inb x9 (tE E p85).2) <|
  ck (rgI (M83 p85 x9.toNat)) <|
  some (0, (x6 + (M83 p85 x9.toNat)), (x10 + 1), E, M83))
def l_La_pairs_444 (q1 : Nat) (q2 : Nat) (x8 : Int) (x9 : Int) : Nat → Ev → Mm → Int → Int → Option (Nat × Int × Int × Ev × Mm)
  | 0, _, _, _, _ => none
  | fu + 1, E, M, x6, x10 => (La_pairs_444b E M q1 q2 x8 x9 x6 x10).bind fun (t, w6, w10, F, N) => if t = 0 then l_La_pairs_444 q1 q2 x8 x9 fu F N w6 w10 else some (t, w6, w10, F, N)
def La_pairs_417b (E : Ev) (M : Mm) (q1 : Nat) (q2 : Nat) (x3 : Int) (x6 : Int) (x8 : Int) : Option (Nat × Int × Int × Int × Ev × Mm) :=
  ck (Lay E) <|
  ck (isO 12 E q1) <|
  ck (isQ 6 E q2) <|
  ck (rgI x8) <|
  ck (rgI (M q1 0)) <|
  (if (M q1 0) ≤ x8 then
  some (1, x3, x6, x8, E, M)
  else
  ck (rgI x3) <|
  (if x3 = 0 then
  some (1, x3, x6, x8, E, M)
  else
  (f_B_consensusAt E M x8).bind fun (r80, M80) =>
  (l_La_pairs_444 q1 q2 x8 r80 5000 E M80 x6 (x8 + 1)).bind fun (t88, v88_6, v88_10, E88, M88) =>
  ck (Gw E E88) <|
  ck (Lay E88) <|
  ck (t88 = 1) <|
  ck (rgI (x8 + 1)) <|
  ck (rgI (M88 q1 0)) <|
  (if (x8 + 1) = (M88 q1 0) then
  some (0, 1, v88_6, (x8 + 1), E88, M88)
  else
  ck (inb r80 (tE E88 q2).2) <|
  (rE E88 q2 r80.toNat).bind fun p92 =>
  ck (isIA E88 p92) <|
  (f_B_consensusAt E88 M88 (x8 + 1)).bind fun (r93, M93) =>
  ck (inb r93 (tE E88 p92).2) <|
  (f_B_consensusAt E88 M93 (x8 + 1)).bind fun (r95, M95) =>
  ck (inb r95 (tE E88 q2).2) <|
  (rE E88 q2 r95.toNat).bind fun p97 =>
  ck (isIA E88 p97) <|
  ck (inb r80 (tE E88 p97).2) <|
  ck (rgI (M93 p92 r93.toNat)) <|
  ck (rgI (M95 p97 r80.toNat)) <|
  (if (M93 p92 r93.toNat) < (M95 p97 r80.toNat) then
  some (0, 0, v88_6, (x8 + 1), E88, M95)
  else
  some (0, 1, v88_6, (x8 + 1), E88, M95)))))
def l_La_pairs_417 (q1 : Nat) (q2 : Nat) : Nat → Ev → Mm → Int → Int → Int → Option (Nat × Int × Int × Int × Ev × Mm)
  | 0, _, _, _, _, _ => none
  | fu + 1, E, M, x3, x6, x8 => (La_pairs_417b E M q1 q2 x3 x6 x8).bind fun (t, w3, w6, w8, F, N) => if t = 0 then l_La_pairs_417 q1 q2 fu F N w3 w6 w8 else some (t, w3, w6, w8, F, N)
def La_pairs_j528 (E : Ev) (M : Mm) (x3 : Int) (x6 : Int) : Option (Int × Ev × Mm) :=
  ck (Lay E) <|
  ck (rgI x3) <|
  (if x3 = 0 then
  some (0, E, M)
  else
  (f_B_consensusDistance E M).bind fun (r103, M103) =>
  ck (rgJ x6) <|
  ck (rgJ r103) <|
  (if x6 = r103 then
  some (1, E, M103)
  else
  some (0, E, M103)))
def f_La_pairs (E : Ev) (M : Mm) (p1 : Nat) : Option (Int × Ev × Mm) :=
  ck (Lay E) <|
  ck (isO 12 E p1) <|
  ck (0 ≤ (M p1 0) ∧ (M p1 0) ≤ 8) <|
  ck (0 ≤ (M p1 0) ∧ (M p1 0) ≤ 8) <|
  nb (nE E) fun (p2 : Nat) =>
  nb (eGrid E (M p1 0).toNat (M p1 0).toNat) fun (E2 : Ev) =>
  nb (mG M (nE E) (M p1 0).toNat) fun (M2 : Mm) =>
  (l_La_pairs_18 p1 p2 5000 E2 M2 1 0).bind fun (t19, v19_3, v19_4, E19, M19) =>
  ck (Gw E2 E19) <|
  ck (Lay E19) <|
  ck (t19 = 1) <|
  (f_B_beatingSet E19 M19).bind fun (r20, M20) =>
  (l_La_pairs_117 p1 p2 r20 5000 E19 M20 v19_3 0 0).bind fun (t75, v75_3, v75_5, v75_6, E75, M75) =>
  ck (Gw E19 E75) <|
  ck (Lay E75) <|
  ck (t75 = 1) <|
  ck (rgI v75_3) <|
  (if v75_3 = 0 then
  (l_La_pairs_417 p1 p2 5000 E75 M75 0 0 0).bind fun (t101, v101_3, v101_6, v101_8, E101, M101) =>
  ck (Gw E75 E101) <|
  ck (Lay E101) <|
  ck (t101 = 1) <|
  La_pairs_j528 E101 M101 v101_3 v101_6
  else
  (f_B_pathWinners E75 M75).bind fun (r106, M106) =>
  ck (rgI r106) <|
  ck (rgI v75_5) <|
  (if r106 = v75_5 then
  ck (nnI v75_5) <|
  ck (nnI r20) <|
  (if (andI v75_5 r20) = 0 then
  (l_La_pairs_417 p1 p2 5000 E75 M106 0 0 0).bind fun (t112, v112_3, v112_6, v112_8, E112, M112) =>
  ck (Gw E75 E112) <|
  ck (Lay E112) <|
  ck (t112 = 1) <|
  La_pairs_j528 E112 M112 v112_3 v112_6
  else
  (l_La_pairs_417 p1 p2 5000 E75 M106 1 0 0).bind fun (t113, v113_3, v113_6, v113_8, E113, M113) =>
  ck (Gw E75 E113) <|
  ck (Lay E113) <|
  ck (t113 = 1) <|
  La_pairs_j528 E113 M113 v113_3 v113_6)
  else
  (l_La_pairs_417 p1 p2 5000 E75 M106 0 0 0).bind fun (t109, v109_3, v109_6, v109_8, E109, M109) =>
  ck (Gw E75 E109) <|
  ck (Lay E109) <|
  ck (t109 = 1) <|
  La_pairs_j528 E109 M109 v109_3 v109_6))
def f_B_needFewCandidates (E : Ev) (M : Mm) : Option Unit :=
  ck (rgI (M 2 2)) <|
  (if (M 2 2) ≤ 5 then
  some ()
  else
  none)
def Ar_fillL_6b (E : Ev) (M : Mm) (q0 : Nat) (x1 : Int) (x4 : Int) (x3 : Int) : Option (Nat × Int × Mm) :=
  ck (isLA E q0) <|
  ck (rgI x3) <|
  ck (rgI x4) <|
  (if x4 ≤ x3 then
  some (1, x3, M)
  else
  ck (inb x3 (tE E q0).2) <|
  some (0, (x3 + 1), (u2 M q0 x3.toNat x1)))
def l_Ar_fillL_6 (E : Ev) (q0 : Nat) (x1 : Int) (x4 : Int) : Nat → Mm → Int → Option (Nat × Int × Mm)
  | 0, _, _ => none
  | fu + 1, M, x3 => (Ar_fillL_6b E M q0 x1 x4 x3).bind fun (t, w3, N) => if t = 0 then l_Ar_fillL_6 E q0 x1 x4 fu N w3 else some (t, w3, N)
def f_Ar_fillL (E : Ev) (M : Mm) (p0 : Nat) (x1 : Int) : Option Mm :=
  ck (isLA E p0) <|
  (l_Ar_fillL_6 E p0 x1 ((tE E p0).2 : Int) FU M 0).bind fun (t3, v3_3, M3) =>
  ck (t3 = 1) <|
  some M3
def Po_scoreTopsOf_j38 (E : Ev) (M : Mm) (x1 : Int) (x2 : Int) (y0 : Int) : Option (Nat × Int × Mm) :=
  ck (rgI y0) <|
  (if y0 = (-1) then
  some (0, (x2 + 1), M)
  else
  ck (inb y0 8) <|
  ck (inb x2 31) <|
  ck (rgI (M 42 x2.toNat)) <|
  nb (((M 48 y0.toNat) + (M 42 x2.toNat))) fun (v9 : Int) =>
  some (0, (x2 + 1), (u2 M 48 y0.toNat v9)))
def Po_scoreTopsOf_10b (E : Ev) (M : Mm) (x1 : Int) (x2 : Int) : Option (Nat × Int × Mm) :=
  ck (rgI x2) <|
  (if 31 ≤ x2 then
  some (1, x2, M)
  else
  ck (inb x2 31) <|
  ck (rgI (M 42 x2.toNat)) <|
  (if (M 42 x2.toNat) = 0 then
  Po_scoreTopsOf_j38 E M x1 x2 (-1)
  else
  (f_Bx_soleTopOf E M x2 x1).bind fun r4 =>
  Po_scoreTopsOf_j38 E M x1 x2 r4))
def l_Po_scoreTopsOf_10 (E : Ev) (x1 : Int) : Nat → Mm → Int → Option (Nat × Int × Mm)
  | 0, _, _ => none
  | fu + 1, M, x2 => (Po_scoreTopsOf_10b E M x1 x2).bind fun (t, w2, N) => if t = 0 then l_Po_scoreTopsOf_10 E x1 fu N w2 else some (t, w2, N)
def f_Po_scoreTopsOf (E : Ev) (M : Mm) (x1 : Int) : Option Mm :=
  (f_Ar_fillL E M 48 0).bind fun M0 =>
  (l_Po_scoreTopsOf_10 E x1 FU M0 0).bind fun (t10, v10_2, M10) =>
  ck (t10 = 1) <|
  some M10
def Po_smallestOf_4b (E : Ev) (M : Mm) (x1 : Int) (x2 : Int) (x3 : Int) : Option (Nat × Int × Int) :=
  ck (rgI x3) <|
  ck (rgI (M 2 2)) <|
  (if (M 2 2) ≤ x3 then
  some (1, x2, x3)
  else
  (f_B_has E M x1 x3).bind fun r2 =>
  ck (rgI r2) <|
  (if r2 = 0 then
  some (0, x2, (x3 + 1))
  else
  ck (rgI x2) <|
  (if x2 = (-1) then
  some (0, x3, (x3 + 1))
  else
  ck (inb x3 8) <|
  ck (inb x2 8) <|
  ck (rgJ (M 48 x3.toNat)) <|
  ck (rgJ (M 48 x2.toNat)) <|
  (if (M 48 x3.toNat) < (M 48 x2.toNat) then
  some (0, x3, (x3 + 1))
  else
  (if (M 48 x3.toNat) = (M 48 x2.toNat) then
  (f_Bx_winsLot E M x2 x3).bind fun r9 =>
  ck (rgI r9) <|
  (if r9 = 0 then
  some (0, x2, (x3 + 1))
  else
  some (0, x3, (x3 + 1)))
  else
  some (0, x2, (x3 + 1)))))))
def l_Po_smallestOf_4 (E : Ev) (x1 : Int) : Nat → Mm → Int → Int → Option (Nat × Int × Int)
  | 0, _, _, _ => none
  | fu + 1, M, x2, x3 => (Po_smallestOf_4b E M x1 x2 x3).bind fun (t, w2, w3) => if t = 0 then l_Po_smallestOf_4 E x1 fu M w2 w3 else some (t, w2, w3)
def f_Po_smallestOf (E : Ev) (M : Mm) (x1 : Int) : Option Int :=
  (l_Po_smallestOf_4 E x1 FU M (-1) 0).bind fun (t11, v11_2, v11_3) =>
  ck (t11 = 1) <|
  some v11_2
def Po_bestByLot_4b (E : Ev) (M : Mm) (x1 : Int) (x2 : Int) (x3 : Int) : Option (Nat × Int × Int) :=
  ck (rgI x3) <|
  ck (rgI (M 2 2)) <|
  (if (M 2 2) ≤ x3 then
  some (1, x2, x3)
  else
  (f_B_has E M x1 x3).bind fun r2 =>
  ck (rgI r2) <|
  (if r2 = 0 then
  some (0, x2, (x3 + 1))
  else
  ck (rgI x2) <|
  (if x2 = (-1) then
  some (0, x3, (x3 + 1))
  else
  (f_Bx_winsLot E M x3 x2).bind fun r5 =>
  ck (rgI r5) <|
  (if r5 = 0 then
  some (0, x2, (x3 + 1))
  else
  some (0, x3, (x3 + 1))))))
def l_Po_bestByLot_4 (E : Ev) (x1 : Int) : Nat → Mm → Int → Int → Option (Nat × Int × Int)
  | 0, _, _, _ => none
  | fu + 1, M, x2, x3 => (Po_bestByLot_4b E M x1 x2 x3).bind fun (t, w2, w3) => if t = 0 then l_Po_bestByLot_4 E x1 fu M w2 w3 else some (t, w2, w3)
def f_Po_bestByLot (E : Ev) (M : Mm) (x1 : Int) : Option Int :=
  (l_Po_bestByLot_4 E x1 FU M (-1) 0).bind fun (t7, v7_2, v7_3) =>
  ck (t7 = 1) <|
  some v7_2
def Po_lastOfRunoff_17b (E : Ev) (M : Mm) (x2 : Int) (x1 : Int) (x3 : Int) : Option (Nat × Int × Int × Mm) :=
  ck (rgI x3) <|
  ck (rgI x2) <|
  (if x2 ≤ x3 then
  some (1, x1, x3, M)
  else
  (f_Po_scoreTopsOf E M x1).bind fun M3 =>
  (f_Po_smallestOf E M3 x1).bind fun r4 =>
  ck (inb x3 8) <|
  ck (shI r4) <|
  ck (nnI x1) <|
  ck (nnI (2 ^ r4.toNat)) <|
  some (0, (dfI x1 (2 ^ r4.toNat)), (x3 + 1), (u2 M3 49 x3.toNat r4)))
def l_Po_lastOfRunoff_17 (E : Ev) (x2 : Int) : Nat → Mm → Int → Int → Option (Nat × Int × Int × Mm)
  | 0, _, _, _ => none
  | fu + 1, M, x1, x3 => (Po_lastOfRunoff_17b E M x2 x1 x3).bind fun (t, w1, w3, N) => if t = 0 then l_Po_lastOfRunoff_17 E x2 fu N w1 w3 else some (t, w1, w3, N)
def f_Po_lastOfRunoff (E : Ev) (M : Mm) : Option (Int × Mm) :=
  (f_In_bitCount E M (M 41 1)).bind fun r0 =>
  (l_Po_lastOfRunoff_17 E (r0 - 1) FU M (M 41 1) 0).bind fun (t9, v9_1, v9_3, M9) =>
  ck (t9 = 1) <|
  (f_Po_bestByLot E M9 v9_1).bind fun r10 =>
  some (r10, M9)
def Po_pointsOf_5b (E : Ev) (M : Mm) (x1 : Int) (x2 : Int) (x4 : Int) : Option (Nat × Int × Int) :=
  ck (rgI x4) <|
  ck (rgI (M 2 2)) <|
  (if (M 2 2) ≤ x4 then
  some (1, x2, x4)
  else
  ck (rgI x1) <|
  (if x4 = x1 then
  some (0, x2, (x4 + 1))
  else
  (f_B_has E M (M 41 1) x4).bind fun r3 =>
  ck (rgI r3) <|
  (if r3 = 0 then
  some (0, x2, (x4 + 1))
  else
  (f_Po_pair E M x1 x4).bind fun r5 =>
  (f_Po_pair E M x4 x1).bind fun r6 =>
  ck (rgI (((M 41 2) + r5) - r6)) <|
  nb ((x2 + (((M 41 2) + r5) - r6))) fun (v8 : Int) =>
  some (0, v8, (x4 + 1)))))
def l_Po_pointsOf_5 (E : Ev) (x1 : Int) : Nat → Mm → Int → Int → Option (Nat × Int × Int)
  | 0, _, _, _ => none
  | fu + 1, M, x2, x4 => (Po_pointsOf_5b E M x1 x2 x4).bind fun (t, w2, w4) => if t = 0 then l_Po_pointsOf_5 E x1 fu M w2 w4 else some (t, w2, w4)
def f_Po_pointsOf (E : Ev) (M : Mm) (x1 : Int) : Option Int :=
  (l_Po_pointsOf_5 E x1 FU M 0 0).bind fun (t9, v9_2, v9_4) =>
  ck (t9 = 1) <|
  some v9_2
def Po_findScores_j59 (E : Ev) (M : Mm) (x1 : Int) (x2 : Int) (y0 : Int) (y1 : Int) (y2 : Nat) : Option (Nat × Int × Mm) :=
  ck (isLA E y2) <|
  ck (inb y1 (tE E y2).2) <|
  some (0, (x2 + 1), (u2 M y2 y1.toNat y0))
def Po_findScores_2b (E : Ev) (M : Mm) (x1 : Int) (x2 : Int) : Option (Nat × Int × Mm) :=
  ck (rgI x2) <|
  ck (rgI (M 2 2)) <|
  (if (M 2 2) ≤ x2 then
  some (1, x2, M)
  else
  ck (rgI x1) <|
  (if x1 = 3 then
  (f_Po_pointsOf E M x2).bind fun r8 =>
  ck (inb x2 8) <|
  some (0, (x2 + 1), (u2 M 48 x2.toNat r8))
  else
  (if x1 = 4 then
  ck (inb x2 8) <|
  ck (rgI (M 44 x2.toNat)) <|
  Po_findScores_j59 E M x1 x2 (M 44 x2.toNat) x2 48
  else
  ck (inb x2 8) <|
  ck (rgI (M 43 x2.toNat)) <|
  Po_findScores_j59 E M x1 x2 (M 43 x2.toNat) x2 48)))
def l_Po_findScores_2 (E : Ev) (x1 : Int) : Nat → Mm → Int → Option (Nat × Int × Mm)
  | 0, _, _ => none
  | fu + 1, M, x2 => (Po_findScores_2b E M x1 x2).bind fun (t, w2, N) => if t = 0 then l_Po_findScores_2 E x1 fu N w2 else some (t, w2, N)
def f_Po_findScores (E : Ev) (M : Mm) (x1 : Int) : Option Mm :=
  (l_Po_findScores_2 E x1 FU M 0).bind fun (t10, v10_2, M10) =>
  ck (t10 = 1) <|
  some M10
def Po_greatestOf_4b (E : Ev) (M : Mm) (x1 : Int) (x2 : Int) (x3 : Int) : Option (Nat × Int × Int) :=
  ck (rgI x3) <|
  ck (rgI (M 2 2)) <|
  (if (M 2 2) ≤ x3 then
  some (1, x2, x3)
  else
  (f_B_has E M x1 x3).bind fun r2 =>
  ck (rgI r2) <|
  (if r2 = 0 then
  some (0, x2, (x3 + 1))
  else
  ck (rgI x2) <|
  (if x2 = (-1) then
  some (0, x3, (x3 + 1))
  else
  ck (inb x3 8) <|
  ck (inb x2 8) <|
  ck (rgJ (M 48 x3.toNat)) <|
  ck (rgJ (M 48 x2.toNat)) <|
  (if (M 48 x2.toNat) < (M 48 x3.toNat) then
  some (0, x3, (x3 + 1))
  else
  (if (M 48 x3.toNat) = (M 48 x2.toNat) then
  (f_Bx_winsLot E M x3 x2).bind fun r9 =>
  ck (rgI r9) <|
  (if r9 = 0 then
  some (0, x2, (x3 + 1))
  else
  some (0, x3, (x3 + 1)))
  else
  some (0, x2, (x3 + 1)))))))
def l_Po_greatestOf_4 (E : Ev) (x1 : Int) : Nat → Mm → Int → Int → Option (Nat × Int × Int)
  | 0, _, _, _ => none
  | fu + 1, M, x2, x3 => (Po_greatestOf_4b E M x1 x2 x3).bind fun (t, w2, w3) => if t = 0 then l_Po_greatestOf_4 E x1 fu M w2 w3 else some (t, w2, w3)
def f_Po_greatestOf (E : Ev) (M : Mm) (x1 : Int) : Option Int :=
  (l_Po_greatestOf_4 E x1 FU M (-1) 0).bind fun (t11, v11_2, v11_3) =>
  ck (t11 = 1) <|
  some v11_2
def f_Po_bestBy (E : Ev) (M : Mm) (x1 : Int) : Option (Int × Mm) :=
  ck (rgI (M 41 1)) <|
  (if (M 41 1) = 0 then
  some ((-1), M)
  else
  ck (rgI x1) <|
  (if x1 = 1 then
  (f_Po_lastOfRunoff E M).bind fun (r6, M6) =>
  some (r6, M6)
  else
  (if x1 = 2 then
  (f_Po_winnersByPaths E M).bind fun (r4, M4) =>
  (f_Po_bestByLot E M4 r4).bind fun r5 =>
  some (r5, M4)
  else
  (f_Po_findScores E M x1).bind fun M2 =>
  (f_Po_greatestOf E M2 (M2 41 1)).bind fun r3 =>
  some (r3, M2))))
def Fb_aheadOf_16b (E : Ev) (M : Mm) (x1 : Int) (x4 : Int) (x3 : Int) (x5 : Int) : Option (Nat × Int × Int) :=
  ck (rgI x5) <|
  ck (rgI x4) <|
  (if x4 ≤ x5 then
  some (1, x3, x5)
  else
  ck (inb x1 31) <|
  ck (inb x5 8) <|
  ck (nnI x3) <|
  ck (nnI (M (9 + x1.toNat) x5.toNat)) <|
  nb ((orI x3 (M (9 + x1.toNat) x5.toNat))) fun (v7 : Int) =>
  some (0, v7, (x5 + 1)))
def l_Fb_aheadOf_16 (E : Ev) (x1 : Int) (x4 : Int) : Nat → Mm → Int → Int → Option (Nat × Int × Int)
  | 0, _, _, _ => none
  | fu + 1, M, x3, x5 => (Fb_aheadOf_16b E M x1 x4 x3 x5).bind fun (t, w3, w5) => if t = 0 then l_Fb_aheadOf_16 E x1 x4 fu M w3 w5 else some (t, w3, w5)
def f_Fb_aheadOf (E : Ev) (M : Mm) (x1 : Int) (x2 : Int) : Option Int :=
  (f_Bx_rankOf E M x1 x2).bind fun r0 =>
  (l_Fb_aheadOf_16 E x1 r0 FU M 0 0).bind fun (t8, v8_3, v8_5) =>
  ck (t8 = 1) <|
  some v8_3
def Fb_writeTrial_9b (E : Ev) (M : Mm) (x1 : Int) : Option (Nat × Int × Mm) :=
  ck (rgI x1) <|
  ck (rgI (M 2 2)) <|
  (if (M 2 2) ≤ x1 then
  some (1, x1, M)
  else
  ck (inb x1 5) <|
  (f_Bx_rankOnTrial E M (M 52 x1.toNat) 1).bind fun M4 =>
  some (0, (x1 + 1), M4))
def l_Fb_writeTrial_9 (E : Ev) : Nat → Mm → Int → Option (Nat × Int × Mm)
  | 0, _, _ => none
  | fu + 1, M, x1 => (Fb_writeTrial_9b E M x1).bind fun (t, w1, N) => if t = 0 then l_Fb_writeTrial_9 E fu N w1 else some (t, w1, N)
def f_Fb_writeTrial (E : Ev) (M : Mm) : Option Mm :=
  (f_Bx_clearTrial E M).bind fun M0 =>
  (l_Fb_writeTrial_9 E FU M0 0).bind fun (t5, v5_1, M5) =>
  ck (t5 = 1) <|
  some (u2 M5 6 30 (M5 39 0))
def f_Fb_swap (E : Ev) (M : Mm) (x1 : Int) (x2 : Int) : Option Mm :=
  ck (inb x1 5) <|
  ck (inb x2 5) <|
  some (u2 (u2 M 52 x1.toNat (M 52 x2.toNat)) 52 x2.toNat (M 52 x1.toNat))
def Fb_goToNextOrder_14b (E : Ev) (M : Mm) (x1 : Int) (x2 : Int) : Option (Nat × Int × Mm) :=
  ck (rgI x2) <|
  (if x2 < 0 then
  some (1, x2, M)
  else
  ck (inb x2 5) <|
  ck (inb (x2 + 1) 5) <|
  ck (rgI (M 52 x2.toNat)) <|
  ck (rgI (M 52 (x2 + 1).toNat)) <|
  (if (M 52 x2.toNat) ≤ (M 52 (x2 + 1).toNat) then
  some (1, x2, M)
  else
  some (0, (x2 + (-1)), M)))
def l_Fb_goToNextOrder_14 (E : Ev) (x1 : Int) : Nat → Mm → Int → Option (Nat × Int × Mm)
  | 0, _, _ => none
  | fu + 1, M, x2 => (Fb_goToNextOrder_14b E M x1 x2).bind fun (t, w2, N) => if t = 0 then l_Fb_goToNextOrder_14 E x1 fu N w2 else some (t, w2, N)
def Fb_goToNextOrder_48b (E : Ev) (M : Mm) (x1 : Int) (x2 : Int) (x3 : Int) : Option (Nat × Int × Mm) :=
  ck (rgI x3) <|
  ck (rgI x2) <|
  (if x3 ≤ x2 then
  some (1, x3, M)
  else
  ck (inb x3 5) <|
  ck (inb x2 5) <|
  ck (rgI (M 52 x3.toNat)) <|
  ck (rgI (M 52 x2.toNat)) <|
  (if (M 52 x2.toNat) ≤ (M 52 x3.toNat) then
  some (1, x3, M)
  else
  some (0, (x3 + (-1)), M)))
def l_Fb_goToNextOrder_48 (E : Ev) (x1 : Int) (x2 : Int) : Nat → Mm → Int → Option (Nat × Int × Mm)
  | 0, _, _ => none
  | fu + 1, M, x3 => (Fb_goToNextOrder_48b E M x1 x2 x3).bind fun (t, w3, N) => if t = 0 then l_Fb_goToNextOrder_48 E x1 x2 fu N w3 else some (t, w3, N)
def Fb_goToNextOrder_88b (E : Ev) (M : Mm) (x4 : Int) (x5 : Int) : Option (Nat × Int × Int × Mm) :=
  ck (rgI x4) <|
  ck (rgI x5) <|
  (if x5 ≤ x4 then
  some (1, x4, x5, M)
  else
  (f_Fb_swap E M x4 x5).bind fun M17 =>
  some (0, (x4 + 1), (x5 + (-1)), M17))
def l_Fb_goToNextOrder_88 (E : Ev) : Nat → Mm → Int → Int → Option (Nat × Int × Int × Mm)
  | 0, _, _, _ => none
  | fu + 1, M, x4, x5 => (Fb_goToNextOrder_88b E M x4 x5).bind fun (t, w4, w5, N) => if t = 0 then l_Fb_goToNextOrder_88 E fu N w4 w5 else some (t, w4, w5, N)
def Fb_goToNextOrder_j74 (E : Ev) (M : Mm) (x1 : Int) (x2 : Int) (x3 : Int) : Option Mm :=
  (f_Fb_swap E M x2 x3).bind fun M14 =>
  (l_Fb_goToNextOrder_88 E FU M14 (x2 + 1) x1).bind fun (t18, v18_4, v18_5, M18) =>
  ck (t18 = 1) <|
  some M18
def Fb_goToNextOrder_j41 (E : Ev) (M : Mm) (x1 : Int) (x2 : Int) : Option Mm :=
  ck (rgI x2) <|
  (if 0 ≤ x2 then
  (l_Fb_goToNextOrder_48 E x1 x2 FU M x1).bind fun (t13, v13_3, M13) =>
  ck (t13 = 1) <|
  Fb_goToNextOrder_j74 E M13 x1 x2 v13_3
  else
  some M)
def f_Fb_goToNextOrder (E : Ev) (M : Mm) : Option Mm :=
  (l_Fb_goToNextOrder_14 E ((M 2 2) - 1) FU M (((M 2 2) - 1) - 1)).bind fun (t5, v5_2, M5) =>
  ck (t5 = 1) <|
  Fb_goToNextOrder_j41 E M5 ((M 2 2) - 1) v5_2
def Fb_findOrder_2b (E : Ev) (M : Mm) (x1 : Int) (x2 : Int) (x3 : Int) : Option (Nat × Int × Mm) :=
  ck (rgI x3) <|
  (if 5 ≤ x3 then
  some (1, x3, M)
  else
  ck (inb x3 5) <|
  some (0, (x3 + 1), (u2 M 52 x3.toNat x3)))
def l_Fb_findOrder_2 (E : Ev) (x1 : Int) (x2 : Int) : Nat → Mm → Int → Option (Nat × Int × Mm)
  | 0, _, _ => none
  | fu + 1, M, x3 => (Fb_findOrder_2b E M x1 x2 x3).bind fun (t, w3, N) => if t = 0 then l_Fb_findOrder_2 E x1 x2 fu N w3 else some (t, w3, N)
def Fb_findOrder_j94 (E : Ev) (M : Mm) (x1 : Int) (x2 : Int) (x3 : Int) (x5 : Int) : Option (Nat × Int × Mm) :=
  (f_Fb_goToNextOrder E M).bind fun M12 =>
  some (0, (x5 + 1), M12)
def Fb_findOrder_35b (E : Ev) (M : Mm) (x1 : Int) (x2 : Int) (x3 : Int) (x5 : Int) : Option (Nat × Int × Mm) :=
  ck (rgI x5) <|
  ck (rgJ x3) <|
  (if x3 ≤ x5 then
  some (2, x5, M)
  else
  (f_Fb_writeTrial E M).bind fun M7 =>
  (f_Po_change E M7 30 1).bind fun M8 =>
  (f_Po_bestBy E M8 x1).bind fun (r9, M9) =>
  (f_Po_change E M9 30 (-1)).bind fun M10 =>
  ck (rgI r9) <|
  (if r9 = (-1) then
  Fb_findOrder_j94 E M10 x1 x2 x3 x5
  else
  (f_B_has E M10 x2 r9).bind fun r13 =>
  ck (rgI r13) <|
  (if r13 = 0 then
  Fb_findOrder_j94 E M10 x1 x2 x3 x5
  else
  some (1, x5, M10))))
def l_Fb_findOrder_35 (E : Ev) (x1 : Int) (x2 : Int) (x3 : Int) : Nat → Mm → Int → Option (Nat × Int × Mm)
  | 0, _, _ => none
  | fu + 1, M, x5 => (Fb_findOrder_35b E M x1 x2 x3 x5).bind fun (t, w5, N) => if t = 0 then l_Fb_findOrder_35 E x1 x2 x3 fu N w5 else some (t, w5, N)
def f_Fb_findOrder (E : Ev) (M : Mm) (x1 : Int) (x2 : Int) : Option (Int × Mm) :=
  (l_Fb_findOrder_2 E x1 x2 FU M 0).bind fun (t2, v2_3, M2) =>
  ck (t2 = 1) <|
  ck (inb (M2 2 2) 13) <|
  (l_Fb_findOrder_35 E x1 x2 (facF (M2 2 2).toNat) FU M2 0).bind fun (t15, v15_5, M15) =>
  (if t15 = 1 then
  some (1, M15)
  else (if t15 = 2 then
  some (0, M15)
  else none))
def Fb_findKind_j65 (E : Ev) (M : Mm) (x1 : Int) (x2 : Int) (x3 : Int) (y0 : Int) : Option (Nat × Int × Mm) :=
  ck (rgI y0) <|
  (if y0 = 0 then
  some (0, (x3 + 1), M)
  else
  (f_Po_change E M x3 (-1)).bind fun M9 =>
  (f_Fb_findOrder E M9 x1 y0).bind fun (r10, M10) =>
  ck (rgI r10) <|
  (if r10 = 0 then
  (f_Po_change E M10 x3 1).bind fun M12 =>
  some (0, (x3 + 1), M12)
  else
  some (1, x3, M10)))
def Fb_findKind_32b (E : Ev) (M : Mm) (x1 : Int) (x2 : Int) (x3 : Int) : Option (Nat × Int × Mm) :=
  ck (rgI x3) <|
  ck (rgI (M 2 3)) <|
  (if (M 2 3) ≤ x3 then
  some (2, x3, M)
  else
  ck (inb x3 31) <|
  ck (rgI (M 5 x3.toNat)) <|
  (if (M 5 x3.toNat) ≤ 0 then
  Fb_findKind_j65 E M x1 x2 x3 0
  else
  (f_Fb_aheadOf E M x3 x2).bind fun r13 =>
  Fb_findKind_j65 E M x1 x2 x3 r13))
def l_Fb_findKind_32 (E : Ev) (x1 : Int) (x2 : Int) : Nat → Mm → Int → Option (Nat × Int × Mm)
  | 0, _, _ => none
  | fu + 1, M, x3 => (Fb_findKind_32b E M x1 x2 x3).bind fun (t, w3, N) => if t = 0 then l_Fb_findKind_32 E x1 x2 fu N w3 else some (t, w3, N)
def f_Fb_findKind (E : Ev) (M : Mm) (x1 : Int) : Option (Int × Mm) :=
  (f_Bx_everybody E M).bind fun r0 =>
  (f_Po_open E M r0).bind fun M1 =>
  (f_Po_bestBy E M1 x1).bind fun (r2, M2) =>
  ck (rgI r2) <|
  (if r2 = (-1) then
  some ((-1), M2)
  else
  (l_Fb_findKind_32 E x1 r2 FU M2 0).bind fun (t14, v14_3, M14) =>
  (if t14 = 1 then
  some (v14_3, M14)
  else (if t14 = 2 then
  some ((-1), M14)
  else none)))
def f_B_gain (E : Ev) (M : Mm) (x1 : Int) : Option (Int × Mm) :=
  (f_B_needRange E M x1 0 4).bind fun _u =>
  (f_B_needFewCandidates E M).bind fun _u =>
  (f_Fb_findKind E M x1).bind fun (r2, M2) =>
  some (r2, M2)
def f_B_winner (E : Ev) (M : Mm) (x1 : Int) : Option (Int × Mm) :=
  (f_B_needRange E M x1 0 4).bind fun _u =>
  (f_Bx_everybody E M).bind fun r1 =>
  (f_Po_open E M r1).bind fun M2 =>
  (f_Po_bestBy E M2 x1).bind fun (r3, M3) =>
  some (r3, M3)
def f_St_coder_C0 (E : Ev) (M : Mm) : Option Int :=
  some 0
def f_St_length_C0 (E : Ev) (M : Mm) : Option Int :=
  (f_St_coder_C0 E M).bind fun r0 =>
  ck (shI r0) <|
  some ((0 : Int) / 2 ^ r0.toNat)
def f_As_inflateIfNeededFor_C0 (E : Ev) (M : Mm) (p0 : Nat) : Option Unit :=
  ck (isO 14 E p0) <|
  (f_St_coder_C0 E M).bind fun r0 =>
  ck (rgI (M p0 1)) <|
  ck (rgI r0) <|
  (if (M p0 1) = r0 then
  some ()
  else
  none)
def f_St_getBytes_C0 (E : Ev) (M : Mm) (p1 : Nat) (x2 : Int) (x3 : Int) : Option Mm :=
  ck (isBA E p1) <|
  (f_St_coder_C0 E M).bind fun r0 =>
  ck (rgI r0) <|
  ck (rgI x3) <|
  (if r0 = x3 then
  ck (shI x3) <|
  ck (cpk 0 (x2 * 2 ^ x3.toNat) 0 0 (tE E p1).2) <|
  some (uA M p1 (va_cpy (csB 0) (M p1) 0 (x2 * 2 ^ x3.toNat).toNat 0))
  else
  none)
def f_As_putStringAt_C0 (E : Ev) (M : Mm) (p0 : Nat) (x1 : Int) : Option Mm :=
  ck (isO 14 E p0) <|
  (f_As_inflateIfNeededFor_C0 E M p0).bind fun _u =>
  (rE E p0 0).bind fun p1 =>
  ck (isBA E p1) <|
  (f_St_getBytes_C0 E M p1 x1 (M p0 1)).bind fun M2 =>
  some M2
def f_As_appendS_C0 (E : Ev) (M : Mm) (p0 : Nat) : Option (Nat × Mm) :=
  ck (isO 14 E p0) <|
  (f_St_length_C0 E M).bind fun r0 =>
  (f_As_ensureCapacityInternal E M p0 ((M p0 3) + r0)).bind fun _u =>
  (f_As_putStringAt_C0 E M p0 (M p0 3)).bind fun M2 =>
  some (p0, (u2 M2 p0 3 ((M2 p0 3) + r0)))
def f_Sb_appendS_C0 (E : Ev) (M : Mm) (p0 : Nat) : Option (Nat × Mm) :=
  ck (isO 14 E p0) <|
  (f_As_appendS_C0 E M p0).bind fun (r0, M0) =>
  ck (isO 14 E r0) <|
  some (p0, M0)
def f_St_coder_C1 (E : Ev) (M : Mm) : Option Int :=
  some 0
def f_St_length_C1 (E : Ev) (M : Mm) : Option Int :=
  (f_St_coder_C1 E M).bind fun r0 =>
  ck (shI r0) <|
  some ((1 : Int) / 2 ^ r0.toNat)
def f_As_inflateIfNeededFor_C1 (E : Ev) (M : Mm) (p0 : Nat) : Option Unit :=
  ck (isO 14 E p0) <|
  (f_St_coder_C1 E M).bind fun r0 =>
  ck (rgI (M p0 1)) <|
  ck (rgI r0) <|
  (if (M p0 1) = r0 then
  some ()
  else
  none)
def f_St_getBytes_C1 (E : Ev) (M : Mm) (p1 : Nat) (x2 : Int) (x3 : Int) : Option Mm :=
  ck (isBA E p1) <|
  (f_St_coder_C1 E M).bind fun r0 =>
  ck (rgI r0) <|
  ck (rgI x3) <|
  (if r0 = x3 then
  ck (shI x3) <|
  ck (cpk 0 (x2 * 2 ^ x3.toNat) 1 1 (tE E p1).2) <|
  some (uA M p1 (va_cpy (csB 1) (M p1) 0 (x2 * 2 ^ x3.toNat).toNat 1))
  else
  none)
def f_As_putStringAt_C1 (E : Ev) (M : Mm) (p0 : Nat) (x1 : Int) : Option Mm :=
  ck (isO 14 E p0) <|
  (f_As_inflateIfNeededFor_C1 E M p0).bind fun _u =>
  (rE E p0 0).bind fun p1 =>
  ck (isBA E p1) <|
  (f_St_getBytes_C1 E M p1 x1 (M p0 1)).bind fun M2 =>
  some M2
def f_As_appendS_C1 (E : Ev) (M : Mm) (p0 : Nat) : Option (Nat × Mm) :=
  ck (isO 14 E p0) <|
  (f_St_length_C1 E M).bind fun r0 =>
  (f_As_ensureCapacityInternal E M p0 ((M p0 3) + r0)).bind fun _u =>
  (f_As_putStringAt_C1 E M p0 (M p0 3)).bind fun M2 =>
  some (p0, (u2 M2 p0 3 ((M2 p0 3) + r0)))
def f_Sb_appendS_C1 (E : Ev) (M : Mm) (p0 : Nat) : Option (Nat × Mm) :=
  ck (isO 14 E p0) <|
  (f_As_appendS_C1 E M p0).bind fun (r0, M0) =>
  ck (isO 14 E r0) <|
  some (p0, M0)
def B_gainAt_j34 (E : Ev) (M : Mm) (x2 : Int) (y0 : Int) (y1 : Int) : Option (Int × Mm) :=
  (f_B_needPlace E M y1 y0).bind fun _u =>
  ck (inb x2 5) <|
  some ((M 52 x2.toNat), M)
def f_B_gainAt (E : Ev) (M : Mm) (x1 : Int) (x2 : Int) : Option (Int × Mm) :=
  (f_B_needRange E M x1 0 4).bind fun _u =>
  (f_B_needFewCandidates E M).bind fun _u =>
  (f_Fb_findKind E M x1).bind fun (r2, M2) =>
  ck (rgI r2) <|
  (if r2 = (-1) then
  B_gainAt_j34 E M2 x2 0 x2
  else
  B_gainAt_j34 E M2 x2 (M2 2 2) x2)
def f_B_takeBack (E : Ev) (M : Mm) (x1 : Int) (x2 : Int) : Option (Int × Mm) :=
  (f_B_needIndex E M x1 (M 2 3)).bind fun _u =>
  ck (inb x1 31) <|
  (f_B_needRange E M x2 1 (M 5 x1.toNat)).bind fun _u =>
  (f_B_remember E M 4 x1 (M 5 x1.toNat)).bind fun M3 =>
  some (((u2 M3 5 x1.toNat ((M3 5 x1.toNat) - x2)) 5 x1.toNat), (u2 M3 5 x1.toNat ((M3 5 x1.toNat) - x2)))
def f_Co_goBack (E : Ev) (M : Mm) : Option Mm :=
  ck (nnI (((M 179 2) + 21) - 1)) <|
  some (u2 M 179 2 ((((M 179 2) + 21) - 1) % 21))
def f_Li_takeChangeBack (E : Ev) (M : Mm) (x1 : Int) (x2 : Int) (x3 : Int) : Option Mm :=
  ck (rgI x1) <|
  (if x1 = 2 then
  ck (inb x2 8) <|
  some (u2 M 56 x2.toNat x3)
  else
  (if x1 = 3 then
  some M
  else
  (if x1 = 4 then
  some M
  else
  (if x1 = 5 then
  some (u2 M 53 0 x2)
  else
  (if x1 = 6 then
  ck (inb x2 8) <|
  some (u2 M 54 x2.toNat x3)
  else
  (if x1 = 7 then
  ck (inb x2 8) <|
  some (u2 M 55 x2.toNat x3)
  else
  (if x1 = 8 then
  ck (nnI (((M 53 10) + 21) - 1)) <|
  some (u2 M 53 10 ((((M 53 10) + 21) - 1) % 21))
  else
  some M)))))))
def f_B_takeChangeBack (E : Ev) (M : Mm) (x1 : Int) (x2 : Int) (x3 : Int) : Option Mm :=
  ck (rgI x1) <|
  (if x1 = 0 then
  some (u2 M 2 2 x2)
  else
  (if x1 = 1 then
  ck (inb x2 8) <|
  some (u2 M 4 x2.toNat x3)
  else
  (if x1 = 2 then
  (f_Li_takeChangeBack E M x1 x2 x3).bind fun M3 =>
  some M3
  else
  (if x1 = 3 then
  some (u2 M 2 3 x2)
  else
  (if x1 = 4 then
  ck (inb x2 31) <|
  some (u2 M 5 x2.toNat x3)
  else
  (if x1 = 5 then
  (f_Li_takeChangeBack E M x1 x2 x3).bind fun M5 =>
  some M5
  else
  (if x1 = 6 then
  (f_Li_takeChangeBack E M x1 x2 x3).bind fun M6 =>
  some M6
  else
  (if x1 = 7 then
  (f_Li_takeChangeBack E M x1 x2 x3).bind fun M7 =>
  some M7
  else
  (if x1 = 8 then
  (f_Li_takeChangeBack E M x1 x2 x3).bind fun M8 =>
  some M8
  else
  (if x1 = 9 then
  (f_Co_goBack E M).bind fun M9 =>
  some M9
  else
  (if x1 = 10 then
  some (u2 M 219 0 x2)
  else
  (if x1 = 11 then
  some (u2 M 243 0 x2)
  else
  (if x1 = 12 then
  some (u2 M 243 1 x3)
  else
  (f_Li_takeChangeBack E M x1 x2 x3).bind fun M10 =>
  some M10)))))))))))))
def f_B_undo (E : Ev) (M : Mm) : Option (Int × Mm) :=
  ck (rgI (M 1 11)) <|
  (if (M 1 11) = 0 then
  some ((-1), M)
  else
  ck (inb (M 1 10) 20) <|
  (f_B_takeChangeBack E M (M 246 (M 1 10).toNat) (M 247 (M 1 10).toNat) (M 248 (M 1 10).toNat)).bind fun M2 =>
  ck (nnI (((M2 1 10) + 20) - 1)) <|
  nb (u2 (u2 M2 1 10 ((((M2 1 10) + 20) - 1) % 20)) 1 11 (((u2 M2 1 10 ((((M2 1 10) + 20) - 1) % 20)) 1 11) - 1)) fun (M4 : Mm) =>
  some ((M4 1 11), M4))
def La_gains_40b (E : Ev) (M : Mm) (q1 : Nat) (x3 : Int) (x4 : Int) (x5 : Int) (q6 : Nat) (x7 : Int) : Option (Nat × Int × Ev × Mm) :=
  ck (Lay E) <|
  ck (isO 12 E q1) <|
  ck (isO 14 E q6) <|
  ck (rgI x7) <|
  ck (rgI (M q1 0)) <|
  (if (M q1 0) ≤ x7 then
  some (1, x7, E, M)
  else
  (if x7 = 0 then
  (f_Sb_appendS_C0 E M q6).bind fun (r12, M12) =>
  ck (isO 14 E r12) <|
  (f_B_gainAt E M12 x3 x7).bind fun (r13, M13) =>
  ck (0 ≤ (65 + r13) ∧ (65 + r13) ≤ 65535) <|
  (f_Sb_appendC E M13 r12 (65 + r13)).bind fun (r15, M15) =>
  ck (isO 14 E r15) <|
  some (0, (x7 + 1), E, M15)
  else
  (f_Sb_appendS_C1 E M q6).bind fun (r8, M8) =>
  ck (isO 14 E r8) <|
  (f_B_gainAt E M8 x3 x7).bind fun (r9, M9) =>
  ck (0 ≤ (65 + r9) ∧ (65 + r9) ≤ 65535) <|
  (f_Sb_appendC E M9 r8 (65 + r9)).bind fun (r11, M11) =>
  ck (isO 14 E r11) <|
  some (0, (x7 + 1), E, M11)))
def l_La_gains_40 (q1 : Nat) (x3 : Int) (x4 : Int) (x5 : Int) (q6 : Nat) : Nat → Ev → Mm → Int → Option (Nat × Int × Ev × Mm)
  | 0, _, _, _ => none
  | fu + 1, E, M, x7 => (La_gains_40b E M q1 x3 x4 x5 q6 x7).bind fun (t, w7, F, N) => if t = 0 then l_La_gains_40 q1 x3 x4 x5 q6 fu F N w7 else some (t, w7, F, N)
def f_La_gains (E : Ev) (M : Mm) (p1 : Nat) (p2 : Nat) : Option (Int × Ev × Mm) :=
  ck (Lay E) <|
  ck (isO 12 E p1) <|
  ck (isIA E p2) <|
  (f_La_next E M p2 5).bind fun (r0, M0) =>
  (f_B_gain E M0 r0).bind fun (r1, M1) =>
  ck (rgI r1) <|
  (if r1 = (-1) then
  some (1, E, M1)
  else
  (f_B_winner E M1 r0).bind fun (r3, M3) =>
  nb (nE E) fun (p4 : Nat) =>
  nb (eNew E (114, 0)) fun (E4 : Ev) =>
  nb (mN M3 (nE E)) fun (M4 : Mm) =>
  (f_Sb_init E4 M4 p4).bind fun (E5, M5) =>
  ck (Gw E4 E5) <|
  ck (Lay E5) <|
  (l_La_gains_40 p1 r0 r1 r3 p4 5000 E5 M5 0).bind fun (t16, v16_7, E16, M16) =>
  ck (Gw E5 E16) <|
  ck (Lay E16) <|
  ck (t16 = 1) <|
  (f_B_takeBack E16 M16 r1 1).bind fun (r17, M17) =>
  (f_Sb_toString E16 M17 p4).bind fun (r18, E18, M18) =>
  ck (Gw E16 E18) <|
  ck (Lay E18) <|
  ck (isO 13 E18 r18) <|
  (f_La_type E18 M18 r18).bind fun M19 =>
  (f_B_ballots E18 M19 1).bind fun (r20, M20) =>
  (f_B_winner E18 M20 r0).bind fun (r21, M21) =>
  (f_B_undo E18 M21).bind fun (r22, M22) =>
  (f_B_undo E18 M22).bind fun (r23, M23) =>
  ck (rgI r20) <|
  (if r20 < 0 then
  some (0, E18, M23)
  else
  (f_B_kindAt E18 M23 r1 r21 1).bind fun r25 =>
  (f_B_kindAt E18 M23 r1 r3 1).bind fun r26 =>
  ck (rgI r25) <|
  ck (rgI r26) <|
  (if r26 ≤ r25 then
  some (0, E18, M23)
  else
  (f_B_winner E18 M23 r0).bind fun (r29, M29) =>
  ck (rgI r29) <|
  ck (rgI r3) <|
  (if r29 = r3 then
  some (1, E18, M29)
  else
  some (0, E18, M29)))))
def f_Li_latest (E : Ev) (M : Mm) : Option Nat :=
  ck (inb (M 53 10) 21) <|
  some (74 + 5 * (M 53 10).toNat)
def f_Li_isAsThen (E : Ev) (M : Mm) (x1 : Int) : Option Int :=
  (f_Li_latest E M).bind fun r0 =>
  ck (isKs E r0) <|
  ck (rgI x1) <|
  ck (rgI (M r0 2)) <|
  (if (M r0 2) ≤ x1 then
  some 0
  else
  ck (inb x1 8) <|
  ck (rgI (M 55 x1.toNat)) <|
  (if (M 55 x1.toNat) = 0 then
  ck (rgI (M (r0 + 4) x1.toNat)) <|
  (if (M (r0 + 4) x1.toNat) = 0 then
  ck (rgI (M 54 x1.toNat)) <|
  ck (rgI (M (r0 + 3) x1.toNat)) <|
  (if (M 54 x1.toNat) = (M (r0 + 3) x1.toNat) then
  some 1
  else
  some 0)
  else
  some 0)
  else
  some 0))
def Li_isUnjust_20b (E : Ev) (M : Mm) (q1 : Nat) (x2 : Int) (x3 : Int) : Option (Nat × Int) :=
  ck (isIA E q1) <|
  ck (rgI x3) <|
  ck (rgI (M 53 0)) <|
  (if (M 53 0) ≤ x3 then
  some (2, x3)
  else
  ck (inb x2 8) <|
  ck (inb x3 8) <|
  ck (rgI (M 54 x2.toNat)) <|
  ck (rgI (M 54 x3.toNat)) <|
  (if (M 54 x2.toNat) ≤ (M 54 x3.toNat) then
  some (0, (x3 + 1))
  else
  ck (inb x2 (tE E q1).2) <|
  ck (inb x3 (tE E q1).2) <|
  ck (rgI (M q1 x2.toNat)) <|
  ck (rgI (M q1 x3.toNat)) <|
  (if (M q1 x3.toNat) ≤ (M q1 x2.toNat) then
  some (0, (x3 + 1))
  else
  (f_Li_isAsThen E M x2).bind fun r13 =>
  ck (rgI r13) <|
  (if r13 = 0 then
  some (0, (x3 + 1))
  else
  (f_Li_isAsThen E M x3).bind fun r15 =>
  ck (rgI r15) <|
  (if r15 = 0 then
  some (0, (x3 + 1))
  else
  some (1, x3))))))
def l_Li_isUnjust_20 (E : Ev) (q1 : Nat) (x2 : Int) : Nat → Mm → Int → Option (Nat × Int)
  | 0, _, _ => none
  | fu + 1, M, x3 => (Li_isUnjust_20b E M q1 x2 x3).bind fun (t, w3) => if t = 0 then l_Li_isUnjust_20 E q1 x2 fu M w3 else some (t, w3)
def Li_isUnjust_10b (E : Ev) (M : Mm) (q1 : Nat) (x2 : Int) : Option (Nat × Int) :=
  ck (isIA E q1) <|
  ck (rgI x2) <|
  ck (rgI (M 53 0)) <|
  (if (M 53 0) ≤ x2 then
  some (2, x2)
  else
  (l_Li_isUnjust_20 E q1 x2 FU M 0).bind fun (t17, v17_3) =>
  (if t17 = 1 then
  some (1, 0)
  else (if t17 = 2 then
  some (0, (x2 + 1))
  else none)))
def l_Li_isUnjust_10 (E : Ev) (q1 : Nat) : Nat → Mm → Int → Option (Nat × Int)
  | 0, _, _ => none
  | fu + 1, M, x2 => (Li_isUnjust_10b E M q1 x2).bind fun (t, w2) => if t = 0 then l_Li_isUnjust_10 E q1 fu M w2 else some (t, w2)
def f_Li_isUnjust (E : Ev) (M : Mm) : Option Int :=
  (f_Li_latest E M).bind fun r0 =>
  ck (isKs E r0) <|
  (l_Li_isUnjust_10 E (r0 + 2) FU M 0).bind fun (t18, v18_2) =>
  (if t18 = 1 then
  some 1
  else (if t18 = 2 then
  some 0
  else none))
def Co_unbalancedSteps_28b (E : Ev) (M : Mm) (q1 : Nat) (x2 : Int) (x3 : Int) (x4 : Int) : Option (Nat × Int × Mm) :=
  ck (isCt E q1) <|
  ck (rgI x4) <|
  (if 9 ≤ x4 then
  some (1, x4, M)
  else
  (f_Co_loadPile E M q1 x3 x4).bind fun M4 =>
  (f_Na_add E M4 185 189).bind fun M5 =>
  some (0, (x4 + 1), M5))
def l_Co_unbalancedSteps_28 (E : Ev) (q1 : Nat) (x2 : Int) (x3 : Int) : Nat → Mm → Int → Option (Nat × Int × Mm)
  | 0, _, _ => none
  | fu + 1, M, x4 => (Co_unbalancedSteps_28b E M q1 x2 x3 x4).bind fun (t, w4, N) => if t = 0 then l_Co_unbalancedSteps_28 E q1 x2 x3 fu N w4 else some (t, w4, N)
def Co_unbalancedSteps_4b (E : Ev) (M : Mm) (q1 : Nat) (x2 : Int) (x3 : Int) : Option (Nat × Int × Int × Mm) :=
  ck (isCt E q1) <|
  ck (rgI x3) <|
  ck (rgI ((M q1 4) + (M q1 5))) <|
  (if ((M q1 4) + (M q1 5)) < x3 then
  some (1, x2, x3, M)
  else
  (f_Na_become E M 185 0).bind fun M2 =>
  (l_Co_unbalancedSteps_28 E q1 x2 x3 FU M2 0).bind fun (t6, v6_4, M6) =>
  ck (t6 = 1) <|
  (f_Na_multiplySmall E M6 191 (M6 q1 3)).bind fun M7 =>
  (f_Na_compareWith E M7 185 191).bind fun r8 =>
  ck (rgI r8) <|
  (if r8 = 0 then
  some (0, x2, (x3 + 1), M7)
  else
  some (0, (x2 + 1), (x3 + 1), M7)))
def l_Co_unbalancedSteps_4 (E : Ev) (q1 : Nat) : Nat → Mm → Int → Int → Option (Nat × Int × Int × Mm)
  | 0, _, _, _ => none
  | fu + 1, M, x2, x3 => (Co_unbalancedSteps_4b E M q1 x2 x3).bind fun (t, w2, w3, N) => if t = 0 then l_Co_unbalancedSteps_4 E q1 fu N w2 w3 else some (t, w2, w3, N)
def f_Co_unbalancedSteps (E : Ev) (M : Mm) (p1 : Nat) : Option (Int × Mm) :=
  ck (isCt E p1) <|
  (l_Co_unbalancedSteps_4 E p1 FU M 0 1).bind fun (t10, v10_2, v10_3, M10) =>
  ck (t10 = 1) <|
  some (v10_2, M10)
def B_countErrors_36b (E : Ev) (M : Mm) (q1 : Nat) (x2 : Int) (x3 : Int) (x4 : Int) : Option (Nat × Int × Int × Mm) :=
  ck (isCt E q1) <|
  ck (rgI x4) <|
  ck (rgI (M q1 4)) <|
  (if (M q1 4) ≤ x4 then
  some (1, x3, x4, M)
  else
  ck (inb x4 3) <|
  ck (shI (M (q1 + 2) x4.toNat)) <|
  ck (nnI x3) <|
  ck (nnI (2 ^ (M (q1 + 2) x4.toNat).toNat)) <|
  nb ((orI x3 (2 ^ (M (q1 + 2) x4.toNat).toNat))) fun (v9 : Int) =>
  some (0, v9, (x4 + 1), M))
def l_B_countErrors_36 (E : Ev) (q1 : Nat) (x2 : Int) : Nat → Mm → Int → Int → Option (Nat × Int × Int × Mm)
  | 0, _, _, _ => none
  | fu + 1, M, x3, x4 => (B_countErrors_36b E M q1 x2 x3 x4).bind fun (t, w3, w4, N) => if t = 0 then l_B_countErrors_36 E q1 x2 fu N w3 w4 else some (t, w3, w4, N)
def B_countErrors_j128 (E : Ev) (M : Mm) (q1 : Nat) (x2 : Int) (x3 : Int) (x4 : Int) (x5 : Int) (y0 : Int) : Option (Nat × Int × Int × Mm) :=
  ck (isCt E q1) <|
  ck (rgI y0) <|
  (if y0 = 0 then
  some (0, x4, (x5 + 1), M)
  else
  ck (nnI x5) <|
  ck (nnI x3) <|
  (if (dfI x5 x3) = 0 then
  some (0, x4, (x5 + 1), M)
  else
  some (0, (x4 + 1), (x5 + 1), M)))
def B_countErrors_92b (E : Ev) (M : Mm) (q1 : Nat) (x2 : Int) (x3 : Int) (x4 : Int) (x5 : Int) : Option (Nat × Int × Int × Mm) :=
  ck (isCt E q1) <|
  ck (rgI x5) <|
  ck (rgI x2) <|
  (if x2 < x5 then
  some (1, x4, x5, M)
  else
  ck (inb x5 256) <|
  ck (nnI (M 40 x5.toNat)) <|
  ck (psI (M q1 0)) <|
  ck (nnI x3) <|
  (f_In_bitCount E M (andI x5 x3)).bind fun r19 =>
  ck (rgI ((M 40 x5.toNat) / (M q1 0))) <|
  ck (rgI r19) <|
  (if ((M 40 x5.toNat) / (M q1 0)) ≤ r19 then
  B_countErrors_j128 E M q1 x2 x3 x4 x5 0
  else
  B_countErrors_j128 E M q1 x2 x3 x4 x5 1))
def l_B_countErrors_92 (E : Ev) (q1 : Nat) (x2 : Int) (x3 : Int) : Nat → Mm → Int → Int → Option (Nat × Int × Int × Mm)
  | 0, _, _, _ => none
  | fu + 1, M, x4, x5 => (B_countErrors_92b E M q1 x2 x3 x4 x5).bind fun (t, w4, w5, N) => if t = 0 then l_B_countErrors_92 E q1 x2 x3 fu N w4 w5 else some (t, w4, w5, N)
def f_B_countErrors (E : Ev) (M : Mm) : Option (Int × Mm) :=
  (f_Co_latest E M).bind fun r0 =>
  (match r0 with
  | none =>
  some (0, M)
  | some p0 =>
  ck (isCt E p0) <|
  ck (rgI (M p0 0)) <|
  (if 1 ≤ (M p0 0) then
  ck (shI (M p0 1)) <|
  (l_B_countErrors_36 E p0 ((2 ^ (M p0 1).toNat) - 1) FU M 0 0).bind fun (t10, v10_3, v10_4, M10) =>
  ck (t10 = 1) <|
  (f_Co_unbalancedSteps E M10 p0).bind fun (r11, M11) =>
  (f_Bx_findSupport E M11 (p0 + 1) (M11 p0 2) ((2 ^ (M p0 1).toNat) - 1)).bind fun M12 =>
  (l_B_countErrors_92 E p0 ((2 ^ (M p0 1).toNat) - 1) v10_3 FU M12 r11 1).bind fun (t25, v25_4, v25_5, M25) =>
  ck (t25 = 1) <|
  some (v25_4, M25)
  else
  some (0, M)))
def f_B_isBeaterOfAllMissed (E : Ev) (M : Mm) : Option (Int × Mm) :=
  (f_Bx_everybody E M).bind fun r0 =>
  (f_Po_open E M r0).bind fun M1 =>
  (f_Po_beaterOfAll E M1).bind fun (r2, M2) =>
  ck (rgI r2) <|
  (if r2 = (-1) then
  some (0, M2)
  else
  (f_Po_findDistances E M2).bind fun M4 =>
  (f_Po_winnersByPaths E M4).bind fun (r5, M5) =>
  ck (shI r2) <|
  ck (rgI r5) <|
  ck (rgI (2 ^ r2.toNat)) <|
  (if r5 = (2 ^ r2.toNat) then
  (f_Po_consensusPlace E M5 0).bind fun r9 =>
  ck (rgI r9) <|
  (if r9 = r2 then
  some (0, M5)
  else
  some (1, M5))
  else
  some (1, M5)))
def Cl_findSums_12b (E : Ev) (M : Mm) (x1 : Int) (x2 : Int) : Option (Nat × Int × Mm) :=
  ck (shI x1) <|
  ck (rgI x2) <|
  ck (rgI (2 ^ x1.toNat)) <|
  (if (2 ^ x1.toNat) ≤ x2 then
  some (1, x2, M)
  else
  ck (shI x1) <|
  ck (nnI x2) <|
  ck (nnI (2 ^ x1.toNat)) <|
  ck (inb x2 4096) <|
  ck (inb x1 12) <|
  nb (((M 245 x2.toNat) + (M 244 x1.toNat))) fun (v10 : Int) =>
  ck (inb (orI x2 (2 ^ x1.toNat)) 4096) <|
  some (0, (x2 + 1), (u2 M 245 (orI x2 (2 ^ x1.toNat)).toNat v10)))
def l_Cl_findSums_12 (E : Ev) (x1 : Int) : Nat → Mm → Int → Option (Nat × Int × Mm)
  | 0, _, _ => none
  | fu + 1, M, x2 => (Cl_findSums_12b E M x1 x2).bind fun (t, w2, N) => if t = 0 then l_Cl_findSums_12 E x1 fu N w2 else some (t, w2, N)
def Cl_findSums_2b (E : Ev) (M : Mm) (x1 : Int) : Option (Nat × Int × Mm) :=
  ck (rgI x1) <|
  ck (rgI (M 243 0)) <|
  (if (M 243 0) ≤ x1 then
  some (1, x1, M)
  else
  (l_Cl_findSums_12 E x1 FU M 0).bind fun (t12, v12_2, M12) =>
  ck (t12 = 1) <|
  some (0, (x1 + 1), M12))
def l_Cl_findSums_2 (E : Ev) : Nat → Mm → Int → Option (Nat × Int × Mm)
  | 0, _, _ => none
  | fu + 1, M, x1 => (Cl_findSums_2b E M x1).bind fun (t, w1, N) => if t = 0 then l_Cl_findSums_2 E fu N w1 else some (t, w1, N)
def f_Cl_findSums (E : Ev) (M : Mm) : Option Mm :=
  (l_Cl_findSums_2 E FU M 0).bind fun (t13, v13_1, M13) =>
  ck (t13 = 1) <|
  some M13
def f_Cl_isSwung (E : Ev) (M : Mm) (x1 : Int) (x2 : Int) : Option Int :=
  ck (inb x1 4096) <|
  ck (rgI (M 245 x1.toNat)) <|
  ck (rgI (M 243 1)) <|
  (if (M 243 1) ≤ (M 245 x1.toNat) then
  some 0
  else
  ck (inb x2 12) <|
  ck (rgI ((M 245 x1.toNat) + (M 244 x2.toNat))) <|
  (if ((M 245 x1.toNat) + (M 244 x2.toNat)) < (M 243 1) then
  some 0
  else
  (f_B_has E M x1 x2).bind fun r5 =>
  ck (rgI r5) <|
  (if r5 = 0 then
  some 1
  else
  some 0)))
def Cl_ordersTurnedBy_5b (E : Ev) (M : Mm) (x1 : Int) (x2 : Int) (x4 : Int) : Option (Nat × Int × Int) :=
  ck (shI (M 243 0)) <|
  ck (rgI x4) <|
  ck (rgI (2 ^ (M 243 0).toNat)) <|
  (if (2 ^ (M 243 0).toNat) ≤ x4 then
  some (1, x2, x4)
  else
  (f_Cl_isSwung E M x4 x1).bind fun r3 =>
  ck (rgI r3) <|
  (if r3 = 0 then
  some (0, x2, (x4 + 1))
  else
  (f_In_bitCount E M x4).bind fun r5 =>
  ck (inb r5 13) <|
  ck (inb (((M 243 0) - 1) - r5) 13) <|
  nb ((x2 + ((facF r5.toNat) * (facF (((M 243 0) - 1) - r5).toNat)))) fun (v10 : Int) =>
  some (0, v10, (x4 + 1))))
def l_Cl_ordersTurnedBy_5 (E : Ev) (x1 : Int) : Nat → Mm → Int → Int → Option (Nat × Int × Int)
  | 0, _, _, _ => none
  | fu + 1, M, x2, x4 => (Cl_ordersTurnedBy_5b E M x1 x2 x4).bind fun (t, w2, w4) => if t = 0 then l_Cl_ordersTurnedBy_5 E x1 fu M w2 w4 else some (t, w2, w4)
def f_Cl_ordersTurnedBy (E : Ev) (M : Mm) (x1 : Int) : Option Int :=
  (l_Cl_ordersTurnedBy_5 E x1 FU M 0 0).bind fun (t11, v11_2, v11_4) =>
  ck (t11 = 1) <|
  some v11_2
def Cl_isOrderMissed_8b (E : Ev) (M : Mm) (x1 : Int) (x3 : Int) : Option (Nat × Int × Int × Mm) :=
  ck (rgI x3) <|
  ck (rgI (M 243 0)) <|
  (if (M 243 0) ≤ x3 then
  some (1, x1, x3, M)
  else
  (f_Cl_ordersTurnedBy E M x3).bind fun r3 =>
  some (0, (x1 + r3), (x3 + 1), M))
def l_Cl_isOrderMissed_8 (E : Ev) : Nat → Mm → Int → Int → Option (Nat × Int × Int × Mm)
  | 0, _, _, _ => none
  | fu + 1, M, x1, x3 => (Cl_isOrderMissed_8b E M x1 x3).bind fun (t, w1, w3, N) => if t = 0 then l_Cl_isOrderMissed_8 E fu N w1 w3 else some (t, w1, w3, N)
def f_Cl_isOrderMissed (E : Ev) (M : Mm) : Option (Int × Mm) :=
  (f_Cl_findSums E M).bind fun M0 =>
  (l_Cl_isOrderMissed_8 E FU M0 0 0).bind fun (t4, v4_1, v4_3, M4) =>
  ck (t4 = 1) <|
  ck (rgJ v4_1) <|
  (if v4_1 = 0 then
  some (0, M4)
  else
  ck (inb (M4 243 0) 13) <|
  ck (rgJ (facF (M4 243 0).toNat)) <|
  (if v4_1 = (facF (M4 243 0).toNat) then
  some (0, M4)
  else
  some (1, M4)))
def B_errors_j32 (E : Ev) (M : Mm) (y0 : Int) (y1 : Int) : Option (Int × Mm) :=
  (f_Cl_isOrderMissed E M).bind fun (r5, M5) =>
  ck (rgI r5) <|
  (if r5 = 0 then
  some (((y1 + y0) + 0), M5)
  else
  some (((y1 + y0) + 1), M5))
def B_errors_j15 (E : Ev) (M : Mm) (y0 : Int) : Option (Int × Mm) :=
  (f_B_countErrors E M).bind fun (r2, M2) =>
  (f_B_isBeaterOfAllMissed E M2).bind fun (r3, M3) =>
  ck (rgI r3) <|
  (if r3 = 0 then
  B_errors_j32 E M3 0 (y0 + r2)
  else
  B_errors_j32 E M3 1 (y0 + r2))
def f_B_errors (E : Ev) (M : Mm) : Option (Int × Mm) :=
  (f_Li_isUnjust E M).bind fun r0 =>
  ck (rgI r0) <|
  (if r0 = 0 then
  B_errors_j15 E M 0
  else
  B_errors_j15 E M 1)
def f_Li_append (E : Ev) (M : Mm) (x1 : Int) : Option (Int × Mm) :=
  ck (inb (M 53 0) 8) <|
  nb (u2 (u2 (u2 (u2 M 54 (M 53 0).toNat x1) 55 (M 53 0).toNat 0) 56 (M 53 0).toNat (M 53 0)) 53 0 (((u2 (u2 (u2 M 54 (M 53 0).toNat x1) 55 (M 53 0).toNat 0) 56 (M 53 0).toNat (M 53 0)) 53 0) + 1)) fun (M1 : Mm) =>
  some ((M 53 0), M1)
def f_B_list (E : Ev) (M : Mm) (x1 : Int) : Option (Int × Mm) :=
  (f_B_needRange E M x1 0 10000000).bind fun _u =>
  (f_B_needRoom E M ((M 53 0) + 1) 8).bind fun _u =>
  (f_Li_append E M x1).bind fun (r2, M2) =>
  (f_B_remember E M2 5 r2 0).bind fun M3 =>
  some (r2, M3)
def f_Di_clear (E : Ev) (M : Mm) (p0 : Nat) : Option Mm :=
  ck (isDi E p0) <|
  some (u2 (u2 M p0 0 0) p0 1 0)
def f_Li_isSameUnit (E : Ev) (M : Mm) (x1 : Int) (x2 : Int) : Option Int :=
  ck (rgI x1) <|
  ck (rgI x2) <|
  (if x1 = x2 then
  some 1
  else
  ck (inb x1 8) <|
  ck (rgI (M 55 x1.toNat)) <|
  (if (M 55 x1.toNat) ≤ 0 then
  some 0
  else
  ck (inb x2 8) <|
  ck (rgI (M 55 x2.toNat)) <|
  (if (M 55 x1.toNat) = (M 55 x2.toNat) then
  some 1
  else
  some 0)))
def Li_isFirstOfUnit_2b (E : Ev) (M : Mm) (x1 : Int) (x2 : Int) : Option (Nat × Int) :=
  ck (rgI x2) <|
  ck (rgI x1) <|
  (if x1 ≤ x2 then
  some (2, x2)
  else
  (f_Li_isSameUnit E M x1 x2).bind fun r2 =>
  ck (rgI r2) <|
  (if r2 = 0 then
  some (0, (x2 + 1))
  else
  some (1, x2)))
def l_Li_isFirstOfUnit_2 (E : Ev) (x1 : Int) : Nat → Mm → Int → Option (Nat × Int)
  | 0, _, _ => none
  | fu + 1, M, x2 => (Li_isFirstOfUnit_2b E M x1 x2).bind fun (t, w2) => if t = 0 then l_Li_isFirstOfUnit_2 E x1 fu M w2 else some (t, w2)
def f_Li_isFirstOfUnit (E : Ev) (M : Mm) (x1 : Int) : Option Int :=
  (l_Li_isFirstOfUnit_2 E x1 FU M 0).bind fun (t4, v4_2) =>
  (if t4 = 1 then
  some 0
  else (if t4 = 2 then
  some 1
  else none))
def f_Di_append (E : Ev) (M : Mm) (p0 : Nat) (x1 : Int) (x2 : Int) (x4 : Int) : Option Mm :=
  ck (isDi E p0) <|
  ck (rgI (M p0 0)) <|
  (if 8 ≤ (M p0 0) then
  some M
  else
  ck (inb (M p0 0) 8) <|
  ck (inb ((u2 M (p0 + 1) (M p0 0).toNat x1) p0 0) 8) <|
  nb (u2 (u2 M (p0 + 1) (M p0 0).toNat x1) (p0 + 2) ((u2 M (p0 + 1) (M p0 0).toNat x1) p0 0).toNat x2) fun (M3 : Mm) =>
  ck (inb (M3 p0 0) 8) <|
  ck (inb ((u2 M3 (p0 + 3) (M3 p0 0).toNat x4) p0 0) 8) <|
  nb (u2 (u2 M3 (p0 + 3) (M3 p0 0).toNat x4) (p0 + 4) ((u2 M3 (p0 + 3) (M3 p0 0).toNat x4) p0 0).toNat 0) fun (M6 : Mm) =>
  some (u2 M6 p0 0 ((M6 p0 0) + 1)))
def Li_appendUnit_9b (E : Ev) (M : Mm) (x1 : Int) (x2 : Int) (x4 : Int) (x6 : Int) (x7 : Int) : Option (Nat × Int × Int × Int × Mm) :=
  ck (rgI x7) <|
  ck (rgI (M 53 0)) <|
  (if (M 53 0) ≤ x7 then
  some (1, x4, x6, x7, M)
  else
  (f_Li_isSameUnit E M x1 x7).bind fun r2 =>
  ck (rgI r2) <|
  (if r2 = 0 then
  some (0, x4, x6, (x7 + 1), M)
  else
  ck (inb x7 8) <|
  ck (rgI (M 54 x7.toNat)) <|
  some (0, (x4 + (M 54 x7.toNat)), (x6 + 1), (x7 + 1), M)))
def l_Li_appendUnit_9 (E : Ev) (x1 : Int) (x2 : Int) : Nat → Mm → Int → Int → Int → Option (Nat × Int × Int × Int × Mm)
  | 0, _, _, _, _ => none
  | fu + 1, M, x4, x6, x7 => (Li_appendUnit_9b E M x1 x2 x4 x6 x7).bind fun (t, w4, w6, w7, N) => if t = 0 then l_Li_appendUnit_9 E x1 x2 fu N w4 w6 w7 else some (t, w4, w6, w7, N)
def f_Li_appendUnit (E : Ev) (M : Mm) (x1 : Int) (x2 : Int) : Option Mm :=
  (l_Li_appendUnit_9 E x1 x2 FU M 0 0 x1).bind fun (t6, v6_4, v6_6, v6_7, M6) =>
  ck (t6 = 1) <|
  ck (rgJ v6_4) <|
  (if v6_4 ≤ 0 then
  some M6
  else
  ck (rgJ (v6_4 * 100)) <|
  ck (rgJ x2) <|
  (if (v6_4 * 100) < x2 then
  some M6
  else
  ck (inb x1 8) <|
  (f_Di_append E M6 57 x1 v6_4 (M6 56 x1.toNat)).bind fun M11 =>
  ck (rgI (M11 53 6)) <|
  (if (M11 53 6) = 0 then
  ck (rgI v6_6) <|
  (if v6_6 ≤ 1 then
  some (u2 M11 53 6 0)
  else
  some (u2 M11 53 6 1))
  else
  some (u2 M11 53 6 1))))
def f_Di_give (E : Ev) (M : Mm) (p0 : Nat) (x1 : Int) : Option Mm :=
  ck (isDi E p0) <|
  ck (inb x1 8) <|
  ck (rgI ((u2 M (p0 + 4) x1.toNat ((M (p0 + 4) x1.toNat) + 1)) p0 1)) <|
  (if 61 ≤ ((u2 M (p0 + 4) x1.toNat ((M (p0 + 4) x1.toNat) + 1)) p0 1) then
  some (u2 M (p0 + 4) x1.toNat ((M (p0 + 4) x1.toNat) + 1))
  else
  nb (((u2 M (p0 + 4) x1.toNat ((M (p0 + 4) x1.toNat) + 1)) (p0 + 1) x1.toNat)) fun (v2 : Int) =>
  ck (inb ((u2 M (p0 + 4) x1.toNat ((M (p0 + 4) x1.toNat) + 1)) p0 1) 61) <|
  nb (u2 (u2 M (p0 + 4) x1.toNat ((M (p0 + 4) x1.toNat) + 1)) (p0 + 6) ((u2 M (p0 + 4) x1.toNat ((M (p0 + 4) x1.toNat) + 1)) p0 1).toNat v2) fun (M4 : Mm) =>
  some (u2 M4 p0 1 ((M4 p0 1) + 1)))
def f_Di_winsTie (E : Ev) (M : Mm) (p0 : Nat) (x1 : Int) (x2 : Int) : Option Int :=
  ck (isDi E p0) <|
  ck (inb x1 8) <|
  ck (inb x2 8) <|
  ck (rgJ (M (p0 + 2) x1.toNat)) <|
  ck (rgJ (M (p0 + 2) x2.toNat)) <|
  (if (M (p0 + 2) x1.toNat) = (M (p0 + 2) x2.toNat) then
  ck (rgI (M (p0 + 3) x1.toNat)) <|
  ck (rgI (M (p0 + 3) x2.toNat)) <|
  (if (M (p0 + 3) x1.toNat) < (M (p0 + 3) x2.toNat) then
  some 1
  else
  (if (M (p0 + 3) x1.toNat) = (M (p0 + 3) x2.toNat) then
  ck (rgI (M (p0 + 1) x1.toNat)) <|
  ck (rgI (M (p0 + 1) x2.toNat)) <|
  (if (M (p0 + 1) x2.toNat) ≤ (M (p0 + 1) x1.toNat) then
  some 0
  else
  some 1)
  else
  some 0))
  else
  (if (M (p0 + 2) x1.toNat) ≤ (M (p0 + 2) x2.toNat) then
  some 0
  else
  some 1))
def Di_giveToGreatestRemainder_4b (E : Ev) (M : Mm) (q0 : Nat) (x1 : Int) (x2 : Int) : Option (Nat × Int × Int × Mm) :=
  ck (isDi E q0) <|
  ck (rgI x2) <|
  ck (rgI (M q0 0)) <|
  (if (M q0 0) ≤ x2 then
  some (1, x1, x2, M)
  else
  ck (inb x2 8) <|
  ck (inb x1 8) <|
  ck (rgJ (M (q0 + 5) x2.toNat)) <|
  ck (rgJ (M (q0 + 5) x1.toNat)) <|
  (if (M (q0 + 5) x1.toNat) < (M (q0 + 5) x2.toNat) then
  some (0, x2, (x2 + 1), M)
  else
  (if (M (q0 + 5) x2.toNat) = (M (q0 + 5) x1.toNat) then
  (f_Di_winsTie E M q0 x2 x1).bind fun r6 =>
  ck (rgI r6) <|
  (if r6 = 0 then
  some (0, x1, (x2 + 1), M)
  else
  some (0, x2, (x2 + 1), M))
  else
  some (0, x1, (x2 + 1), M))))
def l_Di_giveToGreatestRemainder_4 (E : Ev) (q0 : Nat) : Nat → Mm → Int → Int → Option (Nat × Int × Int × Mm)
  | 0, _, _, _ => none
  | fu + 1, M, x1, x2 => (Di_giveToGreatestRemainder_4b E M q0 x1 x2).bind fun (t, w1, w2, N) => if t = 0 then l_Di_giveToGreatestRemainder_4 E q0 fu N w1 w2 else some (t, w1, w2, N)
def f_Di_giveToGreatestRemainder (E : Ev) (M : Mm) (p0 : Nat) : Option Mm :=
  ck (isDi E p0) <|
  (l_Di_giveToGreatestRemainder_4 E p0 FU M 0 1).bind fun (t8, v8_1, v8_2, M8) =>
  ck (t8 = 1) <|
  (f_Di_give E M8 p0 v8_1).bind fun M9 =>
  ck (inb v8_1 8) <|
  some (u2 M9 (p0 + 5) v8_1.toNat (-1))
def Di_distributeByRemainders_5b (E : Ev) (M : Mm) (q0 : Nat) (x1 : Int) (x2 : Int) (x4 : Int) : Option (Nat × Int × Int × Mm) :=
  ck (isDi E q0) <|
  ck (rgI x4) <|
  ck (rgI (M q0 0)) <|
  (if (M q0 0) ≤ x4 then
  some (1, x2, x4, M)
  else
  ck (inb x4 8) <|
  some (0, (x2 + (M (q0 + 2) x4.toNat)), (x4 + 1), M))
def l_Di_distributeByRemainders_5 (E : Ev) (q0 : Nat) (x1 : Int) : Nat → Mm → Int → Int → Option (Nat × Int × Int × Mm)
  | 0, _, _, _ => none
  | fu + 1, M, x2, x4 => (Di_distributeByRemainders_5b E M q0 x1 x2 x4).bind fun (t, w2, w4, N) => if t = 0 then l_Di_distributeByRemainders_5 E q0 x1 fu N w2 w4 else some (t, w2, w4, N)
def Di_distributeByRemainders_89b (E : Ev) (M : Mm) (q0 : Nat) (x1 : Int) (x2 : Int) (x4 : Int) (x5 : Int) (x6 : Int) (x7 : Int) : Option (Nat × Int × Mm) :=
  ck (isDi E q0) <|
  ck (rgI x7) <|
  ck (rgI x6) <|
  (if x6 ≤ x7 then
  some (1, x7, M)
  else
  (f_Di_give E M q0 x5).bind fun M16 =>
  some (0, (x7 + 1), M16))
def l_Di_distributeByRemainders_89 (E : Ev) (q0 : Nat) (x1 : Int) (x2 : Int) (x4 : Int) (x5 : Int) (x6 : Int) : Nat → Mm → Int → Option (Nat × Int × Mm)
  | 0, _, _ => none
  | fu + 1, M, x7 => (Di_distributeByRemainders_89b E M q0 x1 x2 x4 x5 x6 x7).bind fun (t, w7, N) => if t = 0 then l_Di_distributeByRemainders_89 E q0 x1 x2 x4 x5 x6 fu N w7 else some (t, w7, N)
def Di_distributeByRemainders_43b (E : Ev) (M : Mm) (q0 : Nat) (x1 : Int) (x2 : Int) (x4 : Int) (x5 : Int) : Option (Nat × Int × Int × Mm) :=
  ck (isDi E q0) <|
  ck (rgI x5) <|
  ck (rgI (M q0 0)) <|
  (if (M q0 0) ≤ x5 then
  some (1, x4, x5, M)
  else
  ck (inb x5 8) <|
  ck (rgI x1) <|
  ck (nnJ ((M (q0 + 2) x5.toNat) * x1)) <|
  ck (psJ x2) <|
  nb ((((M (q0 + 2) x5.toNat) * x1) / x2)) fun (v11 : Int) =>
  ck (psJ x2) <|
  nb ((((M (q0 + 2) x5.toNat) * x1) % x2)) fun (v13 : Int) =>
  (l_Di_distributeByRemainders_89 E q0 x1 x2 x4 x5 v11 FU (u2 M (q0 + 5) x5.toNat v13) 0).bind fun (t17, v17_7, M17) =>
  ck (t17 = 1) <|
  some (0, (x4 + v11), (x5 + 1), M17))
def l_Di_distributeByRemainders_43 (E : Ev) (q0 : Nat) (x1 : Int) (x2 : Int) : Nat → Mm → Int → Int → Option (Nat × Int × Int × Mm)
  | 0, _, _, _ => none
  | fu + 1, M, x4, x5 => (Di_distributeByRemainders_43b E M q0 x1 x2 x4 x5).bind fun (t, w4, w5, N) => if t = 0 then l_Di_distributeByRemainders_43 E q0 x1 x2 fu N w4 w5 else some (t, w4, w5, N)
def Di_distributeByRemainders_125b (E : Ev) (M : Mm) (q0 : Nat) (x1 : Int) (x5 : Int) : Option (Nat × Int × Mm) :=
  ck (isDi E q0) <|
  ck (rgI x5) <|
  ck (rgI x1) <|
  (if x1 ≤ x5 then
  some (1, x5, M)
  else
  (f_Di_giveToGreatestRemainder E M q0).bind fun M21 =>
  some (0, (x5 + 1), M21))
def l_Di_distributeByRemainders_125 (E : Ev) (q0 : Nat) (x1 : Int) : Nat → Mm → Int → Option (Nat × Int × Mm)
  | 0, _, _ => none
  | fu + 1, M, x5 => (Di_distributeByRemainders_125b E M q0 x1 x5).bind fun (t, w5, N) => if t = 0 then l_Di_distributeByRemainders_125 E q0 x1 fu N w5 else some (t, w5, N)
def f_Di_distributeByRemainders (E : Ev) (M : Mm) (p0 : Nat) (x1 : Int) : Option Mm :=
  ck (isDi E p0) <|
  (l_Di_distributeByRemainders_5 E p0 x1 FU M 0 0).bind fun (t3, v3_2, v3_4, M3) =>
  ck (t3 = 1) <|
  ck (rgJ v3_2) <|
  (if v3_2 = 0 then
  some M3
  else
  (l_Di_distributeByRemainders_43 E p0 x1 v3_2 FU M3 0 0).bind fun (t18, v18_4, v18_5, M18) =>
  ck (t18 = 1) <|
  (l_Di_distributeByRemainders_125 E p0 x1 FU M18 v18_4).bind fun (t22, v22_5, M22) =>
  ck (t22 = 1) <|
  some M22)
def f_Di_divisor (E : Ev) (M : Mm) (p0 : Nat) (x1 : Int) (x2 : Int) : Option Int :=
  ck (isDi E p0) <|
  ck (rgI x1) <|
  (if x1 = 0 then
  ck (rgI (x2 + 1)) <|
  some (x2 + 1)
  else
  (if x1 = 1 then
  ck (rgI ((2 * x2) + 1)) <|
  some ((2 * x2) + 1)
  else
  (if x1 = 2 then
  ck (rgI x2) <|
  (if x2 = 0 then
  some 14
  else
  ck (rgI ((20 * x2) + 10)) <|
  some ((20 * x2) + 10))
  else
  (if x1 = 3 then
  ck (rgI ((3 * x2) + 1)) <|
  some ((3 * x2) + 1)
  else
  ck (rgI (x2 + 2)) <|
  some (x2 + 2)))))
def f_Di_hasGreaterQuotient (E : Ev) (M : Mm) (p0 : Nat) (x1 : Int) (x2 : Int) (x3 : Int) : Option Int :=
  ck (isDi E p0) <|
  ck (inb x1 8) <|
  ck (inb x2 8) <|
  (f_Di_divisor E M p0 x3 (M (p0 + 4) x2.toNat)).bind fun r2 =>
  (f_Di_divisor E M p0 x3 (M (p0 + 4) x1.toNat)).bind fun r3 =>
  ck (rgJ ((M (p0 + 2) x1.toNat) * r2)) <|
  ck (rgJ ((M (p0 + 2) x2.toNat) * r3)) <|
  (if ((M (p0 + 2) x2.toNat) * r3) < ((M (p0 + 2) x1.toNat) * r2) then
  some 1
  else
  (if ((M (p0 + 2) x1.toNat) * r2) = ((M (p0 + 2) x2.toNat) * r3) then
  (f_Di_winsTie E M p0 x1 x2).bind fun r6 =>
  ck (rgI r6) <|
  (if r6 = 0 then
  some 0
  else
  some 1)
  else
  some 0))
def Di_distribute_32b (E : Ev) (M : Mm) (q0 : Nat) (x1 : Int) (x2 : Int) (x3 : Int) (x4 : Int) (x5 : Int) : Option (Nat × Int × Int × Mm) :=
  ck (isDi E q0) <|
  ck (rgI x5) <|
  ck (rgI (M q0 0)) <|
  (if (M q0 0) ≤ x5 then
  some (1, x4, x5, M)
  else
  (f_Di_hasGreaterQuotient E M q0 x5 x4 x1).bind fun r6 =>
  ck (rgI r6) <|
  (if r6 = 0 then
  some (0, x4, (x5 + 1), M)
  else
  some (0, x5, (x5 + 1), M)))
def l_Di_distribute_32 (E : Ev) (q0 : Nat) (x1 : Int) (x2 : Int) (x3 : Int) : Nat → Mm → Int → Int → Option (Nat × Int × Int × Mm)
  | 0, _, _, _ => none
  | fu + 1, M, x4, x5 => (Di_distribute_32b E M q0 x1 x2 x3 x4 x5).bind fun (t, w4, w5, N) => if t = 0 then l_Di_distribute_32 E q0 x1 x2 x3 fu N w4 w5 else some (t, w4, w5, N)
def Di_distribute_21b (E : Ev) (M : Mm) (q0 : Nat) (x1 : Int) (x2 : Int) (x3 : Int) : Option (Nat × Int × Mm) :=
  ck (isDi E q0) <|
  ck (rgI x3) <|
  ck (rgI x2) <|
  (if x2 ≤ x3 then
  some (1, x3, M)
  else
  (l_Di_distribute_32 E q0 x1 x2 x3 FU M 0 1).bind fun (t8, v8_4, v8_5, M8) =>
  ck (t8 = 1) <|
  (f_Di_give E M8 q0 v8_4).bind fun M9 =>
  some (0, (x3 + 1), M9))
def l_Di_distribute_21 (E : Ev) (q0 : Nat) (x1 : Int) (x2 : Int) : Nat → Mm → Int → Option (Nat × Int × Mm)
  | 0, _, _ => none
  | fu + 1, M, x3 => (Di_distribute_21b E M q0 x1 x2 x3).bind fun (t, w3, N) => if t = 0 then l_Di_distribute_21 E q0 x1 x2 fu N w3 else some (t, w3, N)
def f_Di_distribute (E : Ev) (M : Mm) (p0 : Nat) (x1 : Int) (x2 : Int) : Option Mm :=
  ck (isDi E p0) <|
  ck (rgI (M p0 0)) <|
  (if (M p0 0) = 0 then
  some M
  else
  ck (rgI x1) <|
  (if x1 = 5 then
  (f_Di_distributeByRemainders E M p0 x2).bind fun M11 =>
  some M11
  else
  (l_Di_distribute_21 E p0 x1 x2 FU M 0).bind fun (t10, v10_3, M10) =>
  ck (t10 = 1) <|
  some M10))
def Li_spreadInside_10b (E : Ev) (M : Mm) (x1 : Int) (x2 : Int) (x3 : Int) (x4 : Int) : Option (Nat × Int × Mm) :=
  ck (rgI x4) <|
  ck (rgI (M 53 0)) <|
  (if (M 53 0) ≤ x4 then
  some (1, x4, M)
  else
  (f_Li_isSameUnit E M x1 x4).bind fun r3 =>
  ck (rgI r3) <|
  (if r3 = 0 then
  some (0, (x4 + 1), M)
  else
  ck (inb x4 8) <|
  ck (rgI (M 54 x4.toNat)) <|
  (if (M 54 x4.toNat) ≤ 0 then
  some (0, (x4 + 1), M)
  else
  (f_Di_append E M 64 x4 (M 54 x4.toNat) (M 56 x4.toNat)).bind fun M7 =>
  some (0, (x4 + 1), M7))))
def l_Li_spreadInside_10 (E : Ev) (x1 : Int) (x2 : Int) (x3 : Int) : Nat → Mm → Int → Option (Nat × Int × Mm)
  | 0, _, _ => none
  | fu + 1, M, x4 => (Li_spreadInside_10b E M x1 x2 x3 x4).bind fun (t, w4, N) => if t = 0 then l_Li_spreadInside_10 E x1 x2 x3 fu N w4 else some (t, w4, N)
def Li_spreadInside_81b (E : Ev) (M : Mm) (x4 : Int) : Option (Nat × Int × Mm) :=
  ck (rgI x4) <|
  ck (rgI (M 64 0)) <|
  (if (M 64 0) ≤ x4 then
  some (1, x4, M)
  else
  ck (inb x4 8) <|
  ck (inb (M 65 x4.toNat) 8) <|
  some (0, (x4 + 1), (u2 M 71 (M 65 x4.toNat).toNat (M 68 x4.toNat))))
def l_Li_spreadInside_81 (E : Ev) : Nat → Mm → Int → Option (Nat × Int × Mm)
  | 0, _, _ => none
  | fu + 1, M, x4 => (Li_spreadInside_81b E M x4).bind fun (t, w4, N) => if t = 0 then l_Li_spreadInside_81 E fu N w4 else some (t, w4, N)
def f_Li_spreadInside (E : Ev) (M : Mm) (x1 : Int) (x2 : Int) (x3 : Int) : Option Mm :=
  (f_Di_clear E M 64).bind fun M0 =>
  (l_Li_spreadInside_10 E x1 x2 x3 FU M0 x1).bind fun (t8, v8_4, M8) =>
  ck (t8 = 1) <|
  (f_Di_distribute E M8 64 x2 x3).bind fun M9 =>
  (l_Li_spreadInside_81 E FU M9 0).bind fun (t14, v14_4, M14) =>
  ck (t14 = 1) <|
  some M14
def Li_spread_6b (E : Ev) (M : Mm) (x1 : Int) (x2 : Int) (x3 : Int) (x4 : Int) (x6 : Int) : Option (Nat × Int × Int × Mm) :=
  ck (rgI x6) <|
  ck (rgI (M 53 0)) <|
  (if (M 53 0) ≤ x6 then
  some (1, x4, x6, M)
  else
  ck (inb x6 8) <|
  ck (rgI (M 54 x6.toNat)) <|
  some (0, (x4 + (M 54 x6.toNat)), (x6 + 1), M))
def l_Li_spread_6 (E : Ev) (x1 : Int) (x2 : Int) (x3 : Int) : Nat → Mm → Int → Int → Option (Nat × Int × Int × Mm)
  | 0, _, _, _ => none
  | fu + 1, M, x4, x6 => (Li_spread_6b E M x1 x2 x3 x4 x6).bind fun (t, w4, w6, N) => if t = 0 then l_Li_spread_6 E x1 x2 x3 fu N w4 w6 else some (t, w4, w6, N)
def Li_spread_49b (E : Ev) (M : Mm) (x1 : Int) (x2 : Int) (x3 : Int) (x4 : Int) (x6 : Int) : Option (Nat × Int × Mm) :=
  ck (rgI x6) <|
  ck (rgI (M 53 0)) <|
  (if (M 53 0) ≤ x6 then
  some (1, x6, M)
  else
  (f_Li_isFirstOfUnit E M x6).bind fun r8 =>
  ck (rgI r8) <|
  (if r8 = 0 then
  some (0, (x6 + 1), M)
  else
  ck (rgI x3) <|
  (f_Li_appendUnit E M x6 (x3 * x4)).bind fun M11 =>
  some (0, (x6 + 1), M11)))
def l_Li_spread_49 (E : Ev) (x1 : Int) (x2 : Int) (x3 : Int) (x4 : Int) : Nat → Mm → Int → Option (Nat × Int × Mm)
  | 0, _, _ => none
  | fu + 1, M, x6 => (Li_spread_49b E M x1 x2 x3 x4 x6).bind fun (t, w6, N) => if t = 0 then l_Li_spread_49 E x1 x2 x3 x4 fu N w6 else some (t, w6, N)
def Li_spread_104b (E : Ev) (M : Mm) (x1 : Int) (x6 : Int) : Option (Nat × Int × Mm) :=
  ck (rgI x6) <|
  ck (rgI (M 57 0)) <|
  (if (M 57 0) ≤ x6 then
  some (1, x6, M)
  else
  ck (inb x6 8) <|
  (f_Li_spreadInside E M (M 58 x6.toNat) x1 (M 61 x6.toNat)).bind fun M18 =>
  some (0, (x6 + 1), M18))
def l_Li_spread_104 (E : Ev) (x1 : Int) : Nat → Mm → Int → Option (Nat × Int × Mm)
  | 0, _, _ => none
  | fu + 1, M, x6 => (Li_spread_104b E M x1 x6).bind fun (t, w6, N) => if t = 0 then l_Li_spread_104 E x1 fu N w6 else some (t, w6, N)
def f_Li_spread (E : Ev) (M : Mm) (x1 : Int) (x2 : Int) (x3 : Int) : Option (Int × Mm) :=
  (l_Li_spread_6 E x1 x2 x3 FU M 0 0).bind fun (t4, v4_4, v4_6, M4) =>
  ck (t4 = 1) <|
  (f_Di_clear E M4 57).bind fun M5 =>
  (l_Li_spread_49 E x1 x2 x3 v4_4 FU (u2 M5 53 6 0) 0).bind fun (t12, v12_6, M12) =>
  ck (t12 = 1) <|
  (f_Di_distribute E M12 57 x1 x2).bind fun M13 =>
  (f_Ar_fillI E M13 71 0).bind fun M14 =>
  (l_Li_spread_104 E x1 FU M14 0).bind fun (t19, v19_6, M19) =>
  ck (t19 = 1) <|
  some ((M19 57 0), M19)
def f_Li_keepSpread (E : Ev) (M : Mm) : Option Mm :=
  ck (nnI ((M 53 10) + 1)) <|
  ck (inb ((u2 M 53 10 (((M 53 10) + 1) % 21)) 53 10) 21) <|
  ck (rgI ((u2 M 53 10 (((M 53 10) + 1) % 21)) 57 1)) <|
  nb ((min ((u2 M 53 10 (((M 53 10) + 1) % 21)) 57 1) 60)) fun (v3 : Int) =>
  nb (u2 (u2 M 53 10 (((M 53 10) + 1) % 21)) (74 + 5 * ((u2 M 53 10 (((M 53 10) + 1) % 21)) 53 10).toNat) 0 v3) fun (M4 : Mm) =>
  ck ((M4 53 6) = 0 ∨ (M4 53 6) = 1) <|
  nb (u2 (u2 M4 (74 + 5 * ((u2 M 53 10 (((M 53 10) + 1) % 21)) 53 10).toNat) 1 (M4 53 6)) (74 + 5 * ((u2 M 53 10 (((M 53 10) + 1) % 21)) 53 10).toNat) 2 ((u2 M4 (74 + 5 * ((u2 M 53 10 (((M 53 10) + 1) % 21)) 53 10).toNat) 1 (M4 53 6)) 53 0)) fun (M6 : Mm) =>
  ck (cpk 0 0 (M6 (74 + 5 * ((u2 M 53 10 (((M 53 10) + 1) % 21)) 53 10).toNat) 0) 61 60) <|
  nb (uA M6 ((74 + 5 * ((u2 M 53 10 (((M 53 10) + 1) % 21)) 53 10).toNat) + 1) (va_cpy (M6 63) (M6 ((74 + 5 * ((u2 M 53 10 (((M 53 10) + 1) % 21)) 53 10).toNat) + 1)) 0 0 (M6 (74 + 5 * ((u2 M 53 10 (((M 53 10) + 1) % 21)) 53 10).toNat) 0).toNat)) fun (M8 : Mm) =>
  ck (cpk 0 0 8 8 8) <|
  nb (uA M8 ((74 + 5 * ((u2 M 53 10 (((M 53 10) + 1) % 21)) 53 10).toNat) + 2) (va_cpy (M8 71) (M8 ((74 + 5 * ((u2 M 53 10 (((M 53 10) + 1) % 21)) 53 10).toNat) + 2)) 0 0 8)) fun (M10 : Mm) =>
  ck (cpk 0 0 8 8 8) <|
  nb (uA M10 ((74 + 5 * ((u2 M 53 10 (((M 53 10) + 1) % 21)) 53 10).toNat) + 3) (va_cpy (M10 54) (M10 ((74 + 5 * ((u2 M 53 10 (((M 53 10) + 1) % 21)) 53 10).toNat) + 3)) 0 0 8)) fun (M12 : Mm) =>
  ck (cpk 0 0 8 8 8) <|
  nb (uA M12 ((74 + 5 * ((u2 M 53 10 (((M 53 10) + 1) % 21)) 53 10).toNat) + 4) (va_cpy (M12 55) (M12 ((74 + 5 * ((u2 M 53 10 (((M 53 10) + 1) % 21)) 53 10).toNat) + 4)) 0 0 8)) fun (M14 : Mm) =>
  some M14
def f_B_seats (E : Ev) (M : Mm) (x1 : Int) (x2 : Int) (x3 : Int) : Option (Int × Mm) :=
  (f_B_needRange E M x1 0 5).bind fun _u =>
  (f_B_needRange E M x2 1 60).bind fun _u =>
  (f_B_needRange E M x3 0 20).bind fun _u =>
  (f_Li_spread E M x1 x2 x3).bind fun (r3, M3) =>
  (f_Li_keepSpread E M3).bind fun M4 =>
  (f_B_remember E M4 8 0 0).bind fun M5 =>
  some (r3, M5)
def f_B_seatsOf (E : Ev) (M : Mm) (x1 : Int) : Option Int :=
  (f_B_needIndex E M x1 (M 53 0)).bind fun _u =>
  (f_Li_latest E M).bind fun r1 =>
  ck (isKs E r1) <|
  ck (inb x1 8) <|
  some (M (r1 + 2) x1.toNat)
def La_divisor_j35 (E : Ev) (M : Mm) (x0 : Int) (x1 : Int) : Option Int :=
  ck (rgI x0) <|
  (if x0 = 2 then
  some 7
  else
  (if x0 = 3 then
  some ((15 * x1) + 5)
  else
  some ((5 * x1) + 10)))
def f_La_divisor (E : Ev) (M : Mm) (x0 : Int) (x1 : Int) : Option Int :=
  ck (rgI x0) <|
  (if x0 = 0 then
  some ((5 * x1) + 5)
  else
  (if x0 = 1 then
  some ((10 * x1) + 5)
  else
  (if x0 = 2 then
  ck (rgI x1) <|
  (if x1 ≤ 0 then
  La_divisor_j35 E M x0 x1
  else
  some ((10 * x1) + 5))
  else
  La_divisor_j35 E M x0 x1)))
def B_seatAt_j24 (E : Ev) (M : Mm) (x1 : Int) (q2 : Nat) (y0 : Int) (y1 : Int) : Option Int :=
  ck (isKs E q2) <|
  (f_B_needPlace E M y1 y0).bind fun _u =>
  ck (inb x1 60) <|
  some (M (q2 + 1) x1.toNat)
def f_B_seatAt (E : Ev) (M : Mm) (x1 : Int) : Option Int :=
  (f_Li_latest E M).bind fun r0 =>
  ck (isKs E r0) <|
  ck (rgI (M r0 1)) <|
  (if (M r0 1) = 0 then
  B_seatAt_j24 E M x1 r0 (M r0 0) x1
  else
  B_seatAt_j24 E M x1 r0 0 x1)
def f_B_ally (E : Ev) (M : Mm) (x1 : Int) (x2 : Int) : Option (Int × Mm) :=
  (f_B_needIndex E M x1 (M 53 0)).bind fun _u =>
  (f_B_needRange E M x2 0 4).bind fun _u =>
  ck (inb x1 8) <|
  (f_B_remember E (u2 M 55 x1.toNat x2) 7 x1 (M 55 x1.toNat)).bind fun M3 =>
  some ((M 55 x1.toNat), M3)
def La_seats_j59 (E : Ev) (M : Mm) (x2 : Int) (q3 : Nat) (x4 : Int) (x6 : Int) (y0 : Int) (y1 : Int) (y2 : Nat) : Option (Nat × Int × Int × Ev × Mm) :=
  ck (Lay E) <|
  ck (isIA E q3) <|
  ck (isIA E y2) <|
  ck (inb y1 (tE E y2).2) <|
  ck (inb x6 (tE E q3).2) <|
  ck (rgI ((u2 M y2 y1.toNat y0) q3 x6.toNat)) <|
  nb ((x4 + ((u2 M y2 y1.toNat y0) q3 x6.toNat))) fun (v13 : Int) =>
  (f_B_list E (u2 M y2 y1.toNat y0) ((u2 M y2 y1.toNat y0) q3 x6.toNat)).bind fun (r14, M14) =>
  (f_La_next E M14 1 3).bind fun (r15, M15) =>
  ck (rgI r15) <|
  (if r15 = 0 then
  (f_La_next E M15 1 100).bind fun (r17, M17) =>
  (f_B_setLot E M17 1 x6 r17).bind fun (r18, M18) =>
  some (0, v13, (x6 + 1), E, M18)
  else
  some (0, v13, (x6 + 1), E, M15))
def La_seats_27b (E : Ev) (M : Mm) (x2 : Int) (q3 : Nat) (x4 : Int) (x6 : Int) : Option (Nat × Int × Int × Ev × Mm) :=
  ck (Lay E) <|
  ck (isIA E q3) <|
  ck (rgI x6) <|
  ck (rgI x2) <|
  (if x2 ≤ x6 then
  some (1, x4, x6, E, M)
  else
  (f_La_next E M 1 3).bind fun (r7, M7) =>
  ck (rgI r7) <|
  (if r7 = 0 then
  (f_La_next E M7 1 20).bind fun (r19, M19) =>
  La_seats_j59 E M19 x2 q3 x4 x6 r19 x6 q3
  else
  (f_La_next E M7 1 100000).bind fun (r9, M9) =>
  La_seats_j59 E M9 x2 q3 x4 x6 r9 x6 q3))
def l_La_seats_27 (x2 : Int) (q3 : Nat) : Nat → Ev → Mm → Int → Int → Option (Nat × Int × Int × Ev × Mm)
  | 0, _, _, _, _ => none
  | fu + 1, E, M, x4, x6 => (La_seats_27b E M x2 q3 x4 x6).bind fun (t, w4, w6, F, N) => if t = 0 then l_La_seats_27 x2 q3 fu F N w4 w6 else some (t, w4, w6, F, N)
def La_seats_j238 (E : Ev) (M : Mm) (x2 : Int) (q3 : Nat) (x4 : Int) (x6 : Int) (x7 : Int) (x8 : Int) (x9 : Int) (x12 : Int) (x13 : Int) (x14 : Int) (y0 : Int) : Option (Nat × Int × Int × Ev × Mm) :=
  ck (Lay E) <|
  ck (isIA E q3) <|
  ck (rgI y0) <|
  (if y0 = 0 then
  some (0, 0, (x14 + 1), E, M)
  else
  ck (rgI x6) <|
  (if x6 = 5 then
  some (0, 1, (x14 + 1), E, M)
  else
  ck (rgI x13) <|
  (if x13 = 0 then
  some (0, 1, (x14 + 1), E, M)
  else
  ck (inb x12 (tE E q3).2) <|
  ck (rgI (M q3 x12.toNat)) <|
  (f_B_seatsOf E M x14).bind fun r37 =>
  (f_La_divisor E M x6 r37).bind fun r38 =>
  ck (rgI r38) <|
  ck (inb x14 (tE E q3).2) <|
  ck (rgI (M q3 x14.toNat)) <|
  (f_La_divisor E M x6 (x13 - 1)).bind fun r42 =>
  ck (rgI r42) <|
  ck (rgJ ((M q3 x12.toNat) * r38)) <|
  ck (rgJ ((M q3 x14.toNat) * r42)) <|
  (if ((M q3 x12.toNat) * r38) < ((M q3 x14.toNat) * r42) then
  some (0, 0, (x14 + 1), E, M)
  else
  some (0, 1, (x14 + 1), E, M)))))
def La_seats_200b (E : Ev) (M : Mm) (x2 : Int) (q3 : Nat) (x4 : Int) (x6 : Int) (x7 : Int) (x8 : Int) (x9 : Int) (x12 : Int) (x13 : Int) (x11 : Int) (x14 : Int) : Option (Nat × Int × Int × Ev × Mm) :=
  ck (Lay E) <|
  ck (isIA E q3) <|
  ck (rgI x14) <|
  ck (rgI x2) <|
  (if x2 ≤ x14 then
  some (1, x11, x14, E, M)
  else
  ck (rgI x11) <|
  (if x11 = 0 then
  La_seats_j238 E M x2 q3 x4 x6 x7 x8 x9 x12 x13 x14 0
  else
  ck (inb x12 (tE E q3).2) <|
  ck (inb x14 (tE E q3).2) <|
  ck (rgI (M q3 x12.toNat)) <|
  ck (rgI (M q3 x14.toNat)) <|
  (if (M q3 x12.toNat) ≤ (M q3 x14.toNat) then
  La_seats_j238 E M x2 q3 x4 x6 x7 x8 x9 x12 x13 x14 1
  else
  (f_B_seatsOf E M x14).bind fun r50 =>
  ck (rgI x13) <|
  ck (rgI r50) <|
  (if x13 < r50 then
  La_seats_j238 E M x2 q3 x4 x6 x7 x8 x9 x12 x13 x14 0
  else
  La_seats_j238 E M x2 q3 x4 x6 x7 x8 x9 x12 x13 x14 1))))
def l_La_seats_200 (x2 : Int) (q3 : Nat) (x4 : Int) (x6 : Int) (x7 : Int) (x8 : Int) (x9 : Int) (x12 : Int) (x13 : Int) : Nat → Ev → Mm → Int → Int → Option (Nat × Int × Int × Ev × Mm)
  | 0, _, _, _, _ => none
  | fu + 1, E, M, x11, x14 => (La_seats_200b E M x2 q3 x4 x6 x7 x8 x9 x12 x13 x11 x14).bind fun (t, w11, w14, F, N) => if t = 0 then l_La_seats_200 x2 q3 x4 x6 x7 x8 x9 x12 x13 fu F N w11 w14 else some (t, w11, w14, F, N)
def La_seats_151b (E : Ev) (M : Mm) (x2 : Int) (q3 : Nat) (x4 : Int) (x6 : Int) (x7 : Int) (x8 : Int) (x9 : Int) (x11 : Int) (x12 : Int) : Option (Nat × Int × Int × Int × Ev × Mm) :=
  ck (Lay E) <|
  ck (isIA E q3) <|
  ck (rgI x12) <|
  ck (rgI x2) <|
  (if x2 ≤ x12 then
  some (1, x9, x11, x12, E, M)
  else
  (f_B_seatsOf E M x12).bind fun r26 =>
  ck (rgI r26) <|
  ck (rgI x11) <|
  (if x11 = 0 then
  (l_La_seats_200 x2 q3 x4 x6 x7 x8 (x9 + r26) x12 r26 5000 E M 0 0).bind fun (t53, v53_11, v53_14, E53, M53) =>
  ck (Gw E E53) <|
  ck (Lay E53) <|
  ck (t53 = 1) <|
  ck (rgI x6) <|
  (if x6 = 5 then
  ck (rgJ x4) <|
  (if x4 ≤ 0 then
  some (0, (x9 + r26), v53_11, (x12 + 1), E53, M53)
  else
  ck (inb x12 (tE E53 q3).2) <|
  ck (rgI (M53 q3 x12.toNat)) <|
  ck (rgI x7) <|
  ck (nnJ ((M53 q3 x12.toNat) * x7)) <|
  ck (psJ x4) <|
  nb ((((M53 q3 x12.toNat) * x7) / x4)) fun (v61 : Int) =>
  ck (rgI v53_11) <|
  (if v53_11 = 0 then
  some (0, (x9 + r26), 0, (x12 + 1), E53, M53)
  else
  ck (rgJ v61) <|
  (if r26 = v61 then
  some (0, (x9 + r26), 1, (x12 + 1), E53, M53)
  else
  ck (rgJ (v61 + 1)) <|
  (if r26 = (v61 + 1) then
  some (0, (x9 + r26), 1, (x12 + 1), E53, M53)
  else
  some (0, (x9 + r26), 0, (x12 + 1), E53, M53)))))
  else
  some (0, (x9 + r26), v53_11, (x12 + 1), E53, M53))
  else
  ck (inb x12 (tE E q3).2) <|
  ck (rgI (M q3 x12.toNat)) <|
  (if 0 < (M q3 x12.toNat) then
  (l_La_seats_200 x2 q3 x4 x6 x7 x8 (x9 + r26) x12 r26 5000 E M 1 0).bind fun (t67, v67_11, v67_14, E67, M67) =>
  ck (Gw E E67) <|
  ck (Lay E67) <|
  ck (t67 = 1) <|
  ck (rgI x6) <|
  (if x6 = 5 then
  ck (rgJ x4) <|
  (if x4 ≤ 0 then
  some (0, (x9 + r26), v67_11, (x12 + 1), E67, M67)
  else
  ck (inb x12 (tE E67 q3).2) <|
  ck (rgI (M67 q3 x12.toNat)) <|
  ck (rgI x7) <|
  ck (nnJ ((M67 q3 x12.toNat) * x7)) <|
  ck (psJ x4) <|
  nb ((((M67 q3 x12.toNat) * x7) / x4)) fun (v75 : Int) =>
  ck (rgI v67_11) <|
  (if v67_11 = 0 then
  some (0, (x9 + r26), 0, (x12 + 1), E67, M67)
  else
  ck (rgJ v75) <|
  (if r26 = v75 then
  some (0, (x9 + r26), 1, (x12 + 1), E67, M67)
  else
  ck (rgJ (v75 + 1)) <|
  (if r26 = (v75 + 1) then
  some (0, (x9 + r26), 1, (x12 + 1), E67, M67)
  else
  some (0, (x9 + r26), 0, (x12 + 1), E67, M67)))))
  else
  some (0, (x9 + r26), v67_11, (x12 + 1), E67, M67))
  else
  (if r26 = 0 then
  (l_La_seats_200 x2 q3 x4 x6 x7 x8 (x9 + r26) x12 r26 5000 E M 1 0).bind fun (t91, v91_11, v91_14, E91, M91) =>
  ck (Gw E E91) <|
  ck (Lay E91) <|
  ck (t91 = 1) <|
  ck (rgI x6) <|
  (if x6 = 5 then
  ck (rgJ x4) <|
  (if x4 ≤ 0 then
  some (0, (x9 + r26), v91_11, (x12 + 1), E91, M91)
  else
  ck (inb x12 (tE E91 q3).2) <|
  ck (rgI (M91 q3 x12.toNat)) <|
  ck (rgI x7) <|
  ck (nnJ ((M91 q3 x12.toNat) * x7)) <|
  ck (psJ x4) <|
  nb ((((M91 q3 x12.toNat) * x7) / x4)) fun (v99 : Int) =>
  ck (rgI v91_11) <|
  (if v91_11 = 0 then
  some (0, (x9 + r26), 0, (x12 + 1), E91, M91)
  else
  ck (rgJ v99) <|
  (if r26 = v99 then
  some (0, (x9 + r26), 1, (x12 + 1), E91, M91)
  else
  ck (rgJ (v99 + 1)) <|
  (if r26 = (v99 + 1) then
  some (0, (x9 + r26), 1, (x12 + 1), E91, M91)
  else
  some (0, (x9 + r26), 0, (x12 + 1), E91, M91)))))
  else
  some (0, (x9 + r26), v91_11, (x12 + 1), E91, M91))
  else
  (l_La_seats_200 x2 q3 x4 x6 x7 x8 (x9 + r26) x12 r26 5000 E M 0 0).bind fun (t79, v79_11, v79_14, E79, M79) =>
  ck (Gw E E79) <|
  ck (Lay E79) <|
  ck (t79 = 1) <|
  ck (rgI x6) <|
  (if x6 = 5 then
  ck (rgJ x4) <|
  (if x4 ≤ 0 then
  some (0, (x9 + r26), v79_11, (x12 + 1), E79, M79)
  else
  ck (inb x12 (tE E79 q3).2) <|
  ck (rgI (M79 q3 x12.toNat)) <|
  ck (rgI x7) <|
  ck (nnJ ((M79 q3 x12.toNat) * x7)) <|
  ck (psJ x4) <|
  nb ((((M79 q3 x12.toNat) * x7) / x4)) fun (v87 : Int) =>
  ck (rgI v79_11) <|
  (if v79_11 = 0 then
  some (0, (x9 + r26), 0, (x12 + 1), E79, M79)
  else
  ck (rgJ v87) <|
  (if r26 = v87 then
  some (0, (x9 + r26), 1, (x12 + 1), E79, M79)
  else
  ck (rgJ (v87 + 1)) <|
  (if r26 = (v87 + 1) then
  some (0, (x9 + r26), 1, (x12 + 1), E79, M79)
  else
  some (0, (x9 + r26), 0, (x12 + 1), E79, M79)))))
  else
  some (0, (x9 + r26), v79_11, (x12 + 1), E79, M79))))))
def l_La_seats_151 (x2 : Int) (q3 : Nat) (x4 : Int) (x6 : Int) (x7 : Int) (x8 : Int) : Nat → Ev → Mm → Int → Int → Int → Option (Nat × Int × Int × Int × Ev × Mm)
  | 0, _, _, _, _, _ => none
  | fu + 1, E, M, x9, x11, x12 => (La_seats_151b E M x2 q3 x4 x6 x7 x8 x9 x11 x12).bind fun (t, w9, w11, w12, F, N) => if t = 0 then l_La_seats_151 x2 q3 x4 x6 x7 x8 fu F N w9 w11 w12 else some (t, w9, w11, w12, F, N)
def La_seats_410b (E : Ev) (M : Mm) (x2 : Int) (x6 : Int) (x7 : Int) (x9 : Int) (x11 : Int) (q12 : Nat) (x13 : Int) : Option (Nat × Int × Ev × Mm) :=
  ck (Lay E) <|
  ck (isIA E q12) <|
  ck (rgI x13) <|
  ck (rgJ x9) <|
  (if x9 ≤ x13 then
  some (1, x13, E, M)
  else
  (f_B_seatAt E M x13).bind fun r109 =>
  ck (inb r109 (tE E q12).2) <|
  some (0, (x13 + 1), E, (u2 M q12 r109.toNat ((M q12 r109.toNat) + 1))))
def l_La_seats_410 (x2 : Int) (x6 : Int) (x7 : Int) (x9 : Int) (x11 : Int) (q12 : Nat) : Nat → Ev → Mm → Int → Option (Nat × Int × Ev × Mm)
  | 0, _, _, _ => none
  | fu + 1, E, M, x13 => (La_seats_410b E M x2 x6 x7 x9 x11 q12 x13).bind fun (t, w13, F, N) => if t = 0 then l_La_seats_410 x2 x6 x7 x9 x11 q12 fu F N w13 else some (t, w13, F, N)
def La_seats_441b (E : Ev) (M : Mm) (x2 : Int) (x6 : Int) (x7 : Int) (x9 : Int) (q12 : Nat) (x11 : Int) (x13 : Int) : Option (Nat × Int × Int × Ev × Mm) :=
  ck (Lay E) <|
  ck (isIA E q12) <|
  ck (rgI x13) <|
  ck (rgI x2) <|
  (if x2 ≤ x13 then
  some (1, x11, x13, E, M)
  else
  ck (rgI x11) <|
  (if x11 = 0 then
  some (0, 0, (x13 + 1), E, M)
  else
  ck (inb x13 (tE E q12).2) <|
  (f_B_seatsOf E M x13).bind fun r116 =>
  ck (rgI (M q12 x13.toNat)) <|
  ck (rgI r116) <|
  (if (M q12 x13.toNat) = r116 then
  some (0, 1, (x13 + 1), E, M)
  else
  some (0, 0, (x13 + 1), E, M))))
def l_La_seats_441 (x2 : Int) (x6 : Int) (x7 : Int) (x9 : Int) (q12 : Nat) : Nat → Ev → Mm → Int → Int → Option (Nat × Int × Int × Ev × Mm)
  | 0, _, _, _, _ => none
  | fu + 1, E, M, x11, x13 => (La_seats_441b E M x2 x6 x7 x9 q12 x11 x13).bind fun (t, w11, w13, F, N) => if t = 0 then l_La_seats_441 x2 x6 x7 x9 q12 fu F N w11 w13 else some (t, w11, w13, F, N)
def La_seats_527b (E : Ev) (M : Mm) (x2 : Int) (x9 : Int) (x11 : Int) (x17 : Int) (x19 : Int) : Option (Nat × Int × Int × Ev × Mm) :=
  ck (Lay E) <|
  ck (rgI x19) <|
  ck (rgI x2) <|
  (if x2 ≤ x19 then
  some (1, x17, x19, E, M)
  else
  (f_B_seatsOf E M x19).bind fun r127 =>
  ck (rgI r127) <|
  some (0, (x17 + r127), (x19 + 1), E, M))
def l_La_seats_527 (x2 : Int) (x9 : Int) (x11 : Int) : Nat → Ev → Mm → Int → Int → Option (Nat × Int × Int × Ev × Mm)
  | 0, _, _, _, _ => none
  | fu + 1, E, M, x17, x19 => (La_seats_527b E M x2 x9 x11 x17 x19).bind fun (t, w17, w19, F, N) => if t = 0 then l_La_seats_527 x2 x9 x11 fu F N w17 w19 else some (t, w17, w19, F, N)
def La_seats_j390 (E : Ev) (M : Mm) (x2 : Int) (x6 : Int) (x7 : Int) (x9 : Int) (y0 : Int) (y1 : Int) : Option (Int × Ev × Mm) :=
  ck (Lay E) <|
  ck (rgI y0) <|
  ck (rgJ y1) <|
  (if y1 = y0 then
  ck (0 ≤ x2 ∧ x2 ≤ 64) <|
  nb (nE E) fun (p154 : Nat) =>
  nb (eNew E (0, x2.toNat)) fun (E154 : Ev) =>
  nb (mN M (nE E)) fun (M154 : Mm) =>
  (l_La_seats_410 x2 x6 x7 x9 1 p154 5000 E154 M154 0).bind fun (t155, v155_13, E155, M155) =>
  ck (Gw E154 E155) <|
  ck (Lay E155) <|
  ck (t155 = 1) <|
  (l_La_seats_441 x2 x6 x7 x9 p154 5000 E155 M155 1 0).bind fun (t156, v156_11, v156_13, E156, M156) =>
  ck (Gw E155 E156) <|
  ck (Lay E156) <|
  ck (t156 = 1) <|
  (f_La_next E156 M156 1 x2).bind fun (r157, M157) =>
  (f_La_next E156 M157 1 x2).bind fun (r158, M158) =>
  (f_B_ally E156 M158 r157 1).bind fun (r159, M159) =>
  (f_B_ally E156 M159 r158 1).bind fun (r160, M160) =>
  (f_B_seats E156 M160 x6 x7 0).bind fun (r161, M161) =>
  (l_La_seats_527 x2 x9 v156_11 5000 E156 M161 0 0).bind fun (t162, v162_17, v162_19, E162, M162) =>
  ck (Gw E156 E162) <|
  ck (Lay E162) <|
  ck (t162 = 1) <|
  ck (rgI v156_11) <|
  (if v156_11 = 0 then
  some (0, E162, M162)
  else
  ck (rgJ v162_17) <|
  ck (rgJ x9) <|
  (if v162_17 = x9 then
  (f_B_errors E162 M162).bind fun (r166, M166) =>
  ck (rgI r166) <|
  (if r166 = 0 then
  some (1, E162, M166)
  else
  some (0, E162, M166))
  else
  some (0, E162, M162)))
  else
  ck (0 ≤ x2 ∧ x2 ≤ 64) <|
  nb (nE E) fun (p139 : Nat) =>
  nb (eNew E (0, x2.toNat)) fun (E139 : Ev) =>
  nb (mN M (nE E)) fun (M139 : Mm) =>
  (l_La_seats_410 x2 x6 x7 x9 0 p139 5000 E139 M139 0).bind fun (t140, v140_13, E140, M140) =>
  ck (Gw E139 E140) <|
  ck (Lay E140) <|
  ck (t140 = 1) <|
  (l_La_seats_441 x2 x6 x7 x9 p139 5000 E140 M140 0 0).bind fun (t141, v141_11, v141_13, E141, M141) =>
  ck (Gw E140 E141) <|
  ck (Lay E141) <|
  ck (t141 = 1) <|
  (f_La_next E141 M141 1 x2).bind fun (r142, M142) =>
  (f_La_next E141 M142 1 x2).bind fun (r143, M143) =>
  (f_B_ally E141 M143 r142 1).bind fun (r144, M144) =>
  (f_B_ally E141 M144 r143 1).bind fun (r145, M145) =>
  (f_B_seats E141 M145 x6 x7 0).bind fun (r146, M146) =>
  (l_La_seats_527 x2 x9 v141_11 5000 E141 M146 0 0).bind fun (t147, v147_17, v147_19, E147, M147) =>
  ck (Gw E141 E147) <|
  ck (Lay E147) <|
  ck (t147 = 1) <|
  ck (rgI v141_11) <|
  (if v141_11 = 0 then
  some (0, E147, M147)
  else
  ck (rgJ v147_17) <|
  ck (rgJ x9) <|
  (if v147_17 = x9 then
  (f_B_errors E147 M147).bind fun (r151, M151) =>
  ck (rgI r151) <|
  (if r151 = 0 then
  some (1, E147, M151)
  else
  some (0, E147, M151))
  else
  some (0, E147, M147))))
def f_La_seats (E : Ev) (M : Mm) (p0 : Nat) : Option (Int × Ev × Mm) :=
  ck (isIA E p0) <|
  nb (nE E) fun (p0 : Nat) =>
  nb (eNew E (111, 0)) fun (E0 : Ev) =>
  nb (mN M (nE E)) fun (M0 : Mm) =>
  (f_B_init E0 M0 p0).bind fun (E1, M1) =>
  ck (Gw E0 E1) <|
  ck (Lay E1 ∧ p0 = 1) <|
  (f_La_next E1 M1 1 8).bind fun (r2, M2) =>
  ck (0 ≤ (1 + r2) ∧ (1 + r2) ≤ 64) <|
  nb (nE E1) fun (p4 : Nat) =>
  nb (eNew E1 (0, (1 + r2).toNat)) fun (E4 : Ev) =>
  nb (mN M2 (nE E1)) fun (M4 : Mm) =>
  (l_La_seats_27 (1 + r2) p4 5000 E4 M4 0 0).bind fun (t20, v20_4, v20_6, E20, M20) =>
  ck (Gw E4 E20) <|
  ck (Lay E20) <|
  ck (t20 = 1) <|
  (f_La_next E20 M20 1 6).bind fun (r21, M21) =>
  (f_La_next E20 M21 1 60).bind fun (r22, M22) =>
  (f_B_seats E20 M22 r21 (1 + r22) 0).bind fun (r23, M23) =>
  (l_La_seats_151 (1 + r2) p4 v20_4 r21 (1 + r22) r23 5000 E20 M23 0 1 0).bind fun (t103, v103_9, v103_11, v103_12, E103, M103) =>
  ck (Gw E20 E103) <|
  ck (Lay E103) <|
  ck (t103 = 1) <|
  ck (rgI v103_11) <|
  (if v103_11 = 0 then
  ck (0 ≤ (1 + r2) ∧ (1 + r2) ≤ 64) <|
  nb (nE E103) fun (p106 : Nat) =>
  nb (eNew E103 (0, (1 + r2).toNat)) fun (E106 : Ev) =>
  nb (mN M103 (nE E103)) fun (M106 : Mm) =>
  (l_La_seats_410 (1 + r2) r21 (1 + r22) v103_9 0 p106 5000 E106 M106 0).bind fun (t111, v111_13, E111, M111) =>
  ck (Gw E106 E111) <|
  ck (Lay E111) <|
  ck (t111 = 1) <|
  (l_La_seats_441 (1 + r2) r21 (1 + r22) v103_9 p106 5000 E111 M111 0 0).bind fun (t119, v119_11, v119_13, E119, M119) =>
  ck (Gw E111 E119) <|
  ck (Lay E119) <|
  ck (t119 = 1) <|
  (f_La_next E119 M119 1 (1 + r2)).bind fun (r120, M120) =>
  (f_La_next E119 M120 1 (1 + r2)).bind fun (r121, M121) =>
  (f_B_ally E119 M121 r120 1).bind fun (r122, M122) =>
  (f_B_ally E119 M122 r121 1).bind fun (r123, M123) =>
  (f_B_seats E119 M123 r21 (1 + r22) 0).bind fun (r124, M124) =>
  (l_La_seats_527 (1 + r2) v103_9 v119_11 5000 E119 M124 0 0).bind fun (t129, v129_17, v129_19, E129, M129) =>
  ck (Gw E119 E129) <|
  ck (Lay E129) <|
  ck (t129 = 1) <|
  ck (rgI v119_11) <|
  (if v119_11 = 0 then
  some (0, E129, M129)
  else
  ck (rgJ v129_17) <|
  ck (rgJ v103_9) <|
  (if v129_17 = v103_9 then
  (f_B_errors E129 M129).bind fun (r133, M133) =>
  ck (rgI r133) <|
  (if r133 = 0 then
  some (1, E129, M133)
  else
  some (0, E129, M133))
  else
  some (0, E129, M129)))
  else
  ck (rgI r23) <|
  (if r23 = 0 then
  La_seats_j390 E103 M103 (1 + r2) r21 (1 + r22) v103_9 0 v103_9
  else
  La_seats_j390 E103 M103 (1 + r2) r21 (1 + r22) v103_9 (1 + r22) v103_9))
def f_Wa_append (E : Ev) (M : Mm) (x1 : Int) (x2 : Int) (x3 : Int) : Option (Int × Mm) :=
  ck (inb (M 219 0) 16) <|
  nb (u2 (u2 (u2 (u2 M 220 (M 219 0).toNat x1) 222 (M 219 0).toNat x2) 223 (M 219 0).toNat x3) 219 0 (((u2 (u2 (u2 M 220 (M 219 0).toNat x1) 222 (M 219 0).toNat x2) 223 (M 219 0).toNat x3) 219 0) + 1)) fun (M1 : Mm) =>
  some ((M 219 0), M1)
def f_B_ward (E : Ev) (M : Mm) (x1 : Int) (x2 : Int) (x3 : Int) : Option (Int × Mm) :=
  (f_B_needRange E M x1 1 100000).bind fun _u =>
  (f_B_needRange E M x2 0 100000).bind fun _u =>
  (f_B_needRange E M x3 0 100000).bind fun _u =>
  (f_B_needRoom E M ((M 219 0) + 1) 16).bind fun _u =>
  (f_Wa_append E M x1 x2 x3).bind fun (r4, M4) =>
  (f_B_remember E M4 10 r4 0).bind fun M5 =>
  some (r4, M5)
def f_Wa_greatestBehind (E : Ev) (M : Mm) (x1 : Int) (x2 : Int) : Option Int :=
  ck (rgI (x1 + 1)) <|
  ck (rgI (M 219 0)) <|
  (if (M 219 0) ≤ (x1 + 1) then
  some 0
  else
  ck (rgI x2) <|
  (if x2 ≤ 1 then
  some 1600001
  else
  ck (inb (x2 - 1) 17) <|
  ck (inb (x1 + 1) 16) <|
  some (M (225 + (x2 - 1).toNat) (x1 + 1).toNat)))
def Wa_greatestOf_9b (E : Ev) (M : Mm) (x1 : Int) (x3 : Int) (x4 : Int) (x5 : Int) : Option (Nat × Int × Int × Int) :=
  ck (rgI x5) <|
  ck (rgI ((M 219 0) - x1)) <|
  (if ((M 219 0) - x1) < x5 then
  some (1, x3, x4, x5)
  else
  ck (inb x5 16) <|
  (f_Wa_greatestBehind E M x5 x1).bind fun r3 =>
  ck (rgI (x4 + (M 220 x5.toNat))) <|
  ck (rgI r3) <|
  nb ((max (x4 + (M 220 x5.toNat)) r3)) fun (v6 : Int) =>
  ck (rgI x3) <|
  some (0, (min x3 v6), (x4 + (M 220 x5.toNat)), (x5 + 1)))
def l_Wa_greatestOf_9 (E : Ev) (x1 : Int) : Nat → Mm → Int → Int → Int → Option (Nat × Int × Int × Int)
  | 0, _, _, _, _ => none
  | fu + 1, M, x3, x4, x5 => (Wa_greatestOf_9b E M x1 x3 x4 x5).bind fun (t, w3, w4, w5) => if t = 0 then l_Wa_greatestOf_9 E x1 fu M w3 w4 w5 else some (t, w3, w4, w5)
def f_Wa_greatestOf (E : Ev) (M : Mm) (x1 : Int) (x2 : Int) : Option Int :=
  (l_Wa_greatestOf_9 E x1 FU M 1600001 0 x2).bind fun (t8, v8_3, v8_4, v8_5) =>
  ck (t8 = 1) <|
  some v8_3
def Wa_firstEnd_3b (E : Ev) (M : Mm) (x2 : Int) (x3 : Int) (x4 : Int) : Option (Nat × Int) :=
  ck (rgI x4) <|
  ck (rgI ((M 219 0) - x2)) <|
  (if ((M 219 0) - x2) ≤ x4 then
  some (1, x4)
  else
  (f_Wa_greatestBehind E M x4 x2).bind fun r2 =>
  ck (rgI r2) <|
  ck (rgI x3) <|
  (if r2 ≤ x3 then
  some (1, x4)
  else
  some (0, (x4 + 1))))
def l_Wa_firstEnd_3 (E : Ev) (x2 : Int) (x3 : Int) : Nat → Mm → Int → Option (Nat × Int)
  | 0, _, _ => none
  | fu + 1, M, x4 => (Wa_firstEnd_3b E M x2 x3 x4).bind fun (t, w4) => if t = 0 then l_Wa_firstEnd_3 E x2 x3 fu M w4 else some (t, w4)
def f_Wa_firstEnd (E : Ev) (M : Mm) (x1 : Int) (x2 : Int) (x3 : Int) : Option Int :=
  (l_Wa_firstEnd_3 E x2 x3 FU M x1).bind fun (t5, v5_4) =>
  ck (t5 = 1) <|
  some v5_4
def Wa_divide_9b (E : Ev) (M : Mm) (x1 : Int) (x2 : Int) (x3 : Int) : Option (Nat × Int × Mm) :=
  ck (rgI x3) <|
  ck (rgI ((M 219 0) - x2)) <|
  (if ((M 219 0) - x2) < x3 then
  some (1, x3, M)
  else
  ck (inb x2 17) <|
  (f_Wa_greatestOf E M x2 x3).bind fun r5 =>
  ck (inb x3 16) <|
  some (0, (x3 + 1), (u2 M (225 + x2.toNat) x3.toNat r5)))
def l_Wa_divide_9 (E : Ev) (x1 : Int) (x2 : Int) : Nat → Mm → Int → Option (Nat × Int × Mm)
  | 0, _, _ => none
  | fu + 1, M, x3 => (Wa_divide_9b E M x1 x2 x3).bind fun (t, w3, N) => if t = 0 then l_Wa_divide_9 E x1 x2 fu N w3 else some (t, w3, N)
def Wa_divide_2b (E : Ev) (M : Mm) (x1 : Int) (x2 : Int) : Option (Nat × Int × Mm) :=
  ck (rgI x2) <|
  ck (rgI x1) <|
  (if x1 < x2 then
  some (1, x2, M)
  else
  (l_Wa_divide_9 E x1 x2 FU M 0).bind fun (t7, v7_3, M7) =>
  ck (t7 = 1) <|
  some (0, (x2 + 1), M7))
def l_Wa_divide_2 (E : Ev) (x1 : Int) : Nat → Mm → Int → Option (Nat × Int × Mm)
  | 0, _, _ => none
  | fu + 1, M, x2 => (Wa_divide_2b E M x1 x2).bind fun (t, w2, N) => if t = 0 then l_Wa_divide_2 E x1 fu N w2 else some (t, w2, N)
def Wa_divide_59b (E : Ev) (M : Mm) (x1 : Int) (x2 : Int) (x3 : Int) (x4 : Int) : Option (Nat × Int × Int × Mm) :=
  ck (rgI x4) <|
  ck (rgI x1) <|
  (if x1 ≤ x4 then
  some (1, x3, x4, M)
  else
  (f_Wa_firstEnd E M x3 (x1 - x4) x2).bind fun r12 =>
  ck (inb x4 16) <|
  nb ((((u2 M 242 x4.toNat r12) 242 x4.toNat) + 1)) fun (v14 : Int) =>
  some (0, v14, (x4 + 1), (u2 M 242 x4.toNat r12)))
def l_Wa_divide_59 (E : Ev) (x1 : Int) (x2 : Int) : Nat → Mm → Int → Int → Option (Nat × Int × Int × Mm)
  | 0, _, _, _ => none
  | fu + 1, M, x3, x4 => (Wa_divide_59b E M x1 x2 x3 x4).bind fun (t, w3, w4, N) => if t = 0 then l_Wa_divide_59 E x1 x2 fu N w3 w4 else some (t, w3, w4, N)
def f_Wa_divide (E : Ev) (M : Mm) (x1 : Int) : Option (Int × Mm) :=
  (l_Wa_divide_2 E x1 FU M 1).bind fun (t8, v8_2, M8) =>
  ck (t8 = 1) <|
  ck (inb x1 17) <|
  (l_Wa_divide_59 E x1 (M8 (225 + x1.toNat) 0) FU M8 0 0).bind fun (t15, v15_3, v15_4, M15) =>
  ck (t15 = 1) <|
  some ((M8 (225 + x1.toNat) 0), M15)
def f_B_greatestDistrict (E : Ev) (M : Mm) (x1 : Int) : Option (Int × Mm) :=
  (f_B_needRange E M x1 1 (M 219 0)).bind fun _u =>
  (f_Wa_divide E M x1).bind fun (r1, M1) =>
  some (r1, M1)
def f_B_districtEnd (E : Ev) (M : Mm) (x1 : Int) (x2 : Int) : Option (Int × Mm) :=
  (f_B_needRange E M x1 1 (M 219 0)).bind fun _u =>
  (f_B_needPlace E M x2 x1).bind fun _u =>
  (f_Wa_divide E M x1).bind fun (r2, M2) =>
  ck (inb x2 16) <|
  some ((M2 242 x2.toNat), M2)
def Wa_votesIn_22b (E : Ev) (M : Mm) (x1 : Int) (x2 : Int) (x3 : Int) (x4 : Int) : Option (Nat × Int × Int) :=
  ck (inb x1 16) <|
  ck (rgI x4) <|
  ck (rgI (M 242 x1.toNat)) <|
  (if (M 242 x1.toNat) < x4 then
  some (1, x3, x4)
  else
  ck (inb x2 2) <|
  ck (inb x4 16) <|
  nb ((x3 + (M (222 + x2.toNat) x4.toNat))) fun (v7 : Int) =>
  some (0, v7, (x4 + 1)))
def l_Wa_votesIn_22 (E : Ev) (x1 : Int) (x2 : Int) : Nat → Mm → Int → Int → Option (Nat × Int × Int)
  | 0, _, _, _ => none
  | fu + 1, M, x3, x4 => (Wa_votesIn_22b E M x1 x2 x3 x4).bind fun (t, w3, w4) => if t = 0 then l_Wa_votesIn_22 E x1 x2 fu M w3 w4 else some (t, w3, w4)
def f_Wa_votesIn (E : Ev) (M : Mm) (x1 : Int) (x2 : Int) : Option Int :=
  ck (rgI x1) <|
  (if x1 = 0 then
  (l_Wa_votesIn_22 E x1 x2 FU M 0 0).bind fun (t9, v9_3, v9_4) =>
  ck (t9 = 1) <|
  some v9_3
  else
  ck (inb (x1 - 1) 16) <|
  (l_Wa_votesIn_22 E x1 x2 FU M 0 ((M 242 (x1 - 1).toNat) + 1)).bind fun (t8, v8_3, v8_4) =>
  ck (t8 = 1) <|
  some v8_3)
def B_districtsWon_32b (E : Ev) (M : Mm) (x1 : Int) (x2 : Int) (x3 : Int) (x4 : Int) : Option (Nat × Int × Int × Mm) :=
  ck (rgI x4) <|
  ck (rgI x1) <|
  (if x1 ≤ x4 then
  some (1, x3, x4, M)
  else
  (f_Wa_votesIn E M x4 x2).bind fun r5 =>
  (f_Wa_votesIn E M x4 (1 - x2)).bind fun r6 =>
  ck (rgI r5) <|
  ck (rgI r6) <|
  (if r5 ≤ r6 then
  some (0, x3, (x4 + 1), M)
  else
  some (0, (x3 + 1), (x4 + 1), M)))
def l_B_districtsWon_32 (E : Ev) (x1 : Int) (x2 : Int) : Nat → Mm → Int → Int → Option (Nat × Int × Int × Mm)
  | 0, _, _, _ => none
  | fu + 1, M, x3, x4 => (B_districtsWon_32b E M x1 x2 x3 x4).bind fun (t, w3, w4, N) => if t = 0 then l_B_districtsWon_32 E x1 x2 fu N w3 w4 else some (t, w3, w4, N)
def f_B_districtsWon (E : Ev) (M : Mm) (x1 : Int) (x2 : Int) : Option (Int × Mm) :=
  (f_B_needRange E M x1 1 (M 219 0)).bind fun _u =>
  (f_B_needRange E M x2 0 1).bind fun _u =>
  (f_Wa_divide E M x1).bind fun (r2, M2) =>
  (l_B_districtsWon_32 E x1 x2 FU M2 0 0).bind fun (t9, v9_3, v9_4, M9) =>
  ck (t9 = 1) <|
  some (v9_3, M9)
def B_wasted_32b (E : Ev) (M : Mm) (x1 : Int) (x2 : Int) (x3 : Int) (x4 : Int) : Option (Nat × Int × Int × Mm) :=
  ck (rgI x4) <|
  ck (rgI x1) <|
  (if x1 ≤ x4 then
  some (1, x3, x4, M)
  else
  (f_Wa_votesIn E M x4 x2).bind fun r5 =>
  (f_Wa_votesIn E M x4 (1 - x2)).bind fun r6 =>
  ck (rgI r5) <|
  ck (rgI r6) <|
  (if r5 ≤ r6 then
  some (0, (x3 + r5), (x4 + 1), M)
  else
  ck (nnI (r5 + r6)) <|
  nb ((x3 + ((r5 - ((r5 + r6) / 2)) - 1))) fun (v10 : Int) =>
  some (0, v10, (x4 + 1), M)))
def l_B_wasted_32 (E : Ev) (x1 : Int) (x2 : Int) : Nat → Mm → Int → Int → Option (Nat × Int × Int × Mm)
  | 0, _, _, _ => none
  | fu + 1, M, x3, x4 => (B_wasted_32b E M x1 x2 x3 x4).bind fun (t, w3, w4, N) => if t = 0 then l_B_wasted_32 E x1 x2 fu N w3 w4 else some (t, w3, w4, N)
def f_B_wasted (E : Ev) (M : Mm) (x1 : Int) (x2 : Int) : Option (Int × Mm) :=
  (f_B_needRange E M x1 1 (M 219 0)).bind fun _u =>
  (f_B_needRange E M x2 0 1).bind fun _u =>
  (f_Wa_divide E M x1).bind fun (r2, M2) =>
  (l_B_wasted_32 E x1 x2 FU M2 0 0).bind fun (t11, v11_3, v11_4, M11) =>
  ck (t11 = 1) <|
  some (v11_3, M11)
def La_districts_24b (E : Ev) (M : Mm) (x2 : Int) (q3 : Nat) (x4 : Int) : Option (Nat × Int × Ev × Mm) :=
  ck (Lay E) <|
  ck (isIA E q3) <|
  ck (rgI x4) <|
  ck (rgI x2) <|
  (if x2 ≤ x4 then
  some (1, x4, E, M)
  else
  (f_La_next E M 1 50).bind fun (r7, M7) =>
  ck (inb x4 (tE E q3).2) <|
  (f_La_next E (u2 M7 q3 x4.toNat (1 + r7)) 1 30).bind fun (r9, M9) =>
  (f_La_next E M9 1 30).bind fun (r10, M10) =>
  (f_B_ward E M10 ((u2 M7 q3 x4.toNat (1 + r7)) q3 x4.toNat) r9 r10).bind fun (r11, M11) =>
  some (0, (x4 + 1), E, M11))
def l_La_districts_24 (x2 : Int) (q3 : Nat) : Nat → Ev → Mm → Int → Option (Nat × Int × Ev × Mm)
  | 0, _, _, _ => none
  | fu + 1, E, M, x4 => (La_districts_24b E M x2 q3 x4).bind fun (t, w4, F, N) => if t = 0 then l_La_districts_24 x2 q3 fu F N w4 else some (t, w4, F, N)
def La_districts_j170 (E : Ev) (M : Mm) (x2 : Int) (q3 : Nat) (x4 : Int) (x5 : Int) (q6 : Nat) (x7 : Int) (x8 : Int) (x9 : Int) (q10 : Nat) (x11 : Int) (x12 : Int) : Option (Nat × Int × Int × Int × Int × Ev × Mm) :=
  ck (Lay E) <|
  ck (isIA E q3) <|
  ck (isIA E q6) <|
  ck (isIA E q10) <|
  ck (rgI x8) <|
  ck (rgI x9) <|
  ck (inb x11 (tE E q10).2) <|
  some (0, (max x8 x9), 0, (x11 + 1), (x12 + 1), E, (u2 M q10 x11.toNat x12))
def La_districts_136b (E : Ev) (M : Mm) (x2 : Int) (q3 : Nat) (x4 : Int) (x5 : Int) (q6 : Nat) (x7 : Int) (q10 : Nat) (x8 : Int) (x9 : Int) (x11 : Int) (x12 : Int) : Option (Nat × Int × Int × Int × Int × Ev × Mm) :=
  ck (Lay E) <|
  ck (isIA E q3) <|
  ck (isIA E q6) <|
  ck (isIA E q10) <|
  ck (rgI x12) <|
  ck (rgI x2) <|
  (if x2 ≤ x12 then
  some (1, x8, x9, x11, x12, E, M)
  else
  ck (inb x12 (tE E q3).2) <|
  ck (rgI (x2 - 1)) <|
  (if x12 = (x2 - 1) then
  La_districts_j170 E M x2 q3 x4 x5 q6 x7 x8 (x9 + (M q3 x12.toNat)) q10 x11 x12
  else
  ck (rgI x7) <|
  ck (shI x12) <|
  (if ((x7 / 2 ^ x12.toNat) % 2) = 1 then
  La_districts_j170 E M x2 q3 x4 x5 q6 x7 x8 (x9 + (M q3 x12.toNat)) q10 x11 x12
  else
  some (0, x8, (x9 + (M q3 x12.toNat)), x11, (x12 + 1), E, M))))
def l_La_districts_136 (x2 : Int) (q3 : Nat) (x4 : Int) (x5 : Int) (q6 : Nat) (x7 : Int) (q10 : Nat) : Nat → Ev → Mm → Int → Int → Int → Int → Option (Nat × Int × Int × Int × Int × Ev × Mm)
  | 0, _, _, _, _, _, _ => none
  | fu + 1, E, M, x8, x9, x11, x12 => (La_districts_136b E M x2 q3 x4 x5 q6 x7 q10 x8 x9 x11 x12).bind fun (t, w8, w9, w11, w12, F, N) => if t = 0 then l_La_districts_136 x2 q3 x4 x5 q6 x7 q10 fu F N w8 w9 w11 w12 else some (t, w8, w9, w11, w12, F, N)
def La_districts_201b (E : Ev) (M : Mm) (x2 : Int) (q3 : Nat) (x4 : Int) (x5 : Int) (q6 : Nat) (x7 : Int) (x8 : Int) (q10 : Nat) (x12 : Int) : Option (Nat × Int × Ev × Mm) :=
  ck (Lay E) <|
  ck (isIA E q3) <|
  ck (isIA E q6) <|
  ck (isIA E q10) <|
  ck (rgI x12) <|
  ck (rgI (x4 - 1)) <|
  (if (x4 - 1) ≤ x12 then
  some (1, x12, E, M)
  else
  ck (inb x12 (tE E q10).2) <|
  ck (inb x12 (tE E q6).2) <|
  ck (rgI (M q10 x12.toNat)) <|
  ck (rgI (M q6 x12.toNat)) <|
  (if (M q10 x12.toNat) = (M q6 x12.toNat) then
  some (0, (x12 + 1), E, M)
  else
  some (1, x12, E, M)))
def l_La_districts_201 (x2 : Int) (q3 : Nat) (x4 : Int) (x5 : Int) (q6 : Nat) (x7 : Int) (x8 : Int) (q10 : Nat) : Nat → Ev → Mm → Int → Option (Nat × Int × Ev × Mm)
  | 0, _, _, _ => none
  | fu + 1, E, M, x12 => (La_districts_201b E M x2 q3 x4 x5 q6 x7 x8 q10 x12).bind fun (t, w12, F, N) => if t = 0 then l_La_districts_201 x2 q3 x4 x5 q6 x7 x8 q10 fu F N w12 else some (t, w12, F, N)
def La_districts_j229 (E : Ev) (M : Mm) (x2 : Int) (q3 : Nat) (x4 : Int) (x5 : Int) (q6 : Nat) (x7 : Int) (x8 : Int) (q10 : Nat) (x12 : Int) : Option (Nat × Int × Nat × Int × Ev × Mm) :=
  ck (Lay E) <|
  ck (isIA E q3) <|
  ck (isIA E q6) <|
  ck (isIA E q10) <|
  ck (rgI x8) <|
  ck (rgI x5) <|
  (if x8 < x5 then
  some (0, x8, q10, (x7 + 1), E, M)
  else
  (if x8 = x5 then
  ck (inb x12 (tE E q10).2) <|
  ck (inb x12 (tE E q6).2) <|
  ck (rgI (M q10 x12.toNat)) <|
  ck (rgI (M q6 x12.toNat)) <|
  (if (M q6 x12.toNat) ≤ (M q10 x12.toNat) then
  some (0, x5, q6, (x7 + 1), E, M)
  else
  some (0, x8, q10, (x7 + 1), E, M))
  else
  some (0, x5, q6, (x7 + 1), E, M)))
def La_districts_93b (E : Ev) (M : Mm) (x2 : Int) (q3 : Nat) (x4 : Int) (x5 : Int) (q6 : Nat) (x7 : Int) : Option (Nat × Int × Nat × Int × Ev × Mm) :=
  ck (Lay E) <|
  ck (isIA E q3) <|
  ck (isIA E q6) <|
  ck (shI (x2 - 1)) <|
  ck (rgI x7) <|
  ck (rgI (2 ^ (x2 - 1).toNat)) <|
  (if (2 ^ (x2 - 1).toNat) ≤ x7 then
  some (1, x5, q6, x7, E, M)
  else
  (f_In_bitCount E M x7).bind fun r19 =>
  ck (rgI r19) <|
  ck (rgI (x4 - 1)) <|
  (if r19 = (x4 - 1) then
  ck (0 ≤ x4 ∧ x4 ≤ 8) <|
  nb (nE E) fun (p23 : Nat) =>
  nb (eNew E (0, x4.toNat)) fun (E23 : Ev) =>
  nb (mN M (nE E)) fun (M23 : Mm) =>
  (l_La_districts_136 x2 q3 x4 x5 q6 x7 p23 5000 E23 M23 0 0 0 0).bind fun (t33, v33_8, v33_9, v33_11, v33_12, E33, M33) =>
  ck (Gw E23 E33) <|
  ck (Lay E33) <|
  ck (t33 = 1) <|
  (l_La_districts_201 x2 q3 x4 x5 q6 x7 v33_8 p23 5000 E33 M33 0).bind fun (t40, v40_12, E40, M40) =>
  ck (Gw E33 E40) <|
  ck (Lay E40) <|
  ck (t40 = 1) <|
  La_districts_j229 E40 M40 x2 q3 x4 x5 q6 x7 v33_8 p23 v40_12
  else
  some (0, x5, q6, (x7 + 1), E, M)))
def l_La_districts_93 (x2 : Int) (q3 : Nat) (x4 : Int) : Nat → Ev → Mm → Int → Nat → Int → Option (Nat × Int × Nat × Int × Ev × Mm)
  | 0, _, _, _, _, _ => none
  | fu + 1, E, M, x5, q6, x7 => (La_districts_93b E M x2 q3 x4 x5 q6 x7).bind fun (t, w5, w6, w7, F, N) => if t = 0 then l_La_districts_93 x2 q3 x4 fu F N w5 w6 w7 else some (t, w5, w6, w7, F, N)
def La_districts_291b (E : Ev) (M : Mm) (x4 : Int) (q6 : Nat) (x7 : Int) (x8 : Int) : Option (Nat × Int × Int × Ev × Mm) :=
  ck (Lay E) <|
  ck (isIA E q6) <|
  ck (rgI x8) <|
  ck (rgI x4) <|
  (if x4 ≤ x8 then
  some (1, x7, x8, E, M)
  else
  ck (rgI x7) <|
  (if x7 = 0 then
  some (0, 0, (x8 + 1), E, M)
  else
  (f_B_districtEnd E M x4 x8).bind fun (r54, M54) =>
  ck (inb x8 (tE E q6).2) <|
  ck (rgI r54) <|
  ck (rgI (M54 q6 x8.toNat)) <|
  (if r54 = (M54 q6 x8.toNat) then
  some (0, 1, (x8 + 1), E, M54)
  else
  some (0, 0, (x8 + 1), E, M54))))
def l_La_districts_291 (x4 : Int) (q6 : Nat) : Nat → Ev → Mm → Int → Int → Option (Nat × Int × Int × Ev × Mm)
  | 0, _, _, _, _ => none
  | fu + 1, E, M, x7, x8 => (La_districts_291b E M x4 q6 x7 x8).bind fun (t, w7, w8, F, N) => if t = 0 then l_La_districts_291 x4 q6 fu F N w7 w8 else some (t, w7, w8, F, N)
def f_La_districts (E : Ev) (M : Mm) (p0 : Nat) : Option (Int × Ev × Mm) :=
  ck (isIA E p0) <|
  nb (nE E) fun (p0 : Nat) =>
  nb (eNew E (111, 0)) fun (E0 : Ev) =>
  nb (mN M (nE E)) fun (M0 : Mm) =>
  (f_B_init E0 M0 p0).bind fun (E1, M1) =>
  ck (Gw E0 E1) <|
  ck (Lay E1 ∧ p0 = 1) <|
  (f_La_next E1 M1 1 8).bind fun (r2, M2) =>
  ck (0 ≤ (1 + r2) ∧ (1 + r2) ≤ 8) <|
  nb (nE E1) fun (p4 : Nat) =>
  nb (eNew E1 (0, (1 + r2).toNat)) fun (E4 : Ev) =>
  nb (mN M2 (nE E1)) fun (M4 : Mm) =>
  (l_La_districts_24 (1 + r2) p4 5000 E4 M4 0).bind fun (t12, v12_4, E12, M12) =>
  ck (Gw E4 E12) <|
  ck (Lay E12) <|
  ck (t12 = 1) <|
  (f_La_next E12 M12 1 (1 + r2)).bind fun (r13, M13) =>
  ck (0 ≤ (1 + r13) ∧ (1 + r13) ≤ 8) <|
  nb (nE E12) fun (p15 : Nat) =>
  nb (eNew E12 (0, (1 + r13).toNat)) fun (E15 : Ev) =>
  nb (mN M13 (nE E12)) fun (M15 : Mm) =>
  (l_La_districts_93 (1 + r2) p4 (1 + r13) 132 E15 M15 1000 p15 0).bind fun (t47, v47_5, v47_6, v47_7, E47, M47) =>
  ck (Gw E15 E47) <|
  ck (Lay E47) <|
  ck (t47 = 1) <|
  ck (isIA E47 v47_6) <|
  (f_B_greatestDistrict E47 M47 (1 + r13)).bind fun (r48, M48) =>
  ck (rgI r48) <|
  ck (rgI v47_5) <|
  (if r48 = v47_5 then
  (l_La_districts_291 (1 + r13) v47_6 5000 E47 M48 1 0).bind fun (t68, v68_7, v68_8, E68, M68) =>
  ck (Gw E47 E68) <|
  ck (Lay E68) <|
  ck (t68 = 1) <|
  ck (rgI v68_7) <|
  (if v68_7 = 0 then
  some (0, E68, M68)
  else
  (f_B_districtsWon E68 M68 (1 + r13) 0).bind fun (r70, M70) =>
  (f_B_districtsWon E68 M70 (1 + r13) 1).bind fun (r71, M71) =>
  ck (rgI (r70 + r71)) <|
  ck (rgI (1 + r13)) <|
  (if (1 + r13) < (r70 + r71) then
  some (0, E68, M71)
  else
  (f_B_wasted E68 M71 (1 + r13) 0).bind fun (r74, M74) =>
  ck (rgI r74) <|
  (if r74 < 0 then
  some (0, E68, M74)
  else
  (f_B_wasted E68 M74 (1 + r13) 1).bind fun (r76, M76) =>
  ck (rgI r76) <|
  (if r76 < 0 then
  some (0, E68, M76)
  else
  some (1, E68, M76)))))
  else
  (l_La_districts_291 (1 + r13) v47_6 5000 E47 M48 0 0).bind fun (t58, v58_7, v58_8, E58, M58) =>
  ck (Gw E47 E58) <|
  ck (Lay E58) <|
  ck (t58 = 1) <|
  ck (rgI v58_7) <|
  (if v58_7 = 0 then
  some (0, E58, M58)
  else
  (f_B_districtsWon E58 M58 (1 + r13) 0).bind fun (r60, M60) =>
  (f_B_districtsWon E58 M60 (1 + r13) 1).bind fun (r61, M61) =>
  ck (rgI (r60 + r61)) <|
  ck (rgI (1 + r13)) <|
  (if (1 + r13) < (r60 + r61) then
  some (0, E58, M61)
  else
  (f_B_wasted E58 M61 (1 + r13) 0).bind fun (r64, M64) =>
  ck (rgI r64) <|
  (if r64 < 0 then
  some (0, E58, M64)
  else
  (f_B_wasted E58 M64 (1 + r13) 1).bind fun (r66, M66) =>
  ck (rgI r66) <|
  (if r66 < 0 then
  some (0, E58, M66)
  else
  some (1, E58, M66))))))
def f_Cl_append (E : Ev) (M : Mm) (x1 : Int) : Option (Int × Mm) :=
  ck (inb (M 243 0) 12) <|
  some ((M 243 0), (u2 (u2 M 244 (M 243 0).toNat x1) 243 0 (((u2 M 244 (M 243 0).toNat x1) 243 0) + 1)))
def f_B_member (E : Ev) (M : Mm) (x1 : Int) : Option (Int × Mm) :=
  (f_B_needRange E M x1 0 1000).bind fun _u =>
  (f_B_needRoom E M ((M 243 0) + 1) 12).bind fun _u =>
  (f_Cl_append E M x1).bind fun (r2, M2) =>
  (f_B_remember E M2 11 r2 0).bind fun M3 =>
  some (r2, M3)
def f_B_setQuota (E : Ev) (M : Mm) (x1 : Int) : Option (Int × Mm) :=
  (f_B_needRange E M x1 1 12000).bind fun _u =>
  (f_B_remember E (u2 M 243 1 x1) 12 0 (M 243 1)).bind fun M1 =>
  some ((M 243 1), M1)
def f_B_ordersTurned (E : Ev) (M : Mm) (x1 : Int) : Option (Int × Mm) :=
  (f_B_needIndex E M x1 (M 243 0)).bind fun _u =>
  (f_Cl_findSums E M).bind fun M1 =>
  (f_Cl_ordersTurnedBy E M1 x1).bind fun r2 =>
  some (r2, M1)
def Cl_setsSwungBy_4b (E : Ev) (M : Mm) (x1 : Int) (x2 : Int) (x3 : Int) : Option (Nat × Int × Int) :=
  ck (shI (M 243 0)) <|
  ck (rgI x3) <|
  ck (rgI (2 ^ (M 243 0).toNat)) <|
  (if (2 ^ (M 243 0).toNat) ≤ x3 then
  some (1, x2, x3)
  else
  (f_Cl_isSwung E M x3 x1).bind fun r3 =>
  ck (rgI r3) <|
  (if r3 = 0 then
  some (0, x2, (x3 + 1))
  else
  some (0, (x2 + 1), (x3 + 1))))
def l_Cl_setsSwungBy_4 (E : Ev) (x1 : Int) : Nat → Mm → Int → Int → Option (Nat × Int × Int)
  | 0, _, _, _ => none
  | fu + 1, M, x2, x3 => (Cl_setsSwungBy_4b E M x1 x2 x3).bind fun (t, w2, w3) => if t = 0 then l_Cl_setsSwungBy_4 E x1 fu M w2 w3 else some (t, w2, w3)
def f_Cl_setsSwungBy (E : Ev) (M : Mm) (x1 : Int) : Option Int :=
  (l_Cl_setsSwungBy_4 E x1 FU M 0 0).bind fun (t5, v5_2, v5_3) =>
  ck (t5 = 1) <|
  some v5_2
def f_B_swings (E : Ev) (M : Mm) (x1 : Int) : Option (Int × Mm) :=
  (f_B_needIndex E M x1 (M 243 0)).bind fun _u =>
  (f_Cl_findSums E M).bind fun M1 =>
  (f_Cl_setsSwungBy E M1 x1).bind fun r2 =>
  some (r2, M1)
def La_council_30b (E : Ev) (M : Mm) (x2 : Int) (q4 : Nat) (x3 : Int) (x5 : Int) (x7 : Int) : Option (Nat × Int × Int × Int × Ev × Mm) :=
  ck (Lay E) <|
  ck (isIA E q4) <|
  ck (rgI x7) <|
  ck (rgI x2) <|
  (if x2 ≤ x7 then
  some (1, x3, x5, x7, E, M)
  else
  (f_La_next E M 1 12).bind fun (r7, M7) =>
  ck (inb x7 (tE E q4).2) <|
  nb ((x3 + ((u2 M7 q4 x7.toNat r7) q4 x7.toNat))) fun (v9 : Int) =>
  (f_B_member E (u2 M7 q4 x7.toNat r7) ((u2 M7 q4 x7.toNat r7) q4 x7.toNat)).bind fun (r10, M10) =>
  ck (rgI (x7 + 1)) <|
  some (0, v9, (x5 * (x7 + 1)), (x7 + 1), E, M10))
def l_La_council_30 (x2 : Int) (q4 : Nat) : Nat → Ev → Mm → Int → Int → Int → Option (Nat × Int × Int × Int × Ev × Mm)
  | 0, _, _, _, _, _ => none
  | fu + 1, E, M, x3, x5, x7 => (La_council_30b E M x2 q4 x3 x5 x7).bind fun (t, w3, w5, w7, F, N) => if t = 0 then l_La_council_30 x2 q4 fu F N w3 w5 w7 else some (t, w3, w5, w7, F, N)
def La_council_136b (E : Ev) (M : Mm) (x2 : Int) (x3 : Int) (q4 : Nat) (x5 : Int) (x7 : Int) (x9 : Int) (x11 : Int) (x12 : Int) (x13 : Int) (x14 : Int) (x15 : Int) (x16 : Int) : Option (Nat × Int × Int × Ev × Mm) :=
  ck (Lay E) <|
  ck (isIA E q4) <|
  ck (rgI x16) <|
  ck (rgI x2) <|
  (if x2 ≤ x16 then
  some (1, x15, x16, E, M)
  else
  ck (rgI x14) <|
  ck (shI x16) <|
  ck (inb x16 (tE E q4).2) <|
  nb ((x15 + (((x14 / 2 ^ x16.toNat) % 2) * (M q4 x16.toNat)))) fun (v25 : Int) =>
  some (0, v25, (x16 + 1), E, M))
def l_La_council_136 (x2 : Int) (x3 : Int) (q4 : Nat) (x5 : Int) (x7 : Int) (x9 : Int) (x11 : Int) (x12 : Int) (x13 : Int) (x14 : Int) : Nat → Ev → Mm → Int → Int → Option (Nat × Int × Int × Ev × Mm)
  | 0, _, _, _, _ => none
  | fu + 1, E, M, x15, x16 => (La_council_136b E M x2 x3 q4 x5 x7 x9 x11 x12 x13 x14 x15 x16).bind fun (t, w15, w16, F, N) => if t = 0 then l_La_council_136 x2 x3 q4 x5 x7 x9 x11 x12 x13 x14 fu F N w15 w16 else some (t, w15, w16, F, N)
def La_council_122b (E : Ev) (M : Mm) (x2 : Int) (x3 : Int) (q4 : Nat) (x5 : Int) (x7 : Int) (x9 : Int) (x11 : Int) (x12 : Int) (x13 : Int) (x14 : Int) : Option (Nat × Int × Int × Ev × Mm) :=
  ck (Lay E) <|
  ck (isIA E q4) <|
  ck (shI x2) <|
  ck (rgI x14) <|
  ck (rgI (2 ^ x2.toNat)) <|
  (if (2 ^ x2.toNat) ≤ x14 then
  some (1, x13, x14, E, M)
  else
  (l_La_council_136 x2 x3 q4 x5 x7 x9 x11 x12 x13 x14 5000 E M 0 0).bind fun (t26, v26_15, v26_16, E26, M26) =>
  ck (Gw E E26) <|
  ck (Lay E26) <|
  ck (t26 = 1) <|
  ck (shI x12) <|
  (if ((x14 / 2 ^ x12.toNat) % 2) = 0 then
  ck (rgI v26_15) <|
  ck (rgI x7) <|
  (if x7 ≤ v26_15 then
  some (0, (x13 + 0), (x14 + 1), E26, M26)
  else
  ck (inb x12 (tE E26 q4).2) <|
  ck (rgI (v26_15 + (M26 q4 x12.toNat))) <|
  (if (v26_15 + (M26 q4 x12.toNat)) < x7 then
  some (0, (x13 + 0), (x14 + 1), E26, M26)
  else
  some (0, (x13 + 1), (x14 + 1), E26, M26)))
  else
  some (0, (x13 + 0), (x14 + 1), E26, M26)))
def l_La_council_122 (x2 : Int) (x3 : Int) (q4 : Nat) (x5 : Int) (x7 : Int) (x9 : Int) (x11 : Int) (x12 : Int) : Nat → Ev → Mm → Int → Int → Option (Nat × Int × Int × Ev × Mm)
  | 0, _, _, _, _ => none
  | fu + 1, E, M, x13, x14 => (La_council_122b E M x2 x3 q4 x5 x7 x9 x11 x12 x13 x14).bind fun (t, w13, w14, F, N) => if t = 0 then l_La_council_122 x2 x3 q4 x5 x7 x9 x11 x12 fu F N w13 w14 else some (t, w13, w14, F, N)
def La_council_j265 (E : Ev) (M : Mm) (x2 : Int) (x3 : Int) (q4 : Nat) (x5 : Int) (x7 : Int) (x9 : Int) (x12 : Int) (y0 : Int) (y1 : Int) : Option (Nat × Int × Int × Int × Ev × Mm) :=
  ck (Lay E) <|
  ck (isIA E q4) <|
  ck (rgI y1) <|
  ck (rgI y0) <|
  (if y1 = y0 then
  some (0, x9, 1, (x12 + 1), E, M)
  else
  some (0, x9, 0, (x12 + 1), E, M))
def La_council_j255 (E : Ev) (M : Mm) (x2 : Int) (x3 : Int) (q4 : Nat) (x5 : Int) (x7 : Int) (x9 : Int) (x12 : Int) (x13 : Int) (y0 : Int) : Option (Nat × Int × Int × Int × Ev × Mm) :=
  ck (Lay E) <|
  ck (isIA E q4) <|
  ck (rgI x13) <|
  (if x13 ≤ 0 then
  La_council_j265 E M x2 x3 q4 x5 x7 x9 x12 0 y0
  else
  La_council_j265 E M x2 x3 q4 x5 x7 x9 x12 1 y0)
def La_council_110b (E : Ev) (M : Mm) (x2 : Int) (x3 : Int) (q4 : Nat) (x5 : Int) (x7 : Int) (x9 : Int) (x11 : Int) (x12 : Int) : Option (Nat × Int × Int × Int × Ev × Mm) :=
  ck (Lay E) <|
  ck (isIA E q4) <|
  ck (rgI x12) <|
  ck (rgI x2) <|
  (if x2 ≤ x12 then
  some (1, x9, x11, x12, E, M)
  else
  (l_La_council_122 x2 x3 q4 x5 x7 x9 x11 x12 5000 E M 0 0).bind fun (t32, v32_13, v32_14, E32, M32) =>
  ck (Gw E E32) <|
  ck (Lay E32) <|
  ck (t32 = 1) <|
  (f_B_ordersTurned E32 M32 x12).bind fun (r33, M33) =>
  ck (rgI x11) <|
  (if x11 = 0 then
  some (0, (x9 + r33), 0, (x12 + 1), E32, M33)
  else
  (f_B_swings E32 M33 x12).bind fun (r35, M35) =>
  ck (rgI r35) <|
  ck (rgI v32_13) <|
  (if r35 = v32_13 then
  (f_B_ordersTurned E32 M35 x12).bind fun (r38, M38) =>
  ck (rgJ r38) <|
  (if r38 ≤ 0 then
  La_council_j255 E32 M38 x2 x3 q4 x5 x7 (x9 + r33) x12 v32_13 0
  else
  La_council_j255 E32 M38 x2 x3 q4 x5 x7 (x9 + r33) x12 v32_13 1)
  else
  some (0, (x9 + r33), 0, (x12 + 1), E32, M35))))
def l_La_council_110 (x2 : Int) (x3 : Int) (q4 : Nat) (x5 : Int) (x7 : Int) : Nat → Ev → Mm → Int → Int → Int → Option (Nat × Int × Int × Int × Ev × Mm)
  | 0, _, _, _, _, _ => none
  | fu + 1, E, M, x9, x11, x12 => (La_council_110b E M x2 x3 q4 x5 x7 x9 x11 x12).bind fun (t, w9, w11, w12, F, N) => if t = 0 then l_La_council_110 x2 x3 q4 x5 x7 fu F N w9 w11 w12 else some (t, w9, w11, w12, F, N)
def La_council_j300 (E : Ev) (M : Mm) (y0 : Int) (y1 : Int) : Option (Int × Ev × Mm) :=
  ck (Lay E) <|
  ck (rgJ y1) <|
  ck (rgJ y0) <|
  (if y1 = y0 then
  some (1, E, M)
  else
  some (0, E, M))
def f_La_council (E : Ev) (M : Mm) (p0 : Nat) : Option (Int × Ev × Mm) :=
  ck (isIA E p0) <|
  nb (nE E) fun (p0 : Nat) =>
  nb (eNew E (111, 0)) fun (E0 : Ev) =>
  nb (mN M (nE E)) fun (M0 : Mm) =>
  (f_B_init E0 M0 p0).bind fun (E1, M1) =>
  ck (Gw E0 E1) <|
  ck (Lay E1 ∧ p0 = 1) <|
  (f_La_next E1 M1 1 7).bind fun (r2, M2) =>
  ck (0 ≤ (1 + r2) ∧ (1 + r2) ≤ 64) <|
  nb (nE E1) fun (p4 : Nat) =>
  nb (eNew E1 (0, (1 + r2).toNat)) fun (E4 : Ev) =>
  nb (mN M2 (nE E1)) fun (M4 : Mm) =>
  (l_La_council_30 (1 + r2) p4 5000 E4 M4 0 1 0).bind fun (t12, v12_3, v12_5, v12_7, E12, M12) =>
  ck (Gw E4 E12) <|
  ck (Lay E12) <|
  ck (t12 = 1) <|
  (f_La_next E12 M12 1 (v12_3 + 3)).bind fun (r13, M13) =>
  (f_B_setQuota E12 M13 (1 + r13)).bind fun (r14, M14) =>
  (l_La_council_110 (1 + r2) v12_3 p4 v12_5 (1 + r13) 5000 E12 M14 0 1 0).bind fun (t43, v43_9, v43_11, v43_12, E43, M43) =>
  ck (Gw E12 E43) <|
  ck (Lay E43) <|
  ck (t43 = 1) <|
  ck (rgI v43_11) <|
  (if v43_11 = 0 then
  some (0, E43, M43)
  else
  ck (rgI (1 + r13)) <|
  ck (rgI v12_3) <|
  (if v12_3 < (1 + r13) then
  La_council_j300 E43 M43 0 v43_9
  else
  La_council_j300 E43 M43 v12_5 v43_9))
def La_law_11b (L : Nat) (xs : Nat → Int32) (E : Ev) (M : Mm) (q1 : Nat) (x2 : Int) : Option (Nat × Int × Ev × Mm) :=
  ck (isIA E q1) <|
  ck (rgI x2) <|
  ck (rgI (L : Int)) <|
  (if (L : Int) ≤ x2 then
  some (1, x2, E, M)
  else
  ck (inb 0 (tE E q1).2) <|
  ck (inb x2 L) <|
  nb ((((xorR (M q1 0) (xi xs x2.toNat)) * 1103515245) + 12345)) fun (v6 : Int) =>
  nb ((xorR ((u2 M q1 0 v6) q1 0) (ushI ((u2 M q1 0 v6) q1 0) 15))) fun (v7 : Int) =>
  some (0, (x2 + 1), E, (u2 (u2 M q1 0 v6) q1 0 v7)))
def l_La_law_11 (L : Nat) (xs : Nat → Int32) (q1 : Nat) : Nat → Ev → Mm → Int → Option (Nat × Int × Ev × Mm)
  | 0, _, _, _ => none
  | fu + 1, E, M, x2 => (La_law_11b L xs E M q1 x2).bind fun (t, w2, F, N) => if t = 0 then l_La_law_11 L xs q1 fu F N w2 else some (t, w2, F, N)
def La_law_78b (L : Nat) (xs : Nat → Int32) (E : Ev) (M : Mm) (q1 : Nat) (q3 : Nat) (x4 : Int) : Option (Nat × Int × Ev × Mm) :=
  ck (Lay E) <|
  ck (isIA E q1) <|
  ck (isO 12 E q3) <|
  ck (rgI x4) <|
  ck (rgI (M q3 0)) <|
  (if (M q3 0) ≤ x4 then
  some (1, x4, E, M)
  else
  (f_B_candidate E M).bind fun (r16, M16) =>
  some (0, (x4 + 1), E, M16))
def l_La_law_78 (L : Nat) (xs : Nat → Int32) (q1 : Nat) (q3 : Nat) : Nat → Ev → Mm → Int → Option (Nat × Int × Ev × Mm)
  | 0, _, _, _ => none
  | fu + 1, E, M, x4 => (La_law_78b L xs E M q1 q3 x4).bind fun (t, w4, F, N) => if t = 0 then l_La_law_78 L xs q1 q3 fu F N w4 else some (t, w4, F, N)
def La_law_112b (L : Nat) (xs : Nat → Int32) (E : Ev) (M : Mm) (q1 : Nat) (q3 : Nat) (x4 : Int) (x5 : Int) : Option (Nat × Int × Int × Ev × Mm) :=
  ck (Lay E) <|
  ck (isIA E q1) <|
  ck (isO 12 E q3) <|
  ck (rgI x5) <|
  (if x5 ≤ 0 then
  some (1, x4, x5, E, M)
  else
  ck (rgI x4) <|
  (if x4 = 0 then
  some (1, x4, x5, E, M)
  else
  (f_La_ballots E M q3 q1).bind fun (r21, E21, M21) =>
  ck (Gw E E21) <|
  ck (Lay E21) <|
  some (0, r21, (x5 + (-1)), E21, M21)))
def l_La_law_112 (L : Nat) (xs : Nat → Int32) (q1 : Nat) (q3 : Nat) : Nat → Ev → Mm → Int → Int → Option (Nat × Int × Int × Ev × Mm)
  | 0, _, _, _, _ => none
  | fu + 1, E, M, x4, x5 => (La_law_112b L xs E M q1 q3 x4 x5).bind fun (t, w4, w5, F, N) => if t = 0 then l_La_law_112 L xs q1 q3 fu F N w4 w5 else some (t, w4, w5, F, N)
def La_law_j211 (L : Nat) (xs : Nat → Int32) (E : Ev) (M : Mm) (q1 : Nat) (y0 : Int) : Option Int :=
  ck (Lay E) <|
  ck (isIA E q1) <|
  ck (rgI y0) <|
  (if y0 = 0 then
  some 0
  else
  ck (q1 = 0 ∧ (tE E 0).2 = 1) <|
  (f_La_seats eOne M q1).bind fun (r28, E28, M28) =>
  ck (Gw eOne E28) <|
  ck (rgI r28) <|
  (if r28 = 0 then
  some 0
  else
  ck (q1 = 0 ∧ (tE E28 0).2 = 1) <|
  (f_La_districts eOne M28 q1).bind fun (r31, E31, M31) =>
  ck (Gw eOne E31) <|
  ck (rgI r31) <|
  (if r31 = 0 then
  some 0
  else
  ck (q1 = 0 ∧ (tE E31 0).2 = 1) <|
  (f_La_council eOne M31 q1).bind fun (r34, E34, M34) =>
  ck (Gw eOne E34) <|
  ck (rgI r34) <|
  (if r34 = 0 then
  some 0
  else
  some 1))))
def La_law_j136 (L : Nat) (xs : Nat → Int32) (E : Ev) (M : Mm) (q1 : Nat) (q3 : Nat) (x4 : Int) : Option Int :=
  ck (Lay E) <|
  ck (isIA E q1) <|
  ck (isO 12 E q3) <|
  (f_La_next E M q1 (M q3 0)).bind fun (r23, M23) =>
  (f_La_next E M23 q1 100).bind fun (r24, M24) =>
  (f_B_setLot E M24 0 r23 r24).bind fun (r25, M25) =>
  ck (rgI x4) <|
  (if x4 = 0 then
  La_law_j211 L xs E M25 q1 0
  else
  (f_B_allBallots E M25).bind fun r37 =>
  (f_Lb_all E M25 q3).bind fun r38 =>
  ck (rgI r37) <|
  ck (rgI r38) <|
  (if r37 = r38 then
  (f_La_transferable E M25 q3 q1).bind fun (r41, E41, M41) =>
  ck (Gw E E41) <|
  ck (Lay E41) <|
  ck (rgI r41) <|
  (if r41 = 0 then
  La_law_j211 L xs E41 M41 q1 0
  else
  (f_La_pairs E41 M41 q3).bind fun (r43, E43, M43) =>
  ck (Gw E41 E43) <|
  ck (Lay E43) <|
  ck (rgI r43) <|
  (if r43 = 0 then
  La_law_j211 L xs E43 M43 q1 0
  else
  (f_La_gains E43 M43 q3 q1).bind fun (r45, E45, M45) =>
  ck (Gw E43 E45) <|
  ck (Lay E45) <|
  ck (rgI r45) <|
  (if r45 = 0 then
  La_law_j211 L xs E45 M45 q1 0
  else
  (f_B_errors E45 M45).bind fun (r47, M47) =>
  ck (rgI r47) <|
  (if r47 = 0 then
  La_law_j211 L xs E45 M47 q1 1
  else
  La_law_j211 L xs E45 M47 q1 0))))
  else
  La_law_j211 L xs E M25 q1 0))
def f_La_law (L : Nat) (xs : Nat → Int32) (E : Ev) (M : Mm) : Option Int :=
  nb (nE E) fun (p0 : Nat) =>
  nb (eNew E (0, 1)) fun (E0 : Ev) =>
  nb (mN M (nE E)) fun (M0 : Mm) =>
  ck (inb 0 (tE E0 p0).2) <|
  (l_La_law_11 L xs p0 5000 E0 (u2 M0 p0 0 13) 0).bind fun (t8, v8_2, E8, M8) =>
  ck (Gw E0 E8) <|
  ck (t8 = 1) <|
  nb (nE E8) fun (p9 : Nat) =>
  nb (eNew E8 (111, 0)) fun (E9 : Ev) =>
  nb (mN M8 (nE E8)) fun (M9 : Mm) =>
  (f_B_init E9 M9 p9).bind fun (E10, M10) =>
  ck (Gw E9 E10) <|
  ck (Lay E10 ∧ p9 = 1) <|
  nb (nE E10) fun (p11 : Nat) =>
  nb (eNew E10 (112, 0)) fun (E11 : Ev) =>
  nb (mN M10 (nE E10)) fun (M11 : Mm) =>
  (f_La_next E11 M11 p0 4).bind fun (r12, M12) =>
  (f_Lb_init E11 M12 p11 (2 + r12)).bind fun (E13, M13) =>
  ck (Gw E11 E13) <|
  ck (Lay E13) <|
  (l_La_law_78 L xs p0 p11 5000 E13 M13 0).bind fun (t17, v17_4, E17, M17) =>
  ck (Gw E13 E17) <|
  ck (Lay E17) <|
  ck (t17 = 1) <|
  (f_La_next E17 M17 p0 8).bind fun (r18, M18) =>
  (l_La_law_112 L xs p0 p11 32 E17 M18 1 (2 + r18)).bind fun (t22, v22_4, v22_5, E22, M22) =>
  ck (Gw E17 E22) <|
  ck (Lay E22) <|
  ck (t22 = 1) <|
  La_law_j136 L xs E22 M22 p0 p11 v22_4
