/-! WHAT EACH METHOD DOES TO THE MEMORY: printed out of the bytecode by wip/p56/gen -/
def f_Bx_init (E : Ev) (M : Mm) (p0 : Nat) : Option (Ev × Mm) :=
  ck (isO 0 E p0) <|
  nb (nE E) fun (p100 : Nat) =>
  nb (eNew E (0, 30)) fun (E100 : Ev) =>
  nb (mN M (nE E)) fun (M100 : Mm) =>
  nb (eRef E100 p0 0 p100) fun (E101 : Ev) =>
  nb (nE E101) fun (p102 : Nat) =>
  nb (eNew E101 (0, 8)) fun (E102 : Ev) =>
  nb (mN M100 (nE E101)) fun (M102 : Mm) =>
  nb (eRef E102 p0 4 p102) fun (E103 : Ev) =>
  nb (nE E103) fun (p104 : Nat) =>
  nb (eNew E103 (0, 31)) fun (E104 : Ev) =>
  nb (mN M102 (nE E103)) fun (M104 : Mm) =>
  nb (eRef E104 p0 5 p104) fun (E105 : Ev) =>
  nb (nE E105) fun (p106 : Nat) =>
  nb (eNew E105 (0, 31)) fun (E106 : Ev) =>
  nb (mN M104 (nE E105)) fun (M106 : Mm) =>
  nb (eRef E106 p0 6 p106) fun (E107 : Ev) =>
  nb (nE E107) fun (p108 : Nat) =>
  nb (eNew E107 (0, 31)) fun (E108 : Ev) =>
  nb (mN M106 (nE E107)) fun (M108 : Mm) =>
  nb (eRef E108 p0 7 p108) fun (E109 : Ev) =>
  nb (nE E109) fun (p110 : Nat) =>
  nb (eGrid E109 31 8) fun (E110 : Ev) =>
  nb (mG M108 (nE E109) 31) fun (M110 : Mm) =>
  nb (eRef E110 p0 8 p110) fun (E111 : Ev) =>
  nb (nE E111) fun (p112 : Nat) =>
  nb (eNew E111 (0, 256)) fun (E112 : Ev) =>
  nb (mN M110 (nE E111)) fun (M112 : Mm) =>
  nb (eRef E112 p0 9 p112) fun (E113 : Ev) =>
  some (E113, M112)
def f_Po_init (E : Ev) (M : Mm) (p0 : Nat) (p1 : Nat) : Option (Ev × Mm) :=
  ck (isO 9 E p0) <|
  ck (isO 0 E p1) <|
  nb (nE E) fun (p100 : Nat) =>
  nb (eNew E (0, 31)) fun (E100 : Ev) =>
  nb (mN M (nE E)) fun (M100 : Mm) =>
  nb (eRef E100 p0 3 p100) fun (E101 : Ev) =>
  nb (nE E101) fun (p102 : Nat) =>
  nb (eNew E101 (0, 8)) fun (E102 : Ev) =>
  nb (mN M100 (nE E101)) fun (M102 : Mm) =>
  nb (eRef E102 p0 4 p102) fun (E103 : Ev) =>
  nb (nE E103) fun (p104 : Nat) =>
  nb (eNew E103 (0, 8)) fun (E104 : Ev) =>
  nb (mN M102 (nE E103)) fun (M104 : Mm) =>
  nb (eRef E104 p0 5 p104) fun (E105 : Ev) =>
  nb (nE E105) fun (p106 : Nat) =>
  nb (eNew E105 (0, 64)) fun (E106 : Ev) =>
  nb (mN M104 (nE E105)) fun (M106 : Mm) =>
  nb (eRef E106 p0 6 p106) fun (E107 : Ev) =>
  nb (nE E107) fun (p108 : Nat) =>
  nb (eNew E107 (0, 8)) fun (E108 : Ev) =>
  nb (mN M106 (nE E107)) fun (M108 : Mm) =>
  nb (eRef E108 p0 7 p108) fun (E109 : Ev) =>
  nb (nE E109) fun (p110 : Nat) =>
  nb (eNew E109 (0, 64)) fun (E110 : Ev) =>
  nb (mN M108 (nE E109)) fun (M110 : Mm) =>
  nb (eRef E110 p0 8 p110) fun (E111 : Ev) =>
  nb (nE E111) fun (p112 : Nat) =>
  nb (eNew E111 (1, 8)) fun (E112 : Ev) =>
  nb (mN M110 (nE E111)) fun (M112 : Mm) =>
  nb (eRef E112 p0 9 p112) fun (E113 : Ev) =>
  nb (nE E113) fun (p114 : Nat) =>
  nb (eNew E113 (0, 8)) fun (E114 : Ev) =>
  nb (mN M112 (nE E113)) fun (M114 : Mm) =>
  nb (eRef E114 p0 10 p114) fun (E115 : Ev) =>
  nb (nE E115) fun (p116 : Nat) =>
  nb (eNew E115 (1, 256)) fun (E116 : Ev) =>
  nb (mN M114 (nE E115)) fun (M116 : Mm) =>
  nb (eRef E116 p0 11 p116) fun (E117 : Ev) =>
  nb (eRef E117 p0 0 p1) fun (E118 : Ev) =>
  some (E118, M116)
def f_Fb_init (E : Ev) (M : Mm) (p0 : Nat) (p1 : Nat) (p2 : Nat) : Option (Ev × Mm) :=
  ck (isO 5 E p0) <|
  ck (isO 0 E p1) <|
  ck (isO 9 E p2) <|
  nb (nE E) fun (p100 : Nat) =>
  nb (eNew E (0, 5)) fun (E100 : Ev) =>
  nb (mN M (nE E)) fun (M100 : Mm) =>
  nb (eRef E100 p0 2 p100) fun (E101 : Ev) =>
  nb (eRef E101 p0 0 p1) fun (E102 : Ev) =>
  nb (eRef E102 p0 1 p2) fun (E103 : Ev) =>
  some (E103, M100)
def f_Di_init (E : Ev) (M : Mm) (p0 : Nat) : Option (Ev × Mm) :=
  ck (isO 4 E p0) <|
  nb (nE E) fun (p100 : Nat) =>
  nb (eNew E (0, 8)) fun (E100 : Ev) =>
  nb (mN M (nE E)) fun (M100 : Mm) =>
  nb (eRef E100 p0 2 p100) fun (E101 : Ev) =>
  nb (nE E101) fun (p102 : Nat) =>
  nb (eNew E101 (1, 8)) fun (E102 : Ev) =>
  nb (mN M100 (nE E101)) fun (M102 : Mm) =>
  nb (eRef E102 p0 3 p102) fun (E103 : Ev) =>
  nb (nE E103) fun (p104 : Nat) =>
  nb (eNew E103 (0, 8)) fun (E104 : Ev) =>
  nb (mN M102 (nE E103)) fun (M104 : Mm) =>
  nb (eRef E104 p0 4 p104) fun (E105 : Ev) =>
  nb (nE E105) fun (p106 : Nat) =>
  nb (eNew E105 (0, 8)) fun (E106 : Ev) =>
  nb (mN M104 (nE E105)) fun (M106 : Mm) =>
  nb (eRef E106 p0 5 p106) fun (E107 : Ev) =>
  nb (nE E107) fun (p108 : Nat) =>
  nb (eNew E107 (1, 8)) fun (E108 : Ev) =>
  nb (mN M106 (nE E107)) fun (M108 : Mm) =>
  nb (eRef E108 p0 6 p108) fun (E109 : Ev) =>
  nb (nE E109) fun (p110 : Nat) =>
  nb (eNew E109 (0, 61)) fun (E110 : Ev) =>
  nb (mN M108 (nE E109)) fun (M110 : Mm) =>
  nb (eRef E110 p0 7 p110) fun (E111 : Ev) =>
  some (E111, M110)
def f_Ks_init (E : Ev) (M : Mm) (p0 : Nat) : Option (Ev × Mm) :=
  ck (isO 6 E p0) <|
  nb (nE E) fun (p100 : Nat) =>
  nb (eNew E (0, 60)) fun (E100 : Ev) =>
  nb (mN M (nE E)) fun (M100 : Mm) =>
  nb (eRef E100 p0 3 p100) fun (E101 : Ev) =>
  nb (nE E101) fun (p102 : Nat) =>
  nb (eNew E101 (0, 8)) fun (E102 : Ev) =>
  nb (mN M100 (nE E101)) fun (M102 : Mm) =>
  nb (eRef E102 p0 4 p102) fun (E103 : Ev) =>
  nb (nE E103) fun (p104 : Nat) =>
  nb (eNew E103 (0, 8)) fun (E104 : Ev) =>
  nb (mN M102 (nE E103)) fun (M104 : Mm) =>
  nb (eRef E104 p0 5 p104) fun (E105 : Ev) =>
  nb (nE E105) fun (p106 : Nat) =>
  nb (eNew E105 (0, 8)) fun (E106 : Ev) =>
  nb (mN M104 (nE E105)) fun (M106 : Mm) =>
  nb (eRef E106 p0 6 p106) fun (E107 : Ev) =>
  some (E107, M106)
def Li_init_77b (E : Ev) (M : Mm) (q0 : Nat) (x1 : Int) : Option (Nat × Int × Ev × Mm) :=
  ck (isO 7 E q0) <|
  ck (rgI x1) <|
  (if 21 ≤ x1 then
  some (1, x1, E, M)
  else
  (rE E q0 9).bind fun p119 =>
  ck (isQ 3 E p119) <|
  nb (nE E) fun (p120 : Nat) =>
  nb (eNew E (106, 0)) fun (E120 : Ev) =>
  nb (mN M (nE E)) fun (M120 : Mm) =>
  (f_Ks_init E120 M120 p120).bind fun (E121, M121) =>
  ck (Gw E120 E121) <|
  ck (inb x1 (tE E121 p119).2) <|
  nb (eRef E121 p119 x1.toNat p120) fun (E123 : Ev) =>
  some (0, (x1 + 1), E123, M121))
def l_Li_init_77 (q0 : Nat) : Nat → Ev → Mm → Int → Option (Nat × Int × Ev × Mm)
  | 0, _, _, _ => none
  | fu + 1, E, M, x1 => (Li_init_77b E M q0 x1).bind fun (t, w1, F, N) => if t = 0 then l_Li_init_77 q0 fu F N w1 else some (t, w1, F, N)
def f_Li_init (E : Ev) (M : Mm) (p0 : Nat) : Option (Ev × Mm) :=
  ck (isO 7 E p0) <|
  nb (nE E) fun (p100 : Nat) =>
  nb (eNew E (0, 8)) fun (E100 : Ev) =>
  nb (mN M (nE E)) fun (M100 : Mm) =>
  nb (eRef E100 p0 1 p100) fun (E101 : Ev) =>
  nb (nE E101) fun (p102 : Nat) =>
  nb (eNew E101 (0, 8)) fun (E102 : Ev) =>
  nb (mN M100 (nE E101)) fun (M102 : Mm) =>
  nb (eRef E102 p0 2 p102) fun (E103 : Ev) =>
  nb (nE E103) fun (p104 : Nat) =>
  nb (eNew E103 (0, 8)) fun (E104 : Ev) =>
  nb (mN M102 (nE E103)) fun (M104 : Mm) =>
  nb (eRef E104 p0 3 p104) fun (E105 : Ev) =>
  nb (nE E105) fun (p106 : Nat) =>
  nb (eNew E105 (104, 0)) fun (E106 : Ev) =>
  nb (mN M104 (nE E105)) fun (M106 : Mm) =>
  (f_Di_init E106 M106 p106).bind fun (E107, M107) =>
  ck (Gw E106 E107) <|
  nb (eRef E107 p0 4 p106) fun (E108 : Ev) =>
  nb (nE E108) fun (p109 : Nat) =>
  nb (eNew E108 (104, 0)) fun (E109 : Ev) =>
  nb (mN M107 (nE E108)) fun (M109 : Mm) =>
  (f_Di_init E109 M109 p109).bind fun (E110, M110) =>
  ck (Gw E109 E110) <|
  nb (eRef E110 p0 5 p109) fun (E111 : Ev) =>
  nb (nE E111) fun (p112 : Nat) =>
  nb (eNew E111 (0, 8)) fun (E112 : Ev) =>
  nb (mN M110 (nE E111)) fun (M112 : Mm) =>
  nb (eRef E112 p0 7 p112) fun (E113 : Ev) =>
  nb (nE E113) fun (p114 : Nat) =>
  nb (eNew E113 (0, 8)) fun (E114 : Ev) =>
  nb (mN M112 (nE E113)) fun (M114 : Mm) =>
  nb (eRef E114 p0 8 p114) fun (E115 : Ev) =>
  nb (nE E115) fun (p116 : Nat) =>
  nb (eNew E115 (3, 21)) fun (E116 : Ev) =>
  nb (mN M114 (nE E115)) fun (M116 : Mm) =>
  nb (eRef E116 p0 9 p116) fun (E117 : Ev) =>
  (l_Li_init_77 p0 32 E117 M116 0).bind fun (t124, v124_1, E124, M124) =>
  ck (Gw E117 E124) <|
  ck (t124 = 1) <|
  some (E124, M124)
def f_Na_init (E : Ev) (M : Mm) (p0 : Nat) : Option (Ev × Mm) :=
  ck (isO 8 E p0) <|
  nb (nE E) fun (p100 : Nat) =>
  nb (eNew E (0, 13)) fun (E100 : Ev) =>
  nb (mN M (nE E)) fun (M100 : Mm) =>
  nb (eRef E100 p0 0 p100) fun (E101 : Ev) =>
  some (E101, M100)
def Co_init_138b (E : Ev) (M : Mm) (q0 : Nat) (x2 : Int) : Option (Nat × Int × Ev × Mm) :=
  ck (isO 3 E q0) <|
  ck (rgI x2) <|
  (if 9 ≤ x2 then
  some (1, x2, E, M)
  else
  (rE E q0 5).bind fun p135 =>
  ck (isQ 5 E p135) <|
  nb (nE E) fun (p136 : Nat) =>
  nb (eNew E (108, 0)) fun (E136 : Ev) =>
  nb (mN M (nE E)) fun (M136 : Mm) =>
  (f_Na_init E136 M136 p136).bind fun (E137, M137) =>
  ck (Gw E136 E137) <|
  ck (inb x2 (tE E137 p135).2) <|
  nb (eRef E137 p135 x2.toNat p136) fun (E139 : Ev) =>
  some (0, (x2 + 1), E139, M137))
def l_Co_init_138 (q0 : Nat) : Nat → Ev → Mm → Int → Option (Nat × Int × Ev × Mm)
  | 0, _, _, _ => none
  | fu + 1, E, M, x2 => (Co_init_138b E M q0 x2).bind fun (t, w2, F, N) => if t = 0 then l_Co_init_138 q0 fu F N w2 else some (t, w2, F, N)
def f_Co_init (E : Ev) (M : Mm) (p0 : Nat) (p1 : Nat) : Option (Ev × Mm) :=
  ck (isO 3 E p0) <|
  ck (isO 0 E p1) <|
  nb (nE E) fun (p100 : Nat) =>
  nb (eNew E (4, 21)) fun (E100 : Ev) =>
  nb (mN M (nE E)) fun (M100 : Mm) =>
  nb (eRef E100 p0 1 p100) fun (E101 : Ev) =>
  nb (nE E101) fun (p102 : Nat) =>
  nb (eNew E101 (5, 240)) fun (E102 : Ev) =>
  nb (mN M100 (nE E101)) fun (M102 : Mm) =>
  nb (eRef E102 p0 4 p102) fun (E103 : Ev) =>
  nb (nE E103) fun (p104 : Nat) =>
  nb (eNew E103 (5, 9)) fun (E104 : Ev) =>
  nb (mN M102 (nE E103)) fun (M104 : Mm) =>
  nb (eRef E104 p0 5 p104) fun (E105 : Ev) =>
  nb (nE E105) fun (p106 : Nat) =>
  nb (eNew E105 (108, 0)) fun (E106 : Ev) =>
  nb (mN M104 (nE E105)) fun (M106 : Mm) =>
  (f_Na_init E106 M106 p106).bind fun (E107, M107) =>
  ck (Gw E106 E107) <|
  nb (eRef E107 p0 6 p106) fun (E108 : Ev) =>
  nb (nE E108) fun (p109 : Nat) =>
  nb (eNew E108 (108, 0)) fun (E109 : Ev) =>
  nb (mN M107 (nE E108)) fun (M109 : Mm) =>
  (f_Na_init E109 M109 p109).bind fun (E110, M110) =>
  ck (Gw E109 E110) <|
  nb (eRef E110 p0 7 p109) fun (E111 : Ev) =>
  nb (nE E111) fun (p112 : Nat) =>
  nb (eNew E111 (108, 0)) fun (E112 : Ev) =>
  nb (mN M110 (nE E111)) fun (M112 : Mm) =>
  (f_Na_init E112 M112 p112).bind fun (E113, M113) =>
  ck (Gw E112 E113) <|
  nb (eRef E113 p0 8 p112) fun (E114 : Ev) =>
  nb (nE E114) fun (p115 : Nat) =>
  nb (eNew E114 (108, 0)) fun (E115 : Ev) =>
  nb (mN M113 (nE E114)) fun (M115 : Mm) =>
  (f_Na_init E115 M115 p115).bind fun (E116, M116) =>
  ck (Gw E115 E116) <|
  nb (eRef E116 p0 9 p115) fun (E117 : Ev) =>
  nb (nE E117) fun (p118 : Nat) =>
  nb (eNew E117 (108, 0)) fun (E118 : Ev) =>
  nb (mN M116 (nE E117)) fun (M118 : Mm) =>
  (f_Na_init E118 M118 p118).bind fun (E119, M119) =>
  ck (Gw E118 E119) <|
  nb (eRef E119 p0 10 p118) fun (E120 : Ev) =>
  nb (nE E120) fun (p121 : Nat) =>
  nb (eNew E120 (108, 0)) fun (E121 : Ev) =>
  nb (mN M119 (nE E120)) fun (M121 : Mm) =>
  (f_Na_init E121 M121 p121).bind fun (E122, M122) =>
  ck (Gw E121 E122) <|
  nb (eRef E122 p0 11 p121) fun (E123 : Ev) =>
  nb (nE E123) fun (p124 : Nat) =>
  nb (eNew E123 (108, 0)) fun (E124 : Ev) =>
  nb (mN M122 (nE E123)) fun (M124 : Mm) =>
  (f_Na_init E124 M124 p124).bind fun (E125, M125) =>
  ck (Gw E124 E125) <|
  nb (eRef E125 p0 12 p124) fun (E126 : Ev) =>
  nb (nE E126) fun (p127 : Nat) =>
  nb (eNew E126 (108, 0)) fun (E127 : Ev) =>
  nb (mN M125 (nE E126)) fun (M127 : Mm) =>
  (f_Na_init E127 M127 p127).bind fun (E128, M128) =>
  ck (Gw E127 E128) <|
  nb (eRef E128 p0 13 p127) fun (E129 : Ev) =>
  nb (nE E129) fun (p130 : Nat) =>
  nb (eNew E129 (108, 0)) fun (E130 : Ev) =>
  nb (mN M128 (nE E129)) fun (M130 : Mm) =>
  (f_Na_init E130 M130 p130).bind fun (E131, M131) =>
  ck (Gw E130 E131) <|
  nb (eRef E131 p0 14 p130) fun (E132 : Ev) =>
  nb (eRef E132 p0 0 p1) fun (E133 : Ev) =>
  (l_Co_init_138 p0 32 E133 M131 0).bind fun (t140, v140_2, E140, M140) =>
  ck (Gw E133 E140) <|
  ck (t140 = 1) <|
  some (E140, M140)
def f_Wa_init (E : Ev) (M : Mm) (p0 : Nat) : Option (Ev × Mm) :=
  ck (isO 10 E p0) <|
  nb (nE E) fun (p100 : Nat) =>
  nb (eNew E (0, 16)) fun (E100 : Ev) =>
  nb (mN M (nE E)) fun (M100 : Mm) =>
  nb (eRef E100 p0 1 p100) fun (E101 : Ev) =>
  nb (nE E101) fun (p102 : Nat) =>
  nb (eGrid E101 2 16) fun (E102 : Ev) =>
  nb (mG M100 (nE E101) 2) fun (M102 : Mm) =>
  nb (eRef E102 p0 2 p102) fun (E103 : Ev) =>
  nb (nE E103) fun (p104 : Nat) =>
  nb (eGrid E103 17 16) fun (E104 : Ev) =>
  nb (mG M102 (nE E103) 17) fun (M104 : Mm) =>
  nb (eRef E104 p0 3 p104) fun (E105 : Ev) =>
  nb (nE E105) fun (p106 : Nat) =>
  nb (eNew E105 (0, 16)) fun (E106 : Ev) =>
  nb (mN M104 (nE E105)) fun (M106 : Mm) =>
  nb (eRef E106 p0 4 p106) fun (E107 : Ev) =>
  some (E107, M106)
def f_Cl_init (E : Ev) (M : Mm) (p0 : Nat) : Option (Ev × Mm) :=
  ck (isO 1 E p0) <|
  nb (nE E) fun (p100 : Nat) =>
  nb (eNew E (0, 12)) fun (E100 : Ev) =>
  nb (mN (u2 M p0 1 1) (nE E)) fun (M100 : Mm) =>
  nb (eRef E100 p0 2 p100) fun (E101 : Ev) =>
  nb (nE E101) fun (p102 : Nat) =>
  nb (eNew E101 (0, 4096)) fun (E102 : Ev) =>
  nb (mN M100 (nE E101)) fun (M102 : Mm) =>
  nb (eRef E102 p0 3 p102) fun (E103 : Ev) =>
  some (E103, M102)
def f_B_init (E : Ev) (M : Mm) (p0 : Nat) : Option (Ev × Mm) :=
  ck (isO 11 E p0) <|
  nb (nE E) fun (p100 : Nat) =>
  nb (eNew E (100, 0)) fun (E100 : Ev) =>
  nb (mN M (nE E)) fun (M100 : Mm) =>
  (f_Bx_init E100 M100 p100).bind fun (E101, M101) =>
  ck (Gw E100 E101) <|
  nb (eRef E101 p0 0 p100) fun (E102 : Ev) =>
  nb (nE E102) fun (p103 : Nat) =>
  nb (eNew E102 (109, 0)) fun (E103 : Ev) =>
  nb (mN M101 (nE E102)) fun (M103 : Mm) =>
  (rE E103 p0 0).bind fun p104 =>
  ck (isO 0 E103 p104) <|
  (f_Po_init E103 M103 p103 p104).bind fun (E105, M105) =>
  ck (Gw E103 E105) <|
  nb (eRef E105 p0 1 p103) fun (E106 : Ev) =>
  nb (nE E106) fun (p107 : Nat) =>
  nb (eNew E106 (105, 0)) fun (E107 : Ev) =>
  nb (mN M105 (nE E106)) fun (M107 : Mm) =>
  (rE E107 p0 0).bind fun p108 =>
  ck (isO 0 E107 p108) <|
  (rE E107 p0 1).bind fun p109 =>
  ck (isO 9 E107 p109) <|
  (f_Fb_init E107 M107 p107 p108 p109).bind fun (E110, M110) =>
  ck (Gw E107 E110) <|
  nb (eRef E110 p0 2 p107) fun (E111 : Ev) =>
  nb (nE E111) fun (p112 : Nat) =>
  nb (eNew E111 (107, 0)) fun (E112 : Ev) =>
  nb (mN M110 (nE E111)) fun (M112 : Mm) =>
  (f_Li_init E112 M112 p112).bind fun (E113, M113) =>
  ck (Gw E112 E113) <|
  nb (eRef E113 p0 3 p112) fun (E114 : Ev) =>
  nb (nE E114) fun (p115 : Nat) =>
  nb (eNew E114 (103, 0)) fun (E115 : Ev) =>
  nb (mN M113 (nE E114)) fun (M115 : Mm) =>
  (rE E115 p0 0).bind fun p116 =>
  ck (isO 0 E115 p116) <|
  (f_Co_init E115 M115 p115 p116).bind fun (E117, M117) =>
  ck (Gw E115 E117) <|
  nb (eRef E117 p0 4 p115) fun (E118 : Ev) =>
  nb (nE E118) fun (p119 : Nat) =>
  nb (eNew E118 (110, 0)) fun (E119 : Ev) =>
  nb (mN M117 (nE E118)) fun (M119 : Mm) =>
  (f_Wa_init E119 M119 p119).bind fun (E120, M120) =>
  ck (Gw E119 E120) <|
  nb (eRef E120 p0 5 p119) fun (E121 : Ev) =>
  nb (nE E121) fun (p122 : Nat) =>
  nb (eNew E121 (101, 0)) fun (E122 : Ev) =>
  nb (mN M120 (nE E121)) fun (M122 : Mm) =>
  (f_Cl_init E122 M122 p122).bind fun (E123, M123) =>
  ck (Gw E122 E123) <|
  nb (eRef E123 p0 6 p122) fun (E124 : Ev) =>
  nb (nE E124) fun (p125 : Nat) =>
  nb (eNew E124 (0, 20)) fun (E125 : Ev) =>
  nb (mN M123 (nE E124)) fun (M125 : Mm) =>
  nb (eRef E125 p0 7 p125) fun (E126 : Ev) =>
  nb (nE E126) fun (p127 : Nat) =>
  nb (eNew E126 (0, 20)) fun (E127 : Ev) =>
  nb (mN M125 (nE E126)) fun (M127 : Mm) =>
  nb (eRef E127 p0 8 p127) fun (E128 : Ev) =>
  nb (nE E128) fun (p129 : Nat) =>
  nb (eNew E128 (0, 20)) fun (E129 : Ev) =>
  nb (mN M127 (nE E128)) fun (M129 : Mm) =>
  nb (eRef E129 p0 9 p129) fun (E130 : Ev) =>
  nb (nE E130) fun (p131 : Nat) =>
  nb (eNew E130 (0, 240)) fun (E131 : Ev) =>
  nb (mN M129 (nE E130)) fun (M131 : Mm) =>
  nb (eRef E131 p0 12 p131) fun (E132 : Ev) =>
  some (E132, M131)
def f_La_next (E : Ev) (M : Mm) (p0 : Nat) (x1 : Int) : Option (Int × Mm) :=
  ck (isIA E p0) <|
  ck (inb 0 (tE E p0).2) <|
  nb ((((M p0 0) * 1103515245) + 12345)) fun (v101 : Int) =>
  ck (psI x1) <|
  some (((ushI ((u2 M p0 0 v101) p0 0) 8) % x1), (u2 M p0 0 v101))
def f_Lb_init (E : Ev) (M : Mm) (p0 : Nat) (x1 : Int) : Option (Ev × Mm) :=
  ck (isO 12 E p0) <|
  nb (nE E) fun (p100 : Nat) =>
  nb (eNew E (6, 12)) fun (E100 : Ev) =>
  nb (mN M (nE E)) fun (M100 : Mm) =>
  nb (eRef E100 p0 1 p100) fun (E101 : Ev) =>
  nb (nE E101) fun (p102 : Nat) =>
  nb (eNew E101 (0, 12)) fun (E102 : Ev) =>
  nb (mN M100 (nE E101)) fun (M102 : Mm) =>
  nb (eRef E102 p0 2 p102) fun (E103 : Ev) =>
  some (E103, (u2 M102 p0 0 x1))
def f_B_needRoom (E : Ev) (M : Mm) (x0 : Int) (x1 : Int) : Option Unit :=
  ck (rgI x0) <|
  ck (rgI x1) <|
  (if x0 ≤ x1 then
  some ()
  else
  none)
def f_B_remember (E : Ev) (M : Mm) (x1 : Int) (x2 : Int) (x3 : Int) : Option Mm :=
  ck (nnI ((M 1 10) + 1)) <|
  ck (inb ((u2 M 1 10 (((M 1 10) + 1) % 20)) 1 10) 20) <|
  nb (u2 (u2 M 1 10 (((M 1 10) + 1) % 20)) 246 ((u2 M 1 10 (((M 1 10) + 1) % 20)) 1 10).toNat x1) fun (M102 : Mm) =>
  ck (inb (M102 1 10) 20) <|
  ck (inb ((u2 M102 247 (M102 1 10).toNat x2) 1 10) 20) <|
  nb (u2 (u2 M102 247 (M102 1 10).toNat x2) 248 ((u2 M102 247 (M102 1 10).toNat x2) 1 10).toNat x3) fun (M105 : Mm) =>
  ck (rgI ((M105 1 11) + 1)) <|
  some (u2 M105 1 11 (min ((M105 1 11) + 1) 20))
def f_B_candidate (E : Ev) (M : Mm) : Option (Int × Mm) :=
  (f_B_needRoom E M ((M 2 2) + 1) 8).bind fun _u =>
  ck (inb (M 2 2) 8) <|
  (f_B_remember E (u2 (u2 M 4 (M 2 2).toNat (M 2 2)) 2 2 (((u2 M 4 (M 2 2).toNat (M 2 2)) 2 2) + 1)) 0 (M 2 2) 0).bind fun M102 =>
  some ((M 2 2), M102)
def f_As_init (E : Ev) (M : Mm) (p0 : Nat) (x1 : Int) : Option (Ev × Mm) :=
  ck (Lay E) <|
  ck (isO 14 E p0) <|
  ck (0 ≤ x1 ∧ x1 ≤ 64) <|
  nb (nE E) fun (p101 : Nat) =>
  nb (eNew E (2, x1.toNat)) fun (E101 : Ev) =>
  nb (mN M (nE E)) fun (M101 : Mm) =>
  nb (eRef E101 p0 0 p101) fun (E102 : Ev) =>
  ck (Lay E102) <|
  some (E102, (u2 M101 p0 1 0))
def f_Sb_init (E : Ev) (M : Mm) (p0 : Nat) : Option (Ev × Mm) :=
  ck (Lay E) <|
  ck (isO 14 E p0) <|
  (f_As_init E M p0 16).bind fun (E100, M100) =>
  ck (Gw E E100) <|
  ck (Lay E100) <|
  some (E100, M100)
def f_As_ensureCapacityInternal (E : Ev) (M : Mm) (p0 : Nat) (x1 : Int) : Option Unit :=
  ck (isO 14 E p0) <|
  (rE E p0 0).bind fun p100 =>
  ck (isBA E p100) <|
  ck (rgI ((tE E p100).2 : Int)) <|
  ck (shI (M p0 1)) <|
  nb ((((tE E p100).2 : Int) / 2 ^ (M p0 1).toNat)) fun (v103 : Int) =>
  ck (rgI (x1 - v103)) <|
  (if (x1 - v103) ≤ 0 then
  some ()
  else
  none)
def f_As_isLatin1 (E : Ev) (M : Mm) (p0 : Nat) : Option Int :=
  ck (isO 14 E p0) <|
  ck (rgI (M p0 1)) <|
  (if (M p0 1) = 0 then
  some 1
  else
  some 0)
def f_Sl_canEncode (E : Ev) (M : Mm) (x0 : Int) : Option Int :=
  ck (rgI x0) <|
  (if 255 < x0 then
  some 0
  else
  some 1)
def f_As_appendC (E : Ev) (M : Mm) (p0 : Nat) (x1 : Int) : Option (Nat × Mm) :=
  ck (isO 14 E p0) <|
  (f_As_ensureCapacityInternal E M p0 ((M p0 3) + 1)).bind fun _u =>
  (f_As_isLatin1 E M p0).bind fun r101 =>
  ck (rgI r101) <|
  (if r101 = 0 then
  none
  else
  (f_Sl_canEncode E M x1).bind fun r103 =>
  ck (rgI r103) <|
  (if r103 = 0 then
  none
  else
  (rE E p0 0).bind fun p105 =>
  ck (isBA E p105) <|
  ck (-128 ≤ x1 ∧ x1 ≤ 127) <|
  ck (inb (M p0 3) (tE E p105).2) <|
  some (p0, (u2 (u2 M p0 3 ((M p0 3) + 1)) p105 (M p0 3).toNat x1))))
def f_Sb_appendC (E : Ev) (M : Mm) (p0 : Nat) (x1 : Int) : Option (Nat × Mm) :=
  ck (isO 14 E p0) <|
  (f_As_appendC E M p0 x1).bind fun (r100, M100) =>
  ck (isO 14 E r100) <|
  some (p0, M100)
def f_As_getValue (E : Ev) (M : Mm) (p0 : Nat) : Option Nat :=
  ck (isO 14 E p0) <|
  (rE E p0 0).bind fun p100 =>
  ck (isBA E p100) <|
  some p100
def f_As_length (E : Ev) (M : Mm) (p0 : Nat) : Option Int :=
  ck (isO 14 E p0) <|
  some (M p0 3)
def f_Sb_length (E : Ev) (M : Mm) (p0 : Nat) : Option Int :=
  ck (isO 14 E p0) <|
  (f_As_length E M p0).bind fun r100 =>
  some r100
def f_Ar_checkLength (E : Ev) (M : Mm) (x0 : Int) (x1 : Int) : Option Unit :=
  ck (rgI x1) <|
  ck (rgI x0) <|
  (if x0 ≤ x1 then
  some ()
  else
  none)
def f_Ar_copyOfRangeByte (E : Ev) (M : Mm) (p0 : Nat) (x1 : Int) (x2 : Int) : Option (Nat × Ev × Mm) :=
  ck (Lay E) <|
  ck (isBA E p0) <|
  (f_Ar_checkLength E M x1 x2).bind fun _u =>
  ck (0 ≤ (x2 - x1) ∧ (x2 - x1) ≤ 64) <|
  nb (nE E) fun (p102 : Nat) =>
  nb (eNew E (2, (x2 - x1).toNat)) fun (E102 : Ev) =>
  nb (mN M (nE E)) fun (M102 : Mm) =>
  ck (rgI (((tE E102 p0).2 : Int) - x1)) <|
  ck (rgI (x2 - x1)) <|
  nb ((min (((tE E102 p0).2 : Int) - x1) (x2 - x1))) fun (v105 : Int) =>
  ck (cpk x1 0 v105 (tE E102 p0).2 (tE E102 p102).2) <|
  ck (byR (M102 p0) x1 v105) <|
  some (p102, E102, (uA M102 p102 (va_cpy (M102 p0) (M102 p102) x1.toNat 0 v105.toNat)))
def Ar_copyOfRange_j10 (E : Ev) (M : Mm) (q0 : Nat) (x1 : Int) (x2 : Int) : Option (Nat × Ev × Mm) :=
  ck (Lay E) <|
  ck (isBA E q0) <|
  (f_Ar_copyOfRangeByte E M q0 x1 x2).bind fun (r101, E101, M101) =>
  ck (Gw E E101) <|
  ck (Lay E101) <|
  ck (isBA E101 r101) <|
  some (r101, E101, M101)
def f_Ar_copyOfRange (E : Ev) (M : Mm) (p0 : Nat) (x1 : Int) (x2 : Int) : Option (Nat × Ev × Mm) :=
  ck (Lay E) <|
  ck (isBA E p0) <|
  ck (rgI x1) <|
  (if x1 = 0 then
  ck (rgI x2) <|
  ck (rgI ((tE E p0).2 : Int)) <|
  (if x2 = ((tE E p0).2 : Int) then
  none
  else
  Ar_copyOfRange_j10 E M p0 x1 x2)
  else
  Ar_copyOfRange_j10 E M p0 x1 x2)
def f_St_init2 (E : Ev) (M : Mm) (p0 : Nat) (p1 : Nat) : Option (Ev × Mm) :=
  ck (Lay E) <|
  ck (isO 13 E p0) <|
  ck (isO 14 E p1) <|
  (f_As_getValue E M p1).bind fun r100 =>
  ck (isBA E r100) <|
  (f_Sb_length E M p1).bind fun r101 =>
  (f_As_isLatin1 E M p1).bind fun r102 =>
  ck (rgI r102) <|
  (if r102 = 0 then
  none
  else
  (f_Ar_copyOfRange E (u2 M p0 1 0) r100 0 r101).bind fun (r104, E104, M104) =>
  ck (Gw E E104) <|
  ck (Lay E104) <|
  ck (isBA E104 r104) <|
  nb (eRef E104 p0 0 r104) fun (E105 : Ev) =>
  ck (Lay E105) <|
  some (E105, M104))
def f_St_init (E : Ev) (M : Mm) (p0 : Nat) (p1 : Nat) : Option (Ev × Mm) :=
  ck (Lay E) <|
  ck (isO 13 E p0) <|
  ck (isO 14 E p1) <|
  (f_St_init2 E M p0 p1).bind fun (E100, M100) =>
  ck (Gw E E100) <|
  ck (Lay E100) <|
  some (E100, M100)
def f_Sb_toString (E : Ev) (M : Mm) (p0 : Nat) : Option (Nat × Ev × Mm) :=
  ck (Lay E) <|
  ck (isO 14 E p0) <|
  nb (nE E) fun (p100 : Nat) =>
  nb (eNew E (113, 0)) fun (E100 : Ev) =>
  nb (mN M (nE E)) fun (M100 : Mm) =>
  (f_St_init E100 M100 p100 p0).bind fun (E101, M101) =>
  ck (Gw E100 E101) <|
  ck (Lay E101) <|
  some (p100, E101, M101)
def f_St_coder (E : Ev) (M : Mm) (p0 : Nat) : Option Int :=
  ck (isO 13 E p0) <|
  ck (-128 ≤ (M p0 1) ∧ (M p0 1) ≤ 127) <|
  some (M p0 1)
def f_St_length (E : Ev) (M : Mm) (p0 : Nat) : Option Int :=
  ck (isO 13 E p0) <|
  (rE E p0 0).bind fun p100 =>
  ck (isBA E p100) <|
  (f_St_coder E M p0).bind fun r101 =>
  ck (rgI ((tE E p100).2 : Int)) <|
  ck (shI r101) <|
  some (((tE E p100).2 : Int) / 2 ^ r101.toNat)
def f_St_isLatin1 (E : Ev) (M : Mm) (p0 : Nat) : Option Int :=
  ck (isO 13 E p0) <|
  ck (rgI (M p0 1)) <|
  (if (M p0 1) = 0 then
  some 1
  else
  some 0)
def f_Pr_checkIndex (E : Ev) (M : Mm) (x0 : Int) (x1 : Int) : Option Int :=
  ck (rgI x0) <|
  (if x0 < 0 then
  none
  else
  ck (rgI x1) <|
  (if x0 < x1 then
  some x0
  else
  none))
def f_St_checkIndex (E : Ev) (M : Mm) (x0 : Int) (x1 : Int) : Option Unit :=
  (f_Pr_checkIndex E M x0 x1).bind fun r101 =>
  some ()
def f_Sl_charAt (E : Ev) (M : Mm) (p0 : Nat) (x1 : Int) : Option Int :=
  ck (isBA E p0) <|
  (f_St_checkIndex E M x1 ((tE E p0).2 : Int)).bind fun _u =>
  ck (inb x1 (tE E p0).2) <|
  ck (0 ≤ ((M p0 x1.toNat) % 256) ∧ ((M p0 x1.toNat) % 256) ≤ 65535) <|
  ck (0 ≤ ((M p0 x1.toNat) % 256) ∧ ((M p0 x1.toNat) % 256) ≤ 65535) <|
  some ((M p0 x1.toNat) % 256)
def f_St_charAt (E : Ev) (M : Mm) (p0 : Nat) (x1 : Int) : Option Int :=
  ck (isO 13 E p0) <|
  (f_St_isLatin1 E M p0).bind fun r100 =>
  ck (rgI r100) <|
  (if r100 = 0 then
  none
  else
  (rE E p0 0).bind fun p102 =>
  ck (isBA E p102) <|
  (f_Sl_charAt E M p102 x1).bind fun r103 =>
  ck (0 ≤ r103 ∧ r103 ≤ 65535) <|
  some r103)
def f_Bx_appendSign (E : Ev) (M : Mm) (x1 : Int) : Option Mm :=
  ck (rgI x1) <|
  (if x1 = 0 then
  some M
  else
  ck (rgI (M 2 1)) <|
  (if 30 ≤ (M 2 1) then
  some M
  else
  ck (inb (M 2 1) 30) <|
  some (u2 (u2 M 3 (M 2 1).toNat x1) 2 1 (((u2 M 3 (M 2 1).toNat x1) 2 1) + 1))))
def B_type_6b (E : Ev) (M : Mm) (x1 : Int) (x3 : Int) (x4 : Int) : Option (Nat × Int × Int × Mm) :=
  ck (rgI x4) <|
  (if x4 < 0 then
  some (1, x3, x4, M)
  else
  ck (shJ x4) <|
  ck (rgJ x1) <|
  (if ((x1 / 2 ^ x4.toNat) % 256) = 0 then
  some (0, x3, (x4 + (-8)), M)
  else
  some (0, (x3 + 1), (x4 + (-8)), M)))
def l_B_type_6 (E : Ev) (x1 : Int) : Nat → Mm → Int → Int → Option (Nat × Int × Int × Mm)
  | 0, _, _, _ => none
  | fu + 1, M, x3, x4 => (B_type_6b E M x1 x3 x4).bind fun (t, w3, w4, N) => if t = 0 then l_B_type_6 E x1 fu N w3 w4 else some (t, w3, w4, N)
def B_type_51b (E : Ev) (M : Mm) (x1 : Int) (x4 : Int) : Option (Nat × Int × Mm) :=
  ck (rgI x4) <|
  (if x4 < 0 then
  some (1, x4, M)
  else
  ck (shJ x4) <|
  ck (rgJ x1) <|
  (f_Bx_appendSign E M ((x1 / 2 ^ x4.toNat) % 256)).bind fun M108 =>
  some (0, (x4 + (-8)), M108))
def l_B_type_51 (E : Ev) (x1 : Int) : Nat → Mm → Int → Option (Nat × Int × Mm)
  | 0, _, _ => none
  | fu + 1, M, x4 => (B_type_51b E M x1 x4).bind fun (t, w4, N) => if t = 0 then l_B_type_51 E x1 fu N w4 else some (t, w4, N)
def f_B_type (E : Ev) (M : Mm) (x1 : Int) : Option (Int × Mm) :=
  (l_B_type_6 E x1 FU M 0 56).bind fun (t103, v103_3, v103_4, M103) =>
  ck (t103 = 1) <|
  (f_B_needRoom E M103 ((M103 2 1) + v103_3) 30).bind fun _u =>
  (l_B_type_51 E x1 FU M103 56).bind fun (t109, v109_4, M109) =>
  ck (t109 = 1) <|
  some ((M109 2 1), M109)
def La_type_15b (E : Ev) (M : Mm) (q1 : Nat) (x2 : Int) (x3 : Int) (x5 : Int) : Option (Nat × Int × Int × Mm) :=
  ck (isO 13 E q1) <|
  ck (rgI x5) <|
  ck (rgI (x2 + 8)) <|
  (if (x2 + 8) ≤ x5 then
  some (1, x3, x5, M)
  else
  (f_St_length E M q1).bind fun r105 =>
  ck (rgI r105) <|
  (if r105 ≤ x5 then
  some (1, x3, x5, M)
  else
  (f_St_charAt E M q1 x5).bind fun r107 =>
  ck (rgI r107) <|
  ck (nnJ (x3 * 256)) <|
  ck (nnJ r107) <|
  some (0, (orI (x3 * 256) r107), (x5 + 1), M)))
def l_La_type_15 (E : Ev) (q1 : Nat) (x2 : Int) : Nat → Mm → Int → Int → Option (Nat × Int × Int × Mm)
  | 0, _, _, _ => none
  | fu + 1, M, x3, x5 => (La_type_15b E M q1 x2 x3 x5).bind fun (t, w3, w5, N) => if t = 0 then l_La_type_15 E q1 x2 fu N w3 w5 else some (t, w3, w5, N)
def La_type_j52 (E : Ev) (M : Mm) (q1 : Nat) (x2 : Int) (x3 : Int) : Option (Nat × Int × Mm) :=
  ck (isO 13 E q1) <|
  (f_B_type E M x3).bind fun (r112, M112) =>
  some (0, (x2 + 8), M112)
def La_type_2b (E : Ev) (M : Mm) (q1 : Nat) (x2 : Int) : Option (Nat × Int × Mm) :=
  ck (isO 13 E q1) <|
  (f_St_length E M q1).bind fun r100 =>
  ck (rgI x2) <|
  ck (rgI r100) <|
  (if r100 ≤ x2 then
  some (1, x2, M)
  else
  (l_La_type_15 E q1 x2 FU M 0 x2).bind fun (t111, v111_3, v111_5, M111) =>
  ck (t111 = 1) <|
  La_type_j52 E M111 q1 x2 v111_3)
def l_La_type_2 (E : Ev) (q1 : Nat) : Nat → Mm → Int → Option (Nat × Int × Mm)
  | 0, _, _ => none
  | fu + 1, M, x2 => (La_type_2b E M q1 x2).bind fun (t, w2, N) => if t = 0 then l_La_type_2 E q1 fu N w2 else some (t, w2, N)
def f_La_type (E : Ev) (M : Mm) (p1 : Nat) : Option Mm :=
  ck (isO 13 E p1) <|
  (l_La_type_2 E p1 FU M 0).bind fun (t113, v113_2, M113) =>
  ck (t113 = 1) <|
  some M113
def f_B_needRange (E : Ev) (M : Mm) (x0 : Int) (x1 : Int) (x2 : Int) : Option Unit :=
  ck (rgI x0) <|
  ck (rgI x1) <|
  (if x0 < x1 then
  none
  else
  ck (rgI x2) <|
  (if x0 ≤ x2 then
  some ()
  else
  none))
def Ar_fillI_5b (E : Ev) (M : Mm) (q0 : Nat) (x1 : Int) (x3 : Int) (x2 : Int) : Option (Nat × Int × Mm) :=
  ck (isIA E q0) <|
  ck (rgI x2) <|
  ck (rgI x3) <|
  (if x3 ≤ x2 then
  some (1, x2, M)
  else
  ck (inb x2 (tE E q0).2) <|
  some (0, (x2 + 1), (u2 M q0 x2.toNat x1)))
def l_Ar_fillI_5 (E : Ev) (q0 : Nat) (x1 : Int) (x3 : Int) : Nat → Mm → Int → Option (Nat × Int × Mm)
  | 0, _, _ => none
  | fu + 1, M, x2 => (Ar_fillI_5b E M q0 x1 x3 x2).bind fun (t, w2, N) => if t = 0 then l_Ar_fillI_5 E q0 x1 x3 fu N w2 else some (t, w2, N)
def f_Ar_fillI (E : Ev) (M : Mm) (p0 : Nat) (x1 : Int) : Option Mm :=
  ck (isIA E p0) <|
  (l_Ar_fillI_5 E p0 x1 ((tE E p0).2 : Int) FU M 0).bind fun (t103, v103_2, M103) =>
  ck (t103 = 1) <|
  some M103
def f_Bx_clearTrial (E : Ev) (M : Mm) : Option Mm :=
  (f_Ar_fillI E (u2 (u2 M 7 30 0) 6 30 0) 39 0).bind fun M100 =>
  some M100
def f_B_has (E : Ev) (M : Mm) (x0 : Int) (x1 : Int) : Option Int :=
  ck (rgI x0) <|
  ck (shI x1) <|
  (if ((x0 / 2 ^ x1.toNat) % 2) = 0 then
  some 0
  else
  some 1)
def Bx_rankOnTrial_j27 (E : Ev) (M : Mm) (x1 : Int) : Option Mm :=
  ck (rgI ((M 7 30) - 1)) <|
  ck (inb (max ((M 7 30) - 1) 0) 8) <|
  ck (shI x1) <|
  ck (nnI (M 39 (max ((M 7 30) - 1) 0).toNat)) <|
  ck (nnI (2 ^ x1.toNat)) <|
  nb ((orI (M 39 (max ((M 7 30) - 1) 0).toNat) (2 ^ x1.toNat))) fun (v106 : Int) =>
  some (u2 M 39 (max ((M 7 30) - 1) 0).toNat v106)
def f_Bx_rankOnTrial (E : Ev) (M : Mm) (x1 : Int) (x2 : Int) : Option Mm :=
  ck (rgI x2) <|
  (if x2 = 0 then
  Bx_rankOnTrial_j27 E M x1
  else
  ck (rgI (M 7 30)) <|
  (if 8 ≤ (M 7 30) then
  Bx_rankOnTrial_j27 E M x1
  else
  Bx_rankOnTrial_j27 E (u2 M 7 30 ((M 7 30) + 1)) x1))
def Bx_readTrial_j146 (E : Ev) (M : Mm) (x1 : Int) (x2 : Int) (x4 : Int) (x5 : Int) (y0 : Int) : Option (Nat × Int × Int × Int × Int × Int × Mm) :=
  ck (rgI x4) <|
  (if x4 = 0 then
  some (0, x1, x2, y0, 1, (x5 + 1), M)
  else
  some (0, x1, x2, y0, 0, (x5 + 1), M))
def Bx_readTrial_j134 (E : Ev) (M : Mm) (x1 : Int) (x2 : Int) (x4 : Int) (x5 : Int) (x6 : Int) : Option (Nat × Int × Int × Int × Int × Int × Mm) :=
  ck (rgI x6) <|
  (if x6 = 61 then
  Bx_readTrial_j146 E M x1 x2 x4 x5 0
  else
  Bx_readTrial_j146 E M x1 x2 x4 x5 1)
def Bx_readTrial_j117 (E : Ev) (M : Mm) (x1 : Int) (x2 : Int) (x4 : Int) (x5 : Int) (x6 : Int) : Option (Nat × Int × Int × Int × Int × Int × Mm) :=
  ck (rgI x6) <|
  (if x6 = 62 then
  Bx_readTrial_j134 E M x1 x2 x4 x5 x6
  else
  (if x6 = 61 then
  Bx_readTrial_j134 E M x1 x2 x4 x5 x6
  else
  some (2, x1, x2, 0, x4, x5, M)))
def Bx_readTrial_27b (E : Ev) (M : Mm) (x1 : Int) (x2 : Int) (x3 : Int) (x4 : Int) (x5 : Int) : Option (Nat × Int × Int × Int × Int × Int × Mm) :=
  ck (rgI x5) <|
  ck (rgI (M 2 1)) <|
  (if (M 2 1) ≤ x5 then
  some (3, x1, x2, x3, x4, x5, M)
  else
  ck (inb x5 30) <|
  ck (rgI x4) <|
  (if x4 = 0 then
  ck (rgI (M 3 x5.toNat)) <|
  (if (M 3 x5.toNat) = 124 then
  ck (rgI x2) <|
  (if x2 = (-1) then
  Bx_readTrial_j134 E M x1 x1 x4 x5 (M 3 x5.toNat)
  else
  Bx_readTrial_j117 E M x1 x2 x4 x5 (M 3 x5.toNat))
  else
  Bx_readTrial_j117 E M x1 x2 x4 x5 (M 3 x5.toNat))
  else
  ck (rgI ((M 3 x5.toNat) - 65)) <|
  (if ((M 3 x5.toNat) - 65) < 0 then
  some (1, x1, x2, x3, x4, x5, M)
  else
  ck (rgI (M 2 2)) <|
  (if (M 2 2) ≤ ((M 3 x5.toNat) - 65) then
  some (1, x1, x2, x3, x4, x5, M)
  else
  (f_B_has E M x1 ((M 3 x5.toNat) - 65)).bind fun r113 =>
  ck (rgI r113) <|
  (if r113 = 0 then
  ck (shI ((M 3 x5.toNat) - 65)) <|
  ck (nnI x1) <|
  ck (nnI (2 ^ ((M 3 x5.toNat) - 65).toNat)) <|
  nb ((orI x1 (2 ^ ((M 3 x5.toNat) - 65).toNat))) fun (v118 : Int) =>
  (f_Bx_rankOnTrial E M ((M 3 x5.toNat) - 65) x3).bind fun M119 =>
  Bx_readTrial_j134 E M119 v118 x2 x4 x5 (M 3 x5.toNat)
  else
  some (1, x1, x2, x3, x4, x5, M))))))
def l_Bx_readTrial_27 (E : Ev) : Nat → Mm → Int → Int → Int → Int → Int → Option (Nat × Int × Int × Int × Int × Int × Mm)
  | 0, _, _, _, _, _, _ => none
  | fu + 1, M, x1, x2, x3, x4, x5 => (Bx_readTrial_27b E M x1 x2 x3 x4 x5).bind fun (t, w1, w2, w3, w4, w5, N) => if t = 0 then l_Bx_readTrial_27 E fu N w1 w2 w3 w4 w5 else some (t, w1, w2, w3, w4, w5, N)
def Bx_readTrial_j199 (E : Ev) (M : Mm) (y0 : Int) (y1 : Int) (y2 : Nat) : Option (Int × Mm) :=
  ck (isIA E y2) <|
  ck (inb y1 (tE E y2).2) <|
  some ((-1), (u2 M y2 y1.toNat y0))
def f_Bx_readTrial (E : Ev) (M : Mm) : Option (Int × Mm) :=
  (f_Bx_clearTrial E M).bind fun M100 =>
  ck (rgI (M100 2 1)) <|
  (if (M100 2 1) ≤ 0 then
  (l_Bx_readTrial_27 E FU M100 0 (-1) 1 0 0).bind fun (t120, v120_1, v120_2, v120_3, v120_4, v120_5, M120) =>
  (if t120 = 1 then
  some (v120_5, M120)
  else (if t120 = 2 then
  some (v120_5, M120)
  else (if t120 = 3 then
  ck (rgI v120_4) <|
  (if v120_4 = 0 then
  ck (rgI v120_2) <|
  (if v120_2 = (-1) then
  Bx_readTrial_j199 E M120 (M120 39 0) 30 6
  else
  Bx_readTrial_j199 E M120 v120_2 30 6)
  else
  some ((M120 2 1), M120))
  else none)))
  else
  (l_Bx_readTrial_27 E FU M100 0 (-1) 1 1 0).bind fun (t124, v124_1, v124_2, v124_3, v124_4, v124_5, M124) =>
  (if t124 = 1 then
  some (v124_5, M124)
  else (if t124 = 2 then
  some (v124_5, M124)
  else (if t124 = 3 then
  ck (rgI v124_4) <|
  (if v124_4 = 0 then
  ck (rgI v124_2) <|
  (if v124_2 = (-1) then
  Bx_readTrial_j199 E M124 (M124 39 0) 30 6
  else
  Bx_readTrial_j199 E M124 v124_2 30 6)
  else
  some ((M124 2 1), M124))
  else none))))
def Bx_isLikeTrial_36b (E : Ev) (M : Mm) (x1 : Int) (x2 : Int) : Option (Nat × Int) :=
  ck (inb x1 31) <|
  ck (rgI x2) <|
  ck (rgI (M 7 x1.toNat)) <|
  (if (M 7 x1.toNat) ≤ x2 then
  some (2, x2)
  else
  ck (inb x2 8) <|
  ck (rgI (M (9 + x1.toNat) x2.toNat)) <|
  ck (rgI (M 39 x2.toNat)) <|
  (if (M (9 + x1.toNat) x2.toNat) = (M 39 x2.toNat) then
  some (0, (x2 + 1))
  else
  some (1, x2)))
def l_Bx_isLikeTrial_36 (E : Ev) (x1 : Int) : Nat → Mm → Int → Option (Nat × Int)
  | 0, _, _ => none
  | fu + 1, M, x2 => (Bx_isLikeTrial_36b E M x1 x2).bind fun (t, w2) => if t = 0 then l_Bx_isLikeTrial_36 E x1 fu M w2 else some (t, w2)
def f_Bx_isLikeTrial (E : Ev) (M : Mm) (x1 : Int) : Option Int :=
  ck (inb x1 31) <|
  ck (rgI (M 7 x1.toNat)) <|
  ck (rgI (M 7 30)) <|
  (if (M 7 x1.toNat) = (M 7 30) then
  ck (rgI (M 6 x1.toNat)) <|
  ck (rgI (M 6 30)) <|
  (if (M 6 x1.toNat) = (M 6 30) then
  (l_Bx_isLikeTrial_36 E x1 FU M 0).bind fun (t111, v111_2) =>
  (if t111 = 1 then
  some 0
  else (if t111 = 2 then
  some 1
  else none))
  else
  some 0)
  else
  some 0)
def Bx_kindOfTrial_2b (E : Ev) (M : Mm) (x1 : Int) : Option (Nat × Int) :=
  ck (rgI x1) <|
  ck (rgI (M 2 3)) <|
  (if (M 2 3) ≤ x1 then
  some (2, x1)
  else
  (f_Bx_isLikeTrial E M x1).bind fun r102 =>
  ck (rgI r102) <|
  (if r102 = 0 then
  some (0, (x1 + 1))
  else
  some (1, x1)))
def l_Bx_kindOfTrial_2 (E : Ev) : Nat → Mm → Int → Option (Nat × Int)
  | 0, _, _ => none
  | fu + 1, M, x1 => (Bx_kindOfTrial_2b E M x1).bind fun (t, w1) => if t = 0 then l_Bx_kindOfTrial_2 E fu M w1 else some (t, w1)
def f_Bx_kindOfTrial (E : Ev) (M : Mm) : Option Int :=
  (l_Bx_kindOfTrial_2 E FU M 0).bind fun (t104, v104_1) =>
  (if t104 = 1 then
  some v104_1
  else (if t104 = 2 then
  some (-1)
  else none))
def f_Bx_keepTrial (E : Ev) (M : Mm) : Option (Int × Mm) :=
  ck (inb (M 2 3) 31) <|
  nb (((u2 M 5 (M 2 3).toNat 0) 6 30)) fun (v101 : Int) =>
  nb (((u2 (u2 M 5 (M 2 3).toNat 0) 6 (M 2 3).toNat v101) 7 30)) fun (v102 : Int) =>
  ck (cpk 0 0 8 8 8) <|
  nb (uA (u2 (u2 (u2 M 5 (M 2 3).toNat 0) 6 (M 2 3).toNat v101) 7 (M 2 3).toNat v102) (9 + (M 2 3).toNat) (va_cpy ((u2 (u2 (u2 M 5 (M 2 3).toNat 0) 6 (M 2 3).toNat v101) 7 (M 2 3).toNat v102) 39) ((u2 (u2 (u2 M 5 (M 2 3).toNat 0) 6 (M 2 3).toNat v101) 7 (M 2 3).toNat v102) (9 + (M 2 3).toNat)) 0 0 8)) fun (M104 : Mm) =>
  some ((M 2 3), (u2 M104 2 3 ((M104 2 3) + 1)))
def B_ballots_j109 (E : Ev) (M : Mm) (x1 : Int) (x3 : Int) : Option (Int × Mm) :=
  ck (inb x3 31) <|
  nb ((((u2 M 2 1 0) 5 x3.toNat) + x1)) fun (v109 : Int) =>
  some (x3, (u2 (u2 M 2 1 0) 5 x3.toNat v109))
def f_B_ballots (E : Ev) (M : Mm) (x1 : Int) : Option (Int × Mm) :=
  (f_B_needRange E M x1 1 100000).bind fun _u =>
  (f_Bx_readTrial E M).bind fun (r101, M101) =>
  ck (rgI r101) <|
  (if r101 = (-1) then
  (f_Bx_kindOfTrial E M101).bind fun r103 =>
  ck (rgI r103) <|
  (if r103 = (-1) then
  (f_B_needRoom E M101 ((M101 2 3) + 1) 30).bind fun _u =>
  (f_Bx_keepTrial E M101).bind fun (r111, M111) =>
  (f_B_remember E M111 3 r111 0).bind fun M112 =>
  B_ballots_j109 E M112 x1 r111
  else
  ck (inb r103 31) <|
  (f_B_needRoom E M101 ((M101 5 r103.toNat) + x1) 1000000).bind fun _u =>
  (f_B_remember E M101 4 r103 (M101 5 r103.toNat)).bind fun M107 =>
  B_ballots_j109 E M107 x1 r103)
  else
  some (((-3) - r101), (u2 M101 2 1 0)))
def f_B_needIndex (E : Ev) (M : Mm) (x0 : Int) (x1 : Int) : Option Unit :=
  ck (rgI x0) <|
  (if x0 < 0 then
  none
  else
  ck (rgI x1) <|
  (if x0 < x1 then
  some ()
  else
  none))
def f_B_countOf (E : Ev) (M : Mm) (x1 : Int) : Option Int :=
  (f_B_needIndex E M x1 (M 2 3)).bind fun _u =>
  ck (inb x1 31) <|
  some (M 5 x1.toNat)
def Bx_rankOf_2b (E : Ev) (M : Mm) (x1 : Int) (x2 : Int) (x3 : Int) : Option (Nat × Int) :=
  ck (inb x1 31) <|
  ck (rgI x3) <|
  ck (rgI (M 7 x1.toNat)) <|
  (if (M 7 x1.toNat) ≤ x3 then
  some (2, x3)
  else
  ck (inb x3 8) <|
  (f_B_has E M (M (9 + x1.toNat) x3.toNat) x2).bind fun r104 =>
  ck (rgI r104) <|
  (if r104 = 0 then
  some (0, (x3 + 1))
  else
  some (1, x3)))
def l_Bx_rankOf_2 (E : Ev) (x1 : Int) (x2 : Int) : Nat → Mm → Int → Option (Nat × Int)
  | 0, _, _ => none
  | fu + 1, M, x3 => (Bx_rankOf_2b E M x1 x2 x3).bind fun (t, w3) => if t = 0 then l_Bx_rankOf_2 E x1 x2 fu M w3 else some (t, w3)
def f_Bx_rankOf (E : Ev) (M : Mm) (x1 : Int) (x2 : Int) : Option Int :=
  (l_Bx_rankOf_2 E x1 x2 FU M 0).bind fun (t106, v106_3) =>
  (if t106 = 1 then
  some v106_3
  else (if t106 = 2 then
  ck (inb x1 31) <|
  some (M 7 x1.toNat)
  else none))
def f_B_kindAt (E : Ev) (M : Mm) (x1 : Int) (x2 : Int) (x3 : Int) : Option Int :=
  (f_B_needIndex E M x1 (M 2 3)).bind fun _u =>
  (f_B_needIndex E M x2 (M 2 2)).bind fun _u =>
  ck (rgI x3) <|
  (if x3 = 0 then
  ck (inb x1 31) <|
  ck (rgI (M 6 x1.toNat)) <|
  ck (shI x2) <|
  some (((M 6 x1.toNat) / 2 ^ x2.toNat) % 2)
  else
  (f_Bx_rankOf E M x1 x2).bind fun r106 =>
  some r106)
def La_ballots_18b (E : Ev) (M : Mm) (q1 : Nat) (q2 : Nat) (q3 : Nat) (q4 : Nat) (x5 : Int) : Option (Nat × Int × Ev × Mm) :=
  ck (Lay E) <|
  ck (isO 12 E q1) <|
  ck (isIA E q2) <|
  ck (isIA E q3) <|
  ck (isIA E q4) <|
  ck (rgI x5) <|
  ck (rgI (M q1 0)) <|
  (if (M q1 0) ≤ x5 then
  some (1, x5, E, M)
  else
  (f_La_next E M q2 (x5 + 1)).bind fun (r106, M106) =>
  ck (inb r106 (tE E q4).2) <|
  ck (inb x5 (tE E q4).2) <|
  ck (inb x5 (tE E q3).2) <|
  some (0, (x5 + 1), E, (u2 (u2 (u2 M106 q4 x5.toNat (M106 q4 r106.toNat)) q4 r106.toNat x5) q3 x5.toNat 9)))
def l_La_ballots_18 (q1 : Nat) (q2 : Nat) (q3 : Nat) (q4 : Nat) : Nat → Ev → Mm → Int → Option (Nat × Int × Ev × Mm)
  | 0, _, _, _ => none
  | fu + 1, E, M, x5 => (La_ballots_18b E M q1 q2 q3 q4 x5).bind fun (t, w5, F, N) => if t = 0 then l_La_ballots_18 q1 q2 q3 q4 fu F N w5 else some (t, w5, F, N)
def La_ballots_j207 (E : Ev) (M : Mm) (q1 : Nat) (q2 : Nat) (q3 : Nat) (q4 : Nat) (x5 : Int) (q6 : Nat) (x7 : Int) (x8 : Int) (x9 : Int) : Option (Nat × Int × Int × Int × Ev × Mm) :=
  ck (Lay E) <|
  ck (isO 12 E q1) <|
  ck (isIA E q2) <|
  ck (isIA E q3) <|
  ck (isIA E q4) <|
  ck (isO 14 E q6) <|
  ck (inb x9 (tE E q4).2) <|
  ck (inb (M q4 x9.toNat) (tE E q3).2) <|
  ck (0 ≤ (65 + ((u2 M q3 (M q4 x9.toNat).toNat x7) q4 x9.toNat)) ∧ (65 + ((u2 M q3 (M q4 x9.toNat).toNat x7) q4 x9.toNat)) ≤ 65535) <|
  (f_Sb_appendC E (u2 M q3 (M q4 x9.toNat).toNat x7) q6 (65 + ((u2 M q3 (M q4 x9.toNat).toNat x7) q4 x9.toNat))).bind fun (r121, M121) =>
  ck (isO 14 E r121) <|
  some (0, x7, x8, (x9 + 1), E, M121)
def La_ballots_j202 (E : Ev) (M : Mm) (q1 : Nat) (q2 : Nat) (q3 : Nat) (q4 : Nat) (x5 : Int) (q6 : Nat) (x7 : Int) (x8 : Int) (x9 : Int) (y0 : Int) (y1 : Nat) : Option (Nat × Int × Int × Int × Ev × Mm) :=
  ck (Lay E) <|
  ck (isO 12 E q1) <|
  ck (isIA E q2) <|
  ck (isIA E q3) <|
  ck (isIA E q4) <|
  ck (isO 14 E q6) <|
  ck (isO 14 E y1) <|
  (f_Sb_appendC E M y1 y0).bind fun (r128, M128) =>
  ck (isO 14 E r128) <|
  La_ballots_j207 E M128 q1 q2 q3 q4 x5 q6 x7 x8 x9
def La_ballots_j176 (E : Ev) (M : Mm) (q1 : Nat) (q2 : Nat) (q3 : Nat) (q4 : Nat) (x5 : Int) (q6 : Nat) (x7 : Int) (x9 : Int) (x10 : Int) (x11 : Int) (y0 : Int) : Option (Nat × Int × Int × Int × Ev × Mm) :=
  ck (Lay E) <|
  ck (isO 12 E q1) <|
  ck (isIA E q2) <|
  ck (isIA E q3) <|
  ck (isIA E q4) <|
  ck (isO 14 E q6) <|
  ck (rgI x10) <|
  (if x10 = 0 then
  La_ballots_j202 E M q1 q2 q3 q4 x5 q6 x7 y0 x9 61 q6
  else
  ck (rgI x11) <|
  (if x11 = 0 then
  La_ballots_j202 E M q1 q2 q3 q4 x5 q6 x7 y0 x9 62 q6
  else
  La_ballots_j202 E M q1 q2 q3 q4 x5 q6 x7 y0 x9 124 q6))
def La_ballots_j159 (E : Ev) (M : Mm) (q1 : Nat) (q2 : Nat) (q3 : Nat) (q4 : Nat) (x5 : Int) (q6 : Nat) (x7 : Int) (x8 : Int) (x9 : Int) (x10 : Int) (y0 : Int) : Option (Nat × Int × Int × Int × Ev × Mm) :=
  ck (Lay E) <|
  ck (isO 12 E q1) <|
  ck (isIA E q2) <|
  ck (isIA E q3) <|
  ck (isIA E q4) <|
  ck (isO 14 E q6) <|
  ck (rgI x8) <|
  (if x8 = 0 then
  ck (rgI y0) <|
  (if y0 = 0 then
  La_ballots_j176 E M q1 q2 q3 q4 x5 q6 x7 x9 x10 y0 0
  else
  La_ballots_j176 E M q1 q2 q3 q4 x5 q6 x7 x9 x10 y0 1)
  else
  La_ballots_j176 E M q1 q2 q3 q4 x5 q6 x7 x9 x10 y0 1)
def La_ballots_j140 (E : Ev) (M : Mm) (q1 : Nat) (q2 : Nat) (q3 : Nat) (q4 : Nat) (x5 : Int) (q6 : Nat) (x8 : Int) (x9 : Int) (x10 : Int) (y0 : Int) (y1 : Int) : Option (Nat × Int × Int × Int × Ev × Mm) :=
  ck (Lay E) <|
  ck (isO 12 E q1) <|
  ck (isIA E q2) <|
  ck (isIA E q3) <|
  ck (isIA E q4) <|
  ck (isO 14 E q6) <|
  ck (rgI x10) <|
  (if x10 = 1 then
  ck (rgI x8) <|
  (if x8 = 0 then
  La_ballots_j159 E M q1 q2 q3 q4 x5 q6 (y1 + y0) x8 x9 x10 1
  else
  La_ballots_j159 E M q1 q2 q3 q4 x5 q6 (y1 + y0) x8 x9 x10 0)
  else
  La_ballots_j159 E M q1 q2 q3 q4 x5 q6 (y1 + y0) x8 x9 x10 0)
def La_ballots_109b (E : Ev) (M : Mm) (q1 : Nat) (q2 : Nat) (q3 : Nat) (q4 : Nat) (x5 : Int) (q6 : Nat) (x7 : Int) (x8 : Int) (x9 : Int) : Option (Nat × Int × Int × Int × Ev × Mm) :=
  ck (Lay E) <|
  ck (isO 12 E q1) <|
  ck (isIA E q2) <|
  ck (isIA E q3) <|
  ck (isIA E q4) <|
  ck (isO 14 E q6) <|
  ck (rgI x9) <|
  ck (rgI x5) <|
  (if x5 ≤ x9 then
  some (1, x7, x8, x9, E, M)
  else
  (if x9 ≤ 0 then
  La_ballots_j207 E M q1 q2 q3 q4 x5 q6 x7 x8 x9
  else
  (f_La_next E M q2 4).bind fun (r122, M122) =>
  ck (rgI r122) <|
  (if r122 = 0 then
  La_ballots_j140 E M122 q1 q2 q3 q4 x5 q6 x8 x9 r122 0 x7
  else
  La_ballots_j140 E M122 q1 q2 q3 q4 x5 q6 x8 x9 r122 1 x7)))
def l_La_ballots_109 (q1 : Nat) (q2 : Nat) (q3 : Nat) (q4 : Nat) (x5 : Int) (q6 : Nat) : Nat → Ev → Mm → Int → Int → Int → Option (Nat × Int × Int × Int × Ev × Mm)
  | 0, _, _, _, _, _ => none
  | fu + 1, E, M, x7, x8, x9 => (La_ballots_109b E M q1 q2 q3 q4 x5 q6 x7 x8 x9).bind fun (t, w7, w8, w9, F, N) => if t = 0 then l_La_ballots_109 q1 q2 q3 q4 x5 q6 fu F N w7 w8 w9 else some (t, w7, w8, w9, F, N)
def La_ballots_j438 (E : Ev) (M : Mm) (q1 : Nat) (q3 : Nat) (x5 : Int) (x7 : Int) (x10 : Int) (x12 : Int) (y0 : Int) (y1 : Int) : Option (Nat × Int × Int × Ev × Mm) :=
  ck (Lay E) <|
  ck (isO 12 E q1) <|
  ck (isIA E q3) <|
  ck (rgI y1) <|
  ck (rgI y0) <|
  (if y1 = y0 then
  some (0, 1, (x12 + 1), E, M)
  else
  some (0, 0, (x12 + 1), E, M))
def La_ballots_360b (E : Ev) (M : Mm) (q1 : Nat) (q3 : Nat) (x5 : Int) (x7 : Int) (x10 : Int) (x11 : Int) (x12 : Int) : Option (Nat × Int × Int × Ev × Mm) :=
  ck (Lay E) <|
  ck (isO 12 E q1) <|
  ck (isIA E q3) <|
  ck (rgI x12) <|
  ck (rgI (M q1 0)) <|
  (if (M q1 0) ≤ x12 then
  some (1, x11, x12, E, M)
  else
  (f_B_kindAt E M x10 x12 1).bind fun r149 =>
  ck (rgI x11) <|
  (if x11 = 0 then
  some (0, 0, (x12 + 1), E, M)
  else
  (rE E q1 1).bind fun p151 =>
  ck (isQ 6 E p151) <|
  ck (inb x10 (tE E p151).2) <|
  (rE E p151 x10.toNat).bind fun p153 =>
  ck (isIA E p153) <|
  ck (inb x12 (tE E p153).2) <|
  ck (inb x12 (tE E q3).2) <|
  ck (rgI (M p153 x12.toNat)) <|
  ck (rgI (M q3 x12.toNat)) <|
  (if (M p153 x12.toNat) = (M q3 x12.toNat) then
  (if 9 ≤ (M q3 x12.toNat) then
  ck (rgI x5) <|
  (if x5 = 0 then
  La_ballots_j438 E M q1 q3 x5 x7 x10 x12 0 r149
  else
  La_ballots_j438 E M q1 q3 x5 x7 x10 x12 (x7 + 1) r149)
  else
  ck (rgI r149) <|
  (if r149 = (M q3 x12.toNat) then
  some (0, 1, (x12 + 1), E, M)
  else
  some (0, 0, (x12 + 1), E, M)))
  else
  some (0, 0, (x12 + 1), E, M))))
def l_La_ballots_360 (q1 : Nat) (q3 : Nat) (x5 : Int) (x7 : Int) (x10 : Int) : Nat → Ev → Mm → Int → Int → Option (Nat × Int × Int × Ev × Mm)
  | 0, _, _, _, _ => none
  | fu + 1, E, M, x11, x12 => (La_ballots_360b E M q1 q3 x5 x7 x10 x11 x12).bind fun (t, w11, w12, F, N) => if t = 0 then l_La_ballots_360 q1 q3 x5 x7 x10 fu F N w11 w12 else some (t, w11, w12, F, N)
def La_ballots_j322 (E : Ev) (M : Mm) (q1 : Nat) (q3 : Nat) (x5 : Int) (x7 : Int) (x9 : Int) (x10 : Int) : Option (Int × Ev × Mm) :=
  ck (Lay E) <|
  ck (isO 12 E q1) <|
  ck (isIA E q3) <|
  (rE E q1 2).bind fun p140 =>
  ck (isIA E p140) <|
  ck (inb x10 (tE E p140).2) <|
  (f_B_countOf E (u2 M p140 x10.toNat ((M p140 x10.toNat) + x9)) x10).bind fun r142 =>
  (rE E q1 2).bind fun p143 =>
  ck (isIA E p143) <|
  ck (inb x10 (tE E p143).2) <|
  ck (rgI r142) <|
  ck (rgI ((u2 M p140 x10.toNat ((M p140 x10.toNat) + x9)) p143 x10.toNat)) <|
  (if r142 = ((u2 M p140 x10.toNat ((M p140 x10.toNat) + x9)) p143 x10.toNat) then
  (l_La_ballots_360 q1 q3 x5 x7 x10 5000 E (u2 M p140 x10.toNat ((M p140 x10.toNat) + x9)) 1 0).bind fun (t164, v164_11, v164_12, E164, M164) =>
  ck (Gw E E164) <|
  ck (Lay E164) <|
  ck (t164 = 1) <|
  ck (v164_11 = 0 ∨ v164_11 = 1) <|
  some (v164_11, E164, M164)
  else
  (l_La_ballots_360 q1 q3 x5 x7 x10 5000 E (u2 M p140 x10.toNat ((M p140 x10.toNat) + x9)) 0 0).bind fun (t162, v162_11, v162_12, E162, M162) =>
  ck (Gw E E162) <|
  ck (Lay E162) <|
  ck (t162 = 1) <|
  ck (v162_11 = 0 ∨ v162_11 = 1) <|
  some (v162_11, E162, M162))
def La_ballots_j265 (E : Ev) (M : Mm) (q1 : Nat) (q3 : Nat) (x5 : Int) (x7 : Int) (y0 : Int) (y1 : Nat) (y2 : Int) : Option (Int × Ev × Mm) :=
  ck (Lay E) <|
  ck (isO 12 E q1) <|
  ck (isIA E q3) <|
  ck (isIA E y1) <|
  (f_La_next E M y1 y0).bind fun (r136, M136) =>
  (f_B_ballots E M136 (y2 + r136)).bind fun (r137, M137) =>
  ck (rgI r137) <|
  (if r137 < 0 then
  some (0, E, M137)
  else
  ck (rgI (M137 q1 3)) <|
  (if r137 ≤ (M137 q1 3) then
  (if r137 = (M137 q1 3) then
  (rE E q1 1).bind fun p166 =>
  ck (isQ 6 E p166) <|
  ck (inb r137 (tE E p166).2) <|
  nb (eRef E p166 r137.toNat q3) fun (E168 : Ev) =>
  ck (Lay E168) <|
  La_ballots_j322 E168 (u2 M137 q1 3 ((M137 q1 3) + 1)) q1 q3 x5 x7 (y2 + r136) r137
  else
  La_ballots_j322 E M137 q1 q3 x5 x7 (y2 + r136) r137)
  else
  some (0, E, M137)))
def La_ballots_j89 (E : Ev) (M : Mm) (q1 : Nat) (q2 : Nat) (q3 : Nat) (q4 : Nat) (y0 : Int) : Option (Int × Ev × Mm) :=
  ck (Lay E) <|
  ck (isO 12 E q1) <|
  ck (isIA E q2) <|
  ck (isIA E q3) <|
  ck (isIA E q4) <|
  nb (nE E) fun (p114 : Nat) =>
  nb (eNew E (114, 0)) fun (E114 : Ev) =>
  nb (mN M (nE E)) fun (M114 : Mm) =>
  (f_Sb_init E114 M114 p114).bind fun (E115, M115) =>
  ck (Gw E114 E115) <|
  ck (Lay E115) <|
  (l_La_ballots_109 q1 q2 q3 q4 y0 p114 5000 E115 M115 0 0 0).bind fun (t131, v131_7, v131_8, v131_9, E131, M131) =>
  ck (Gw E115 E131) <|
  ck (Lay E131) <|
  ck (t131 = 1) <|
  (f_Sb_toString E131 M131 p114).bind fun (r132, E132, M132) =>
  ck (Gw E131 E132) <|
  ck (Lay E132) <|
  ck (isO 13 E132 r132) <|
  (f_La_type E132 M132 r132).bind fun M133 =>
  (f_La_next E132 M133 q2 3).bind fun (r134, M134) =>
  ck (rgI r134) <|
  (if r134 = 0 then
  La_ballots_j265 E132 M134 q1 q3 y0 v131_7 900 q2 1
  else
  La_ballots_j265 E132 M134 q1 q3 y0 v131_7 12 q2 1)
def f_La_ballots (E : Ev) (M : Mm) (p1 : Nat) (p2 : Nat) : Option (Int × Ev × Mm) :=
  ck (Lay E) <|
  ck (isO 12 E p1) <|
  ck (isIA E p2) <|
  ck (0 ≤ (M p1 0) ∧ (M p1 0) ≤ 64) <|
  nb (nE E) fun (p101 : Nat) =>
  nb (eNew E (0, (M p1 0).toNat)) fun (E101 : Ev) =>
  nb (mN M (nE E)) fun (M101 : Mm) =>
  ck (0 ≤ (M101 p1 0) ∧ (M101 p1 0) ≤ 64) <|
  nb (nE E101) fun (p103 : Nat) =>
  nb (eNew E101 (0, (M101 p1 0).toNat)) fun (E103 : Ev) =>
  nb (mN M101 (nE E101)) fun (M103 : Mm) =>
  (l_La_ballots_18 p1 p2 p101 p103 5000 E103 M103 0).bind fun (t110, v110_5, E110, M110) =>
  ck (Gw E103 E110) <|
  ck (Lay E110) <|
  ck (t110 = 1) <|
  (f_La_next E110 M110 p2 9).bind fun (r111, M111) =>
  ck (rgI r111) <|
  (if r111 = 0 then
  La_ballots_j89 E110 M111 p1 p2 p101 p103 0
  else
  (f_La_next E110 M111 p2 (M111 p1 0)).bind fun (r113, M113) =>
  La_ballots_j89 E110 M113 p1 p2 p101 p103 (1 + r113))
def B_setLot_j76 (E : Ev) (M : Mm) (x2 : Int) (x5 : Int) (y0 : Int) : Option (Int × Mm) :=
  (f_B_remember E M y0 x2 x5).bind fun M106 =>
  some (x5, M106)
def B_setLot_j53 (E : Ev) (M : Mm) (x1 : Int) (x2 : Int) (x3 : Int) (y0 : Nat) : Option (Int × Mm) :=
  ck (isIA E y0) <|
  ck (inb x2 (tE E y0).2) <|
  ck (rgI x1) <|
  (if x1 = 0 then
  B_setLot_j76 E (u2 M y0 x2.toNat x3) x2 (M y0 x2.toNat) 1
  else
  B_setLot_j76 E (u2 M y0 x2.toNat x3) x2 (M y0 x2.toNat) 2)
def B_setLot_j22 (E : Ev) (M : Mm) (x1 : Int) (x2 : Int) (x3 : Int) (y0 : Int) (y1 : Int) : Option (Int × Mm) :=
  (f_B_needIndex E M y1 y0).bind fun _u =>
  (f_B_needRange E M x3 0 99).bind fun _u =>
  ck (rgI x1) <|
  (if x1 = 0 then
  B_setLot_j53 E M x1 x2 x3 4
  else
  B_setLot_j53 E M x1 x2 x3 56)
def f_B_setLot (E : Ev) (M : Mm) (x1 : Int) (x2 : Int) (x3 : Int) : Option (Int × Mm) :=
  ck (rgI x1) <|
  (if x1 = 0 then
  B_setLot_j22 E M x1 x2 x3 (M 2 2) x2
  else
  B_setLot_j22 E M x1 x2 x3 (M 53 0) x2)
def Bx_ballotsOf_5b (E : Ev) (M : Mm) (q1 : Nat) (x2 : Int) (x3 : Int) (x4 : Int) : Option (Nat × Int × Int) :=
  ck (isIA E q1) <|
  ck (rgI x4) <|
  ck (rgI x2) <|
  (if x2 ≤ x4 then
  some (1, x3, x4)
  else
  ck (inb x4 (tE E q1).2) <|
  some (0, (x3 + (M q1 x4.toNat)), (x4 + 1)))
def l_Bx_ballotsOf_5 (E : Ev) (q1 : Nat) (x2 : Int) : Nat → Mm → Int → Int → Option (Nat × Int × Int)
  | 0, _, _, _ => none
  | fu + 1, M, x3, x4 => (Bx_ballotsOf_5b E M q1 x2 x3 x4).bind fun (t, w3, w4) => if t = 0 then l_Bx_ballotsOf_5 E q1 x2 fu M w3 w4 else some (t, w3, w4)
def f_Bx_ballotsOf (E : Ev) (M : Mm) (p1 : Nat) (x2 : Int) : Option Int :=
  ck (isIA E p1) <|
  (l_Bx_ballotsOf_5 E p1 x2 FU M 0 0).bind fun (t103, v103_3, v103_4) =>
  ck (t103 = 1) <|
  some v103_3
def f_B_allBallots (E : Ev) (M : Mm) : Option Int :=
  (f_Bx_ballotsOf E M 5 (M 2 3)).bind fun r100 =>
  some r100
def Lb_all_4b (E : Ev) (M : Mm) (q0 : Nat) (x1 : Int) (x2 : Int) : Option (Nat × Int × Int) :=
  ck (isO 12 E q0) <|
  ck (rgI x2) <|
  ck (rgI (M q0 3)) <|
  (if (M q0 3) ≤ x2 then
  some (1, x1, x2)
  else
  (rE E q0 2).bind fun p102 =>
  ck (isIA E p102) <|
  ck (inb x2 (tE E p102).2) <|
  some (0, (x1 + (M p102 x2.toNat)), (x2 + 1)))
def l_Lb_all_4 (E : Ev) (q0 : Nat) : Nat → Mm → Int → Int → Option (Nat × Int × Int)
  | 0, _, _, _ => none
  | fu + 1, M, x1, x2 => (Lb_all_4b E M q0 x1 x2).bind fun (t, w1, w2) => if t = 0 then l_Lb_all_4 E q0 fu M w1 w2 else some (t, w1, w2)
def f_Lb_all (E : Ev) (M : Mm) (p0 : Nat) : Option Int :=
  ck (isO 12 E p0) <|
  (l_Lb_all_4 E p0 FU M 0 0).bind fun (t104, v104_1, v104_2) =>
  ck (t104 = 1) <|
  some v104_1
def f_Ct_init (E : Ev) (M : Mm) (p0 : Nat) : Option (Ev × Mm) :=
  ck (isO 2 E p0) <|
  nb (nE E) fun (p100 : Nat) =>
  nb (eNew E (0, 30)) fun (E100 : Ev) =>
  nb (mN M (nE E)) fun (M100 : Mm) =>
  nb (eRef E100 p0 6 p100) fun (E101 : Ev) =>
  nb (nE E101) fun (p102 : Nat) =>
  nb (eNew E101 (0, 3)) fun (E102 : Ev) =>
  nb (mN M100 (nE E101)) fun (M102 : Mm) =>
  nb (eRef E102 p0 7 p102) fun (E103 : Ev) =>
  nb (nE E103) fun (p104 : Nat) =>
  nb (eNew E103 (0, 8)) fun (E104 : Ev) =>
  nb (mN M102 (nE E103)) fun (M104 : Mm) =>
  nb (eRef E104 p0 8 p104) fun (E105 : Ev) =>
  nb (nE E105) fun (p106 : Nat) =>
  nb (eNew E105 (0, 1170)) fun (E106 : Ev) =>
  nb (mN M104 (nE E105)) fun (M106 : Mm) =>
  nb (eRef E106 p0 9 p106) fun (E107 : Ev) =>
  some (E107, M106)
def f_Bx_everybody (E : Ev) (M : Mm) : Option Int :=
  ck (shI (M 2 2)) <|
  some ((2 ^ (M 2 2).toNat) - 1)
def Na_become_10b (E : Ev) (M : Mm) (q0 : Nat) (x3 : Int) (x5 : Int) : Option (Nat × Int × Int × Mm) :=
  ck (isNa E q0) <|
  ck (rgI x5) <|
  (if 13 ≤ x5 then
  some (1, x3, x5, M)
  else
  ck (rgJ x3) <|
  (if x3 ≤ 0 then
  some (1, x3, x5, M)
  else
  ck (inb x5 13) <|
  nb (u2 (u2 M (q0 + 1) x5.toNat (x3 % 1073741824)) q0 1 (((u2 M (q0 + 1) x5.toNat (x3 % 1073741824)) q0 1) + 1)) fun (M103 : Mm) =>
  some (0, (x3 / 1073741824), (x5 + 1), M103)))
def l_Na_become_10 (E : Ev) (q0 : Nat) : Nat → Mm → Int → Int → Option (Nat × Int × Int × Mm)
  | 0, _, _, _ => none
  | fu + 1, M, x3, x5 => (Na_become_10b E M q0 x3 x5).bind fun (t, w3, w5, N) => if t = 0 then l_Na_become_10 E q0 fu N w3 w5 else some (t, w3, w5, N)
def f_Na_become (E : Ev) (M : Mm) (p0 : Nat) (x1 : Int) : Option Mm :=
  ck (isNa E p0) <|
  (l_Na_become_10 E p0 FU (u2 M p0 1 0) x1 0).bind fun (t104, v104_3, v104_5, M104) =>
  ck (t104 = 1) <|
  some M104
def f_Co_weightOfA (E : Ev) (M : Mm) (x1 : Int) (x2 : Int) : Option (Nat × Ev × Mm) :=
  ck (Lay E) <|
  ck (inb ((x1 * 8) + x2) 240) <|
  (mO (rE E 181 ((x1 * 8) + x2).toNat)
  (nb (nE E) fun (p102 : Nat) =>
  nb (eNew E (108, 0)) fun (E102 : Ev) =>
  nb (mN M (nE E)) fun (M102 : Mm) =>
  (f_Na_init E102 M102 p102).bind fun (E103, M103) =>
  ck (Gw E102 E103) <|
  ck (Lay E103) <|
  nb (eRef E103 181 ((x1 * 8) + x2).toNat p102) fun (E104 : Ev) =>
  (rE E104 181 ((x1 * 8) + x2).toNat).bind fun p105 =>
  ck (isNa E104 p105) <|
  some (p105, E104, M103))
  fun (p101 : Nat) =>
  (rE E 181 ((x1 * 8) + x2).toNat).bind fun p106 =>
  ck (isNa E p106) <|
  some (p106, E, M))
def Bx_topOf_2b (E : Ev) (M : Mm) (x1 : Int) (x2 : Int) (x3 : Int) : Option (Nat × Int × Int) :=
  ck (inb x1 31) <|
  ck (rgI x3) <|
  ck (rgI (M 7 x1.toNat)) <|
  (if (M 7 x1.toNat) ≤ x3 then
  some (2, x3, 0)
  else
  ck (inb x3 8) <|
  ck (nnI (M (9 + x1.toNat) x3.toNat)) <|
  ck (nnI x2) <|
  nb ((andI (M (9 + x1.toNat) x3.toNat) x2)) fun (v106 : Int) =>
  (if v106 = 0 then
  some (0, (x3 + 1), v106)
  else
  some (1, x3, v106)))
def l_Bx_topOf_2 (E : Ev) (x1 : Int) (x2 : Int) : Nat → Mm → Int → Option (Nat × Int × Int)
  | 0, _, _ => none
  | fu + 1, M, x3 => (Bx_topOf_2b E M x1 x2 x3).bind fun (t, w3, w4) => if t = 0 then l_Bx_topOf_2 E x1 x2 fu M w3 else some (t, w3, w4)
def f_Bx_topOf (E : Ev) (M : Mm) (x1 : Int) (x2 : Int) : Option Int :=
  (l_Bx_topOf_2 E x1 x2 FU M 0).bind fun (t107, v107_3, v107_4) =>
  (if t107 = 1 then
  some v107_4
  else (if t107 = 2 then
  some 0
  else none))
def f_Na_limbAt (E : Ev) (M : Mm) (p0 : Nat) (x1 : Int) : Option Int :=
  ck (isNa E p0) <|
  ck (rgI x1) <|
  ck (rgI (M p0 1)) <|
  (if (M p0 1) ≤ x1 then
  some 0
  else
  ck (inb x1 13) <|
  some (M (p0 + 1) x1.toNat))
def Na_trimTo_10b (E : Ev) (M : Mm) (q0 : Nat) : Option (Nat × Mm) :=
  ck (isNa E q0) <|
  ck (rgI (M q0 1)) <|
  (if (M q0 1) ≤ 0 then
  some (1, M)
  else
  ck (inb ((M q0 1) - 1) 13) <|
  ck (rgI (M (q0 + 1) ((M q0 1) - 1).toNat)) <|
  (if (M (q0 + 1) ((M q0 1) - 1).toNat) = 0 then
  some (0, (u2 M q0 1 ((M q0 1) - 1)))
  else
  some (1, M)))
def l_Na_trimTo_10 (E : Ev) (q0 : Nat) : Nat → Mm → Option (Nat × Mm)
  | 0, _ => none
  | fu + 1, M => (Na_trimTo_10b E M q0).bind fun (t, N) => if t = 0 then l_Na_trimTo_10 E q0 fu N else some (t, N)
def f_Na_trimTo (E : Ev) (M : Mm) (p0 : Nat) (x1 : Int) : Option Mm :=
  ck (isNa E p0) <|
  ck (rgI x1) <|
  (l_Na_trimTo_10 E p0 FU (u2 M p0 1 (min x1 13))).bind fun (t104, M104) =>
  ck (t104 = 1) <|
  some M104
def Na_add_24b (E : Ev) (M : Mm) (q0 : Nat) (q1 : Nat) (x2 : Int) (x3 : Int) (x4 : Int) : Option (Nat × Int × Int × Mm) :=
  ck (isNa E q0) <|
  ck (isNa E q1) <|
  ck (rgI x4) <|
  ck (rgI x2) <|
  (if x2 ≤ x4 then
  some (1, x3, x4, M)
  else
  (f_Na_limbAt E M q0 x4).bind fun r106 =>
  (f_Na_limbAt E M q1 x4).bind fun r107 =>
  nb ((((r106 + r107) + x3) % 1073741824)) fun (v108 : Int) =>
  ck (inb x4 13) <|
  ck (rgI ((r106 + r107) + x3)) <|
  nb ((((r106 + r107) + x3) / 1073741824)) fun (v111 : Int) =>
  some (0, v111, (x4 + 1), (u2 M (q0 + 1) x4.toNat v108)))
def l_Na_add_24 (E : Ev) (q0 : Nat) (q1 : Nat) (x2 : Int) : Nat → Mm → Int → Int → Option (Nat × Int × Int × Mm)
  | 0, _, _, _ => none
  | fu + 1, M, x3, x4 => (Na_add_24b E M q0 q1 x2 x3 x4).bind fun (t, w3, w4, N) => if t = 0 then l_Na_add_24 E q0 q1 x2 fu N w3 w4 else some (t, w3, w4, N)
def f_Na_add (E : Ev) (M : Mm) (p0 : Nat) (p1 : Nat) : Option Mm :=
  ck (isNa E p0) <|
  ck (isNa E p1) <|
  ck (rgI (M p0 1)) <|
  ck (rgI (M p1 1)) <|
  ck (rgI ((max (M p0 1) (M p1 1)) + 1)) <|
  nb ((min ((max (M p0 1) (M p1 1)) + 1) 13)) fun (v103 : Int) =>
  (l_Na_add_24 E p0 p1 v103 FU M 0 0).bind fun (t112, v112_3, v112_4, M112) =>
  ck (t112 = 1) <|
  (f_Na_trimTo E M112 p0 v103).bind fun M113 =>
  some M113
def f_In_bitCount (E : Ev) (M : Mm) (x0 : Int) : Option Int :=
  nb ((x0 - (andI (ushI x0 1) 1431655765))) fun (v100 : Int) =>
  ck (nnI v100) <|
  nb (((andI v100 858993459) + (andI (ushI v100 2) 858993459))) fun (v102 : Int) =>
  ck (nnI (v102 + (ushI v102 4))) <|
  nb ((andI (v102 + (ushI v102 4)) 252645135)) fun (v104 : Int) =>
  nb (((v104 + (ushI v104 8)) + (ushI (v104 + (ushI v104 8)) 16))) fun (v105 : Int) =>
  some (v105 % 64)
def Na_divideSmall_16b (E : Ev) (M : Mm) (q0 : Nat) (x1 : Int) (x2 : Int) (x4 : Int) : Option (Nat × Int × Int × Mm) :=
  ck (isNa E q0) <|
  ck (rgI x4) <|
  (if x4 < 0 then
  some (1, x2, x4, M)
  else
  ck (inb x4 13) <|
  ck (rgI (M (q0 + 1) x4.toNat)) <|
  nb (((x2 * 1073741824) + (M (q0 + 1) x4.toNat))) fun (v104 : Int) =>
  ck (rgI x1) <|
  ck (nnJ v104) <|
  ck (psJ x1) <|
  ck (psJ x1) <|
  some (0, (v104 % x1), (x4 + (-1)), (u2 M (q0 + 1) x4.toNat (v104 / x1))))
def l_Na_divideSmall_16 (E : Ev) (q0 : Nat) (x1 : Int) : Nat → Mm → Int → Int → Option (Nat × Int × Int × Mm)
  | 0, _, _, _ => none
  | fu + 1, M, x2, x4 => (Na_divideSmall_16b E M q0 x1 x2 x4).bind fun (t, w2, w4, N) => if t = 0 then l_Na_divideSmall_16 E q0 x1 fu N w2 w4 else some (t, w2, w4, N)
def f_Na_divideSmall (E : Ev) (M : Mm) (p0 : Nat) (x1 : Int) : Option (Int × Mm) :=
  ck (isNa E p0) <|
  ck (rgI x1) <|
  (if 0 < x1 then
  (l_Na_divideSmall_16 E p0 x1 FU M 0 ((M p0 1) - 1)).bind fun (t109, v109_2, v109_4, M109) =>
  ck (t109 = 1) <|
  (f_Na_trimTo E M109 p0 (M109 p0 1)).bind fun M110 =>
  some (v109_2, M110)
  else
  some (0, M))
def f_Co_weightOf (E : Ev) (M : Mm) (x1 : Int) (x2 : Int) : Option Nat :=
  ck (inb ((x1 * 8) + x2) 240) <|
  (rE E 181 ((x1 * 8) + x2).toNat).bind fun p101 =>
  ck (isNa E p101) <|
  (rE E 181 ((x1 * 8) + x2).toNat).bind fun p102 =>
  ck (isNa E p102) <|
  some p102
def Co_passOn_46b (E : Ev) (M : Mm) (x1 : Int) (x2 : Int) (x3 : Int) : Option (Nat × Int × Mm) :=
  ck (rgI x3) <|
  ck (rgI (M 2 2)) <|
  (if (M 2 2) ≤ x3 then
  some (1, x3, M)
  else
  (f_B_has E M x2 x3).bind fun r106 =>
  ck (rgI r106) <|
  (if r106 = 0 then
  some (0, (x3 + 1), M)
  else
  (f_Co_weightOf E M x1 x3).bind fun r108 =>
  ck (isNa E r108) <|
  (f_Na_add E M r108 185).bind fun M109 =>
  ck (inb x3 9) <|
  (f_Na_add E M109 (201 + 2 * x3.toNat) 185).bind fun M111 =>
  some (0, (x3 + 1), M111)))
def l_Co_passOn_46 (E : Ev) (x1 : Int) (x2 : Int) : Nat → Mm → Int → Option (Nat × Int × Mm)
  | 0, _, _ => none
  | fu + 1, M, x3 => (Co_passOn_46b E M x1 x2 x3).bind fun (t, w3, N) => if t = 0 then l_Co_passOn_46 E x1 x2 fu N w3 else some (t, w3, N)
def f_Co_passOn (E : Ev) (M : Mm) (x1 : Int) : Option Mm :=
  (f_Bx_topOf E M x1 (M 179 3)).bind fun r100 =>
  ck (rgI r100) <|
  (if r100 = 0 then
  (f_Na_add E M 217 185).bind fun M113 =>
  some M113
  else
  (f_In_bitCount E M r100).bind fun r102 =>
  (f_Na_divideSmall E M 185 r102).bind fun (r103, M103) =>
  (l_Co_passOn_46 E x1 r100 FU M103 0).bind fun (t112, v112_3, M112) =>
  ck (t112 = 1) <|
  some M112)
def Co_start_102b (E : Ev) (M : Mm) (x3 : Int) : Option (Nat × Int × Ev × Mm) :=
  ck (Lay E) <|
  ck (rgI x3) <|
  (if 9 ≤ x3 then
  some (1, x3, E, M)
  else
  ck (inb x3 9) <|
  (f_Na_become E M (201 + 2 * x3.toNat) 0).bind fun M109 =>
  some (0, (x3 + 1), E, M109))
def l_Co_start_102 : Nat → Ev → Mm → Int → Option (Nat × Int × Ev × Mm)
  | 0, _, _, _ => none
  | fu + 1, E, M, x3 => (Co_start_102b E M x3).bind fun (t, w3, F, N) => if t = 0 then l_Co_start_102 fu F N w3 else some (t, w3, F, N)
def Co_start_162b (E : Ev) (M : Mm) (x3 : Int) (x5 : Int) (x6 : Int) : Option (Nat × Int × Ev × Mm) :=
  ck (Lay E) <|
  ck (rgI x6) <|
  ck (rgI (M 2 2)) <|
  (if (M 2 2) ≤ x6 then
  some (1, x6, E, M)
  else
  (f_Co_weightOfA E M x5 x6).bind fun (r118, E118, M118) =>
  ck (Gw E E118) <|
  ck (Lay E118) <|
  ck (isNa E118 r118) <|
  (f_Na_become E118 M118 r118 0).bind fun M119 =>
  some (0, (x6 + 1), E118, M119))
def l_Co_start_162 (x3 : Int) (x5 : Int) : Nat → Ev → Mm → Int → Option (Nat × Int × Ev × Mm)
  | 0, _, _, _ => none
  | fu + 1, E, M, x6 => (Co_start_162b E M x3 x5 x6).bind fun (t, w6, F, N) => if t = 0 then l_Co_start_162 x3 x5 fu F N w6 else some (t, w6, F, N)
def Co_start_147b (E : Ev) (M : Mm) (x3 : Int) (x5 : Int) : Option (Nat × Int × Ev × Mm) :=
  ck (Lay E) <|
  ck (rgI x5) <|
  ck (rgI (M 2 3)) <|
  (if (M 2 3) ≤ x5 then
  some (1, x5, E, M)
  else
  (l_Co_start_162 x3 x5 32 E M 0).bind fun (t120, v120_6, E120, M120) =>
  ck (Gw E E120) <|
  ck (Lay E120) <|
  ck (t120 = 1) <|
  ck (inb x5 31) <|
  ck (rgI (M120 5 x5.toNat)) <|
  (f_Na_become E120 M120 185 ((M120 5 x5.toNat) * x3)).bind fun M123 =>
  (f_Co_passOn E120 M123 x5).bind fun M124 =>
  some (0, (x5 + 1), E120, M124))
def l_Co_start_147 (x3 : Int) : Nat → Ev → Mm → Int → Option (Nat × Int × Ev × Mm)
  | 0, _, _, _ => none
  | fu + 1, E, M, x5 => (Co_start_147b E M x3 x5).bind fun (t, w5, F, N) => if t = 0 then l_Co_start_147 x3 fu F N w5 else some (t, w5, F, N)
def f_Co_start (E : Ev) (M : Mm) (p1 : Nat) (x2 : Int) : Option (Ev × Mm) :=
  ck (Lay E) <|
  ck (isCt E p1) <|
  (f_Bx_ballotsOf E (u2 (u2 M p1 1 (M 2 2)) p1 2 ((u2 M p1 1 (M 2 2)) 2 3)) 5 ((u2 (u2 M p1 1 (M 2 2)) p1 2 ((u2 M p1 1 (M 2 2)) 2 3)) 2 3)).bind fun r100 =>
  ck (nnI ((u2 (u2 (u2 M p1 1 (M 2 2)) p1 2 ((u2 M p1 1 (M 2 2)) 2 3)) p1 3 r100) p1 3)) <|
  ck (psI (x2 + 1)) <|
  nb (u2 (u2 (u2 (u2 M p1 1 (M 2 2)) p1 2 ((u2 M p1 1 (M 2 2)) 2 3)) p1 3 r100) p1 0 ((((u2 (u2 (u2 M p1 1 (M 2 2)) p1 2 ((u2 M p1 1 (M 2 2)) 2 3)) p1 3 r100) p1 3) / (x2 + 1)) + 1)) fun (M103 : Mm) =>
  ck (cpk 0 0 30 31 30) <|
  nb (uA (u2 (u2 M103 p1 4 0) p1 5 0) (p1 + 1) (va_cpy ((u2 (u2 M103 p1 4 0) p1 5 0) 5) ((u2 (u2 M103 p1 4 0) p1 5 0) (p1 + 1)) 0 0 30)) fun (M105 : Mm) =>
  (f_Bx_everybody E M105).bind fun r106 =>
  (l_Co_start_102 5000 E (u2 M105 179 3 r106) 0).bind fun (t110, v110_3, E110, M110) =>
  ck (Gw E E110) <|
  ck (Lay E110) <|
  ck (t110 = 1) <|
  ck (inb (M110 2 2) 13) <|
  (f_Na_become E110 M110 183 (facF (M110 2 2).toNat)).bind fun M113 =>
  (l_Co_start_147 (facF (M110 2 2).toNat) 32 E110 M113 0).bind fun (t125, v125_5, E125, M125) =>
  ck (Gw E110 E125) <|
  ck (Lay E125) <|
  ck (t125 = 1) <|
  some (E125, M125)
def f_Ct_placeOf (E : Ev) (M : Mm) (p0 : Nat) (x1 : Int) (x2 : Int) : Option Int :=
  ck (isCt E p0) <|
  some (((x1 * 10) + x2) * 13)
def Na_store_2b (E : Ev) (M : Mm) (q0 : Nat) (q1 : Nat) (x2 : Int) (x3 : Int) : Option (Nat × Int × Mm) :=
  ck (isNa E q0) <|
  ck (isIA E q1) <|
  ck (rgI x3) <|
  (if 13 ≤ x3 then
  some (1, x3, M)
  else
  (f_Na_limbAt E M q0 x3).bind fun r101 =>
  ck (inb (x2 + x3) (tE E q1).2) <|
  some (0, (x3 + 1), (u2 M q1 (x2 + x3).toNat r101)))
def l_Na_store_2 (E : Ev) (q0 : Nat) (q1 : Nat) (x2 : Int) : Nat → Mm → Int → Option (Nat × Int × Mm)
  | 0, _, _ => none
  | fu + 1, M, x3 => (Na_store_2b E M q0 q1 x2 x3).bind fun (t, w3, N) => if t = 0 then l_Na_store_2 E q0 q1 x2 fu N w3 else some (t, w3, N)
def f_Na_store (E : Ev) (M : Mm) (p0 : Nat) (p1 : Nat) (x2 : Int) : Option Mm :=
  ck (isNa E p0) <|
  ck (isIA E p1) <|
  (l_Na_store_2 E p0 p1 x2 FU M 0).bind fun (t103, v103_3, M103) =>
  ck (t103 = 1) <|
  some M103
def Co_keepMoment_12b (E : Ev) (M : Mm) (q1 : Nat) (x2 : Int) (x3 : Int) : Option (Nat × Int × Mm) :=
  ck (isCt E q1) <|
  ck (rgI x3) <|
  (if 9 ≤ x3 then
  some (1, x3, M)
  else
  ck (inb x3 9) <|
  (f_Ct_placeOf E M q1 x2 x3).bind fun r102 =>
  (f_Na_store E M (201 + 2 * x3.toNat) (q1 + 4) r102).bind fun M103 =>
  some (0, (x3 + 1), M103))
def l_Co_keepMoment_12 (E : Ev) (q1 : Nat) (x2 : Int) : Nat → Mm → Int → Option (Nat × Int × Mm)
  | 0, _, _ => none
  | fu + 1, M, x3 => (Co_keepMoment_12b E M q1 x2 x3).bind fun (t, w3, N) => if t = 0 then l_Co_keepMoment_12 E q1 x2 fu N w3 else some (t, w3, N)
def f_Co_keepMoment (E : Ev) (M : Mm) (p1 : Nat) : Option Mm :=
  ck (isCt E p1) <|
  (l_Co_keepMoment_12 E p1 ((M p1 4) + (M p1 5)) FU M 0).bind fun (t104, v104_3, M104) =>
  ck (t104 = 1) <|
  (f_Ct_placeOf E M104 p1 ((M p1 4) + (M p1 5)) 9).bind fun r105 =>
  (f_Na_store E M104 183 (p1 + 4) r105).bind fun M106 =>
  some M106
def Na_compareWith_14b (E : Ev) (M : Mm) (q0 : Nat) (q1 : Nat) (x2 : Int) : Option (Nat × Int) :=
  ck (isNa E q0) <|
  ck (isNa E q1) <|
  ck (rgI x2) <|
  (if x2 < 0 then
  some (2, x2)
  else
  (f_Na_limbAt E M q0 x2).bind fun r104 =>
  (f_Na_limbAt E M q1 x2).bind fun r105 =>
  ck (rgI r104) <|
  ck (rgI r105) <|
  (if r104 = r105 then
  some (0, (x2 + (-1)))
  else
  some (1, x2)))
def l_Na_compareWith_14 (E : Ev) (q0 : Nat) (q1 : Nat) : Nat → Mm → Int → Option (Nat × Int)
  | 0, _, _ => none
  | fu + 1, M, x2 => (Na_compareWith_14b E M q0 q1 x2).bind fun (t, w2) => if t = 0 then l_Na_compareWith_14 E q0 q1 fu M w2 else some (t, w2)
def f_Na_compareWith (E : Ev) (M : Mm) (p0 : Nat) (p1 : Nat) : Option Int :=
  ck (isNa E p0) <|
  ck (isNa E p1) <|
  ck (rgI (M p0 1)) <|
  ck (rgI (M p1 1)) <|
  nb (((max (M p0 1) (M p1 1)) - 1)) fun (v102 : Int) =>
  (l_Na_compareWith_14 E p0 p1 FU M v102).bind fun (t108, v108_2) =>
  (if t108 = 1 then
  (f_Na_limbAt E M p0 v108_2).bind fun r109 =>
  (f_Na_limbAt E M p1 v108_2).bind fun r110 =>
  ck (rgI r109) <|
  ck (rgI r110) <|
  (if r110 ≤ r109 then
  some 1
  else
  some (-1))
  else (if t108 = 2 then
  some 0
  else none))
def f_Bx_winsLot (E : Ev) (M : Mm) (x1 : Int) (x2 : Int) : Option Int :=
  ck (inb x1 8) <|
  ck (inb x2 8) <|
  ck (rgI (M 4 x1.toNat)) <|
  ck (rgI (M 4 x2.toNat)) <|
  (if (M 4 x1.toNat) < (M 4 x2.toNat) then
  some 1
  else
  (if (M 4 x1.toNat) = (M 4 x2.toNat) then
  (if x2 ≤ x1 then
  some 0
  else
  some 1)
  else
  some 0))
def f_Co_isAhead (E : Ev) (M : Mm) (x1 : Int) (x2 : Int) : Option Int :=
  ck (inb x1 9) <|
  ck (inb x2 9) <|
  (f_Na_compareWith E M (201 + 2 * x1.toNat) (201 + 2 * x2.toNat)).bind fun r102 =>
  ck (rgI r102) <|
  (if 0 < r102 then
  some 1
  else
  (if r102 = 0 then
  (f_Bx_winsLot E M x1 x2).bind fun r104 =>
  ck (rgI r104) <|
  (if r104 = 0 then
  some 0
  else
  some 1)
  else
  some 0))
def Co_greatestPile_4b (E : Ev) (M : Mm) (x1 : Int) (x2 : Int) : Option (Nat × Int × Int) :=
  ck (rgI x2) <|
  ck (rgI (M 2 2)) <|
  (if (M 2 2) ≤ x2 then
  some (1, x1, x2)
  else
  (f_B_has E M (M 179 3) x2).bind fun r102 =>
  ck (rgI r102) <|
  (if r102 = 0 then
  some (0, x1, (x2 + 1))
  else
  ck (rgI x1) <|
  (if x1 = (-1) then
  some (0, x2, (x2 + 1))
  else
  (f_Co_isAhead E M x2 x1).bind fun r105 =>
  ck (rgI r105) <|
  (if r105 = 0 then
  some (0, x1, (x2 + 1))
  else
  some (0, x2, (x2 + 1))))))
def l_Co_greatestPile_4 (E : Ev) : Nat → Mm → Int → Int → Option (Nat × Int × Int)
  | 0, _, _, _ => none
  | fu + 1, M, x1, x2 => (Co_greatestPile_4b E M x1 x2).bind fun (t, w1, w2) => if t = 0 then l_Co_greatestPile_4 E fu M w1 w2 else some (t, w1, w2)
def f_Co_greatestPile (E : Ev) (M : Mm) : Option Int :=
  (l_Co_greatestPile_4 E FU M (-1) 0).bind fun (t107, v107_1, v107_2) =>
  ck (t107 = 1) <|
  some v107_1
def f_Co_elect (E : Ev) (M : Mm) (p1 : Nat) (x2 : Int) : Option Mm :=
  ck (isCt E p1) <|
  ck (shI x2) <|
  ck (nnI (M 179 3)) <|
  ck (nnI (2 ^ x2.toNat)) <|
  ck (rgI ((u2 M 179 3 (dfI (M 179 3) (2 ^ x2.toNat))) p1 4)) <|
  (if 3 ≤ ((u2 M 179 3 (dfI (M 179 3) (2 ^ x2.toNat))) p1 4) then
  some (u2 M 179 3 (dfI (M 179 3) (2 ^ x2.toNat)))
  else
  ck (inb ((u2 M 179 3 (dfI (M 179 3) (2 ^ x2.toNat))) p1 4) 3) <|
  nb (u2 (u2 M 179 3 (dfI (M 179 3) (2 ^ x2.toNat))) (p1 + 2) ((u2 M 179 3 (dfI (M 179 3) (2 ^ x2.toNat))) p1 4).toNat x2) fun (M105 : Mm) =>
  some (u2 M105 p1 4 ((M105 p1 4) + 1)))
def f_Na_copyFrom (E : Ev) (M : Mm) (p0 : Nat) (p1 : Nat) : Option Mm :=
  ck (isNa E p0) <|
  ck (isNa E p1) <|
  ck (cpk 0 0 (M p1 1) 13 13) <|
  nb (u2 (uA M (p0 + 1) (va_cpy (M (p1 + 1)) (M (p0 + 1)) 0 0 (M p1 1).toNat)) p0 1 ((uA M (p0 + 1) (va_cpy (M (p1 + 1)) (M (p0 + 1)) 0 0 (M p1 1).toNat)) p1 1)) fun (M101 : Mm) =>
  some M101
def Na_multiplySmall_17b (E : Ev) (M : Mm) (q0 : Nat) (x1 : Int) (x2 : Int) (x3 : Int) (x5 : Int) : Option (Nat × Int × Int × Mm) :=
  ck (isNa E q0) <|
  ck (rgI x5) <|
  ck (rgI x2) <|
  (if x2 ≤ x5 then
  some (1, x3, x5, M)
  else
  (f_Na_limbAt E M q0 x5).bind fun r103 =>
  ck (rgI r103) <|
  ck (rgI x1) <|
  nb (((x3 + (r103 * x1)) % 1073741824)) fun (v106 : Int) =>
  ck (inb x5 13) <|
  ck (rgJ (x3 + (r103 * x1))) <|
  nb (((x3 + (r103 * x1)) / 1073741824)) fun (v109 : Int) =>
  some (0, v109, (x5 + 1), (u2 M (q0 + 1) x5.toNat v106)))
def l_Na_multiplySmall_17 (E : Ev) (q0 : Nat) (x1 : Int) (x2 : Int) : Nat → Mm → Int → Int → Option (Nat × Int × Int × Mm)
  | 0, _, _, _ => none
  | fu + 1, M, x3, x5 => (Na_multiplySmall_17b E M q0 x1 x2 x3 x5).bind fun (t, w3, w5, N) => if t = 0 then l_Na_multiplySmall_17 E q0 x1 x2 fu N w3 w5 else some (t, w3, w5, N)
def f_Na_multiplySmall (E : Ev) (M : Mm) (p0 : Nat) (x1 : Int) : Option Mm :=
  ck (isNa E p0) <|
  ck (rgI ((M p0 1) + 2)) <|
  (l_Na_multiplySmall_17 E p0 x1 (min ((M p0 1) + 2) 13) FU M 0 0).bind fun (t110, v110_3, v110_5, M110) =>
  ck (t110 = 1) <|
  (f_Na_trimTo E M110 p0 (min ((M p0 1) + 2) 13)).bind fun M111 =>
  some M111
def Co_smallestPile_4b (E : Ev) (M : Mm) (x1 : Int) (x2 : Int) : Option (Nat × Int × Int) :=
  ck (rgI x2) <|
  ck (rgI (M 2 2)) <|
  (if (M 2 2) ≤ x2 then
  some (1, x1, x2)
  else
  (f_B_has E M (M 179 3) x2).bind fun r102 =>
  ck (rgI r102) <|
  (if r102 = 0 then
  some (0, x1, (x2 + 1))
  else
  ck (rgI x1) <|
  (if x1 = (-1) then
  some (0, x2, (x2 + 1))
  else
  (f_Co_isAhead E M x1 x2).bind fun r105 =>
  ck (rgI r105) <|
  (if r105 = 0 then
  some (0, x1, (x2 + 1))
  else
  some (0, x2, (x2 + 1))))))
def l_Co_smallestPile_4 (E : Ev) : Nat → Mm → Int → Int → Option (Nat × Int × Int)
  | 0, _, _, _ => none
  | fu + 1, M, x1, x2 => (Co_smallestPile_4b E M x1 x2).bind fun (t, w1, w2) => if t = 0 then l_Co_smallestPile_4 E fu M w1 w2 else some (t, w1, w2)
def f_Co_smallestPile (E : Ev) (M : Mm) : Option Int :=
  (l_Co_smallestPile_4 E FU M (-1) 0).bind fun (t107, v107_1, v107_2) =>
  ck (t107 = 1) <|
  some v107_1
def Co_exclude_55b (E : Ev) (M : Mm) (q1 : Nat) (x2 : Int) (x3 : Int) : Option (Nat × Int × Mm) :=
  ck (isCt E q1) <|
  ck (rgI x3) <|
  ck (rgI (M q1 2)) <|
  (if (M q1 2) ≤ x3 then
  some (1, x3, M)
  else
  (f_Co_weightOf E M x3 x2).bind fun r108 =>
  ck (isNa E r108) <|
  (f_Na_copyFrom E M 185 r108).bind fun M109 =>
  (f_Co_passOn E M109 x3).bind fun M110 =>
  some (0, (x3 + 1), M110))
def l_Co_exclude_55 (E : Ev) (q1 : Nat) (x2 : Int) : Nat → Mm → Int → Option (Nat × Int × Mm)
  | 0, _, _ => none
  | fu + 1, M, x3 => (Co_exclude_55b E M q1 x2 x3).bind fun (t, w3, N) => if t = 0 then l_Co_exclude_55 E q1 x2 fu N w3 else some (t, w3, N)
def Co_exclude_j43 (E : Ev) (M : Mm) (q1 : Nat) (x2 : Int) : Option Mm :=
  ck (isCt E q1) <|
  ck (inb x2 9) <|
  (f_Na_become E M (201 + 2 * x2.toNat) 0).bind fun M105 =>
  (l_Co_exclude_55 E q1 x2 FU M105 0).bind fun (t111, v111_3, M111) =>
  ck (t111 = 1) <|
  some M111
def f_Co_exclude (E : Ev) (M : Mm) (p1 : Nat) (x2 : Int) : Option Mm :=
  ck (isCt E p1) <|
  ck (shI x2) <|
  ck (nnI (M 179 3)) <|
  ck (nnI (2 ^ x2.toNat)) <|
  ck (rgI ((u2 M 179 3 (dfI (M 179 3) (2 ^ x2.toNat))) p1 5)) <|
  (if 8 ≤ ((u2 M 179 3 (dfI (M 179 3) (2 ^ x2.toNat))) p1 5) then
  Co_exclude_j43 E (u2 M 179 3 (dfI (M 179 3) (2 ^ x2.toNat))) p1 x2
  else
  ck (inb ((u2 M 179 3 (dfI (M 179 3) (2 ^ x2.toNat))) p1 5) 8) <|
  nb (u2 (u2 M 179 3 (dfI (M 179 3) (2 ^ x2.toNat))) (p1 + 3) ((u2 M 179 3 (dfI (M 179 3) (2 ^ x2.toNat))) p1 5).toNat x2) fun (M113 : Mm) =>
  Co_exclude_j43 E (u2 M113 p1 5 ((M113 p1 5) + 1)) p1 x2)
def Co_takeStep_j79 (E : Ev) (M : Mm) (x4 : Int) : Option (Int × Mm) :=
  ck (rgI x4) <|
  (if x4 ≤ 0 then
  some (0, M)
  else
  some (1, M))
def f_Co_takeStep (E : Ev) (M : Mm) (p1 : Nat) (x2 : Int) (x3 : Int) : Option (Int × Mm) :=
  ck (isCt E p1) <|
  (f_In_bitCount E M (M 179 3)).bind fun r100 =>
  ck (rgI r100) <|
  ck (rgI x3) <|
  (if x3 < r100 then
  (f_Na_copyFrom E M 187 183).bind fun M103 =>
  (f_Na_multiplySmall E M103 187 (M103 p1 0)).bind fun M104 =>
  ck (inb x2 9) <|
  (f_Na_compareWith E M104 (201 + 2 * x2.toNat) 187).bind fun r106 =>
  ck (rgI r106) <|
  (if r106 < 0 then
  (f_Co_smallestPile E M104).bind fun r108 =>
  (f_Co_exclude E M104 p1 r108).bind fun M109 =>
  Co_takeStep_j79 E M109 r106
  else
  (f_Co_elect E M104 p1 x2).bind fun M111 =>
  Co_takeStep_j79 E M111 r106)
  else
  (f_Co_elect E M p1 x2).bind fun M112 =>
  some (0, M112))
def Na_subtract_4b (E : Ev) (M : Mm) (q0 : Nat) (q1 : Nat) (x2 : Int) (x3 : Int) : Option (Nat × Int × Int × Mm) :=
  ck (isNa E q0) <|
  ck (isNa E q1) <|
  ck (rgI x3) <|
  ck (rgI (M q0 1)) <|
  (if (M q0 1) ≤ x3 then
  some (1, x2, x3, M)
  else
  ck (inb x3 13) <|
  (f_Na_limbAt E M q1 x3).bind fun r103 =>
  nb ((((M (q0 + 1) x3.toNat) - r103) + x2)) fun (v104 : Int) =>
  ck (rgI v104) <|
  some (0, (v104 / 1073741824), (x3 + 1), (u2 M (q0 + 1) x3.toNat (v104 % 1073741824))))
def l_Na_subtract_4 (E : Ev) (q0 : Nat) (q1 : Nat) : Nat → Mm → Int → Int → Option (Nat × Int × Int × Mm)
  | 0, _, _, _ => none
  | fu + 1, M, x2, x3 => (Na_subtract_4b E M q0 q1 x2 x3).bind fun (t, w2, w3, N) => if t = 0 then l_Na_subtract_4 E q0 q1 fu N w2 w3 else some (t, w2, w3, N)
def f_Na_subtract (E : Ev) (M : Mm) (p0 : Nat) (p1 : Nat) : Option Mm :=
  ck (isNa E p0) <|
  ck (isNa E p1) <|
  (l_Na_subtract_4 E p0 p1 FU M 0 0).bind fun (t106, v106_2, v106_3, M106) =>
  ck (t106 = 1) <|
  (f_Na_trimTo E M106 p0 (M106 p0 1)).bind fun M107 =>
  some M107
def Na_subtractMultiple_j50 (E : Ev) (M : Mm) (q0 : Nat) (q1 : Nat) (x2 : Int) (x3 : Int) (x7 : Int) (y0 : Int) (y1 : Int) (y2 : Int) : Option (Nat × Int × Int × Mm) :=
  ck (isNa E q0) <|
  ck (isNa E q1) <|
  nb (((y2 + (y1 - y0)) % 1073741824)) fun (v104 : Int) =>
  ck (inb (x2 + x7) 13) <|
  ck (rgJ (y2 + (y1 - y0))) <|
  nb (((y2 + (y1 - y0)) / 1073741824)) fun (v107 : Int) =>
  some (0, v107, (x7 + 1), (u2 M (q0 + 1) (x2 + x7).toNat v104))
def Na_subtractMultiple_6b (E : Ev) (M : Mm) (q0 : Nat) (q1 : Nat) (x2 : Int) (x3 : Int) (x5 : Int) (x7 : Int) : Option (Nat × Int × Int × Mm) :=
  ck (isNa E q0) <|
  ck (isNa E q1) <|
  ck (rgI x7) <|
  ck (rgI (M q1 1)) <|
  (if (M q1 1) < x7 then
  some (1, x5, x7, M)
  else
  ck (inb (x2 + x7) 13) <|
  ck (rgI (M (q0 + 1) (x2 + x7).toNat)) <|
  (if (M q1 1) ≤ x7 then
  Na_subtractMultiple_j50 E M q0 q1 x2 x3 x7 0 (M (q0 + 1) (x2 + x7).toNat) x5
  else
  ck (inb x7 13) <|
  ck (rgI (M (q1 + 1) x7.toNat)) <|
  Na_subtractMultiple_j50 E M q0 q1 x2 x3 x7 (x3 * (M (q1 + 1) x7.toNat)) (M (q0 + 1) (x2 + x7).toNat) x5))
def l_Na_subtractMultiple_6 (E : Ev) (q0 : Nat) (q1 : Nat) (x2 : Int) (x3 : Int) : Nat → Mm → Int → Int → Option (Nat × Int × Int × Mm)
  | 0, _, _, _ => none
  | fu + 1, M, x5, x7 => (Na_subtractMultiple_6b E M q0 q1 x2 x3 x5 x7).bind fun (t, w5, w7, N) => if t = 0 then l_Na_subtractMultiple_6 E q0 q1 x2 x3 fu N w5 w7 else some (t, w5, w7, N)
def f_Na_subtractMultiple (E : Ev) (M : Mm) (p0 : Nat) (p1 : Nat) (x2 : Int) (x3 : Int) : Option (Int × Mm) :=
  ck (isNa E p0) <|
  ck (isNa E p1) <|
  (l_Na_subtractMultiple_6 E p0 p1 x2 x3 FU M 0 0).bind fun (t110, v110_5, v110_7, M110) =>
  ck (t110 = 1) <|
  some (v110_5, M110)
def Na_takeMultiple_78b (E : Ev) (M : Mm) (q0 : Nat) (q1 : Nat) (x2 : Int) (x3 : Int) (x4 : Int) (x8 : Int) (x10 : Int) (x12 : Int) : Option (Nat × Int × Int × Int × Mm) :=
  ck (isNa E q0) <|
  ck (isNa E q1) <|
  ck (rgI x12) <|
  (if 2 ≤ x12 then
  some (1, x8, x10, x12, M)
  else
  ck (rgJ x10) <|
  (if 1073741823 < x10 then
  some (1, x8, x10, x12, M)
  else
  ck (inb ((M q1 1) - 2) 13) <|
  ck (rgI (M (q1 + 1) ((M q1 1) - 2).toNat)) <|
  ck (inb (x3 - 2) 13) <|
  ck (rgI (M (q0 + 1) (x3 - 2).toNat)) <|
  ck (rgJ (x8 * (M (q1 + 1) ((M q1 1) - 2).toNat))) <|
  ck (rgJ ((x10 * 1073741824) + (M (q0 + 1) (x3 - 2).toNat))) <|
  (if (x8 * (M (q1 + 1) ((M q1 1) - 2).toNat)) ≤ ((x10 * 1073741824) + (M (q0 + 1) (x3 - 2).toNat)) then
  some (0, x8, x10, (x12 + 1), M)
  else
  some (0, (x8 - 1), (x10 + x4), (x12 + 1), M))))
def l_Na_takeMultiple_78 (E : Ev) (q0 : Nat) (q1 : Nat) (x2 : Int) (x3 : Int) (x4 : Int) : Nat → Mm → Int → Int → Int → Option (Nat × Int × Int × Int × Mm)
  | 0, _, _, _, _ => none
  | fu + 1, M, x8, x10, x12 => (Na_takeMultiple_78b E M q0 q1 x2 x3 x4 x8 x10 x12).bind fun (t, w8, w10, w12, N) => if t = 0 then l_Na_takeMultiple_78 E q0 q1 x2 x3 x4 fu N w8 w10 w12 else some (t, w8, w10, w12, N)
def Na_takeMultiple_j146 (E : Ev) (M : Mm) (q0 : Nat) (q1 : Nat) (x2 : Int) (x8 : Int) : Option (Int × Mm) :=
  ck (isNa E q0) <|
  ck (isNa E q1) <|
  (f_Na_subtractMultiple E M q0 q1 x2 x8).bind fun (r121, M121) =>
  ck (rgJ r121) <|
  (if 0 ≤ r121 then
  some (x8, M121)
  else
  (f_Na_subtractMultiple E M121 q0 q1 x2 (-1)).bind fun (r123, M123) =>
  some ((x8 - 1), M123))
def f_Na_takeMultiple (E : Ev) (M : Mm) (p0 : Nat) (p1 : Nat) (x2 : Int) : Option (Int × Mm) :=
  ck (isNa E p0) <|
  ck (isNa E p1) <|
  ck (inb ((M p1 1) - 1) 13) <|
  ck (rgI (M (p1 + 1) ((M p1 1) - 1).toNat)) <|
  nb ((M (p1 + 1) ((M p1 1) - 1).toNat)) fun (v102 : Int) =>
  (if v102 = 0 then
  some (0, M)
  else
  ck (inb (x2 + (M p1 1)) 13) <|
  ck (rgI (M (p0 + 1) (x2 + (M p1 1)).toNat)) <|
  ck (inb ((x2 + (M p1 1)) - 1) 13) <|
  ck (rgI (M (p0 + 1) ((x2 + (M p1 1)) - 1).toNat)) <|
  nb ((((M (p0 + 1) (x2 + (M p1 1)).toNat) * 1073741824) + (M (p0 + 1) ((x2 + (M p1 1)) - 1).toNat))) fun (v107 : Int) =>
  ck (nnJ v107) <|
  ck (psJ v102) <|
  ck (rgJ (v107 / v102)) <|
  nb ((min (v107 / v102) 1073741823)) fun (v111 : Int) =>
  (l_Na_takeMultiple_78 E p0 p1 x2 (x2 + (M p1 1)) v102 FU M v111 (v107 - (v111 * v102)) 0).bind fun (t120, v120_8, v120_10, v120_12, M120) =>
  ck (t120 = 1) <|
  Na_takeMultiple_j146 E M120 p0 p1 x2 v120_8)
def Na_divide_43b (E : Ev) (M : Mm) (q0 : Nat) (q1 : Nat) (q2 : Nat) (q3 : Nat) (x4 : Int) : Option (Nat × Int × Mm) :=
  ck (isNa E q0) <|
  ck (isNa E q1) <|
  ck (isNa E q2) <|
  ck (isNa E q3) <|
  ck (rgI x4) <|
  (if 30 ≤ x4 then
  some (1, x4, M)
  else
  ck (inb ((M q1 1) - 1) 13) <|
  ck (shI x4) <|
  ck (rgI ((M (q1 + 1) ((M q1 1) - 1).toNat) * 2 ^ x4.toNat)) <|
  ck (rgI (((M (q1 + 1) ((M q1 1) - 1).toNat) * 2 ^ x4.toNat) / 536870912)) <|
  (if (((M (q1 + 1) ((M q1 1) - 1).toNat) * 2 ^ x4.toNat) / 536870912) = 0 then
  some (0, (x4 + 1), M)
  else
  some (1, x4, M)))
def l_Na_divide_43 (E : Ev) (q0 : Nat) (q1 : Nat) (q2 : Nat) (q3 : Nat) : Nat → Mm → Int → Option (Nat × Int × Mm)
  | 0, _, _ => none
  | fu + 1, M, x4 => (Na_divide_43b E M q0 q1 q2 q3 x4).bind fun (t, w4, N) => if t = 0 then l_Na_divide_43 E q0 q1 q2 q3 fu N w4 else some (t, w4, N)
def Na_divide_103b (E : Ev) (M : Mm) (q0 : Nat) (q2 : Nat) (q3 : Nat) (x4 : Int) (x5 : Int) : Option (Nat × Int × Mm) :=
  ck (isNa E q0) <|
  ck (isNa E q2) <|
  ck (isNa E q3) <|
  ck (rgI x5) <|
  (if 13 ≤ x5 then
  some (1, x5, M)
  else
  ck (inb x5 13) <|
  some (0, (x5 + 1), (u2 M (q0 + 1) x5.toNat 0)))
def l_Na_divide_103 (E : Ev) (q0 : Nat) (q2 : Nat) (q3 : Nat) (x4 : Int) : Nat → Mm → Int → Option (Nat × Int × Mm)
  | 0, _, _ => none
  | fu + 1, M, x5 => (Na_divide_103b E M q0 q2 q3 x4 x5).bind fun (t, w5, N) => if t = 0 then l_Na_divide_103 E q0 q2 q3 x4 fu N w5 else some (t, w5, N)
def Na_divide_148b (E : Ev) (M : Mm) (q0 : Nat) (q2 : Nat) (q3 : Nat) (x4 : Int) (x5 : Int) : Option (Nat × Int × Mm) :=
  ck (isNa E q0) <|
  ck (isNa E q2) <|
  ck (isNa E q3) <|
  ck (rgI x5) <|
  (if x5 < 0 then
  some (1, x5, M)
  else
  (f_Na_takeMultiple E M q0 q3 x5).bind fun (r119, M119) =>
  ck (inb x5 13) <|
  some (0, (x5 + (-1)), (u2 M119 (q2 + 1) x5.toNat r119)))
def l_Na_divide_148 (E : Ev) (q0 : Nat) (q2 : Nat) (q3 : Nat) (x4 : Int) : Nat → Mm → Int → Option (Nat × Int × Mm)
  | 0, _, _ => none
  | fu + 1, M, x5 => (Na_divide_148b E M q0 q2 q3 x4 x5).bind fun (t, w5, N) => if t = 0 then l_Na_divide_148 E q0 q2 q3 x4 fu N w5 else some (t, w5, N)
def Na_divide_j76 (E : Ev) (M : Mm) (q0 : Nat) (q1 : Nat) (q2 : Nat) (q3 : Nat) (x4 : Int) : Option Mm :=
  ck (isNa E q0) <|
  ck (isNa E q1) <|
  ck (isNa E q2) <|
  ck (isNa E q3) <|
  (f_Na_copyFrom E M q3 q1).bind fun M107 =>
  ck (shI x4) <|
  (f_Na_multiplySmall E M107 q3 (2 ^ x4.toNat)).bind fun M109 =>
  ck (shI x4) <|
  (f_Na_multiplySmall E M109 q0 (2 ^ x4.toNat)).bind fun M111 =>
  (l_Na_divide_103 E q0 q2 q3 x4 FU M111 (M111 q0 1)).bind fun (t114, v114_5, M114) =>
  ck (t114 = 1) <|
  (f_Ar_fillI E M114 (q2 + 1) 0).bind fun M115 =>
  ck (rgI (M115 q0 1)) <|
  nb (((min (M115 q0 1) 12) - (M115 q3 1))) fun (v117 : Int) =>
  (l_Na_divide_148 E q0 q2 q3 x4 FU M115 v117).bind fun (t121, v121_5, M121) =>
  ck (t121 = 1) <|
  (f_Na_trimTo E M121 q2 13).bind fun M122 =>
  (f_Na_trimTo E M122 q0 13).bind fun M123 =>
  ck (shI x4) <|
  (f_Na_divideSmall E M123 q0 (2 ^ x4.toNat)).bind fun (r125, M125) =>
  some M125
def Na_divide_j36 (E : Ev) (M : Mm) (y0 : Int) (y1 : Nat) : Option Mm :=
  ck (isNa E y1) <|
  (f_Na_become E M y1 y0).bind fun M130 =>
  some M130
def f_Na_divide (E : Ev) (M : Mm) (p0 : Nat) (p1 : Nat) (p2 : Nat) (p3 : Nat) : Option Mm :=
  ck (isNa E p0) <|
  ck (isNa E p1) <|
  ck (isNa E p2) <|
  ck (isNa E p3) <|
  ck (rgI (M p1 1)) <|
  (if 1 < (M p1 1) then
  (l_Na_divide_43 E p0 p1 p2 p3 FU M 0).bind fun (t106, v106_4, M106) =>
  ck (t106 = 1) <|
  Na_divide_j76 E M106 p0 p1 p2 p3 v106_4
  else
  (f_Na_copyFrom E M p2 p0).bind fun M126 =>
  ck (rgI (M126 p1 1)) <|
  (if (M126 p1 1) = 0 then
  Na_divide_j36 E M126 0 p0
  else
  (f_Na_divideSmall E M126 p2 (M126 (p1 + 1) 0)).bind fun (r128, M128) =>
  ck (rgI r128) <|
  Na_divide_j36 E M128 r128 p0))
def f_Na_isOne (E : Ev) (M : Mm) (p0 : Nat) : Option Int :=
  ck (isNa E p0) <|
  ck (rgI (M p0 1)) <|
  (if (M p0 1) = 1 then
  ck (rgI (M (p0 + 1) 0)) <|
  (if (M (p0 + 1) 0) = 1 then
  some 1
  else
  some 0)
  else
  some 0)
def Co_reduce_28b (E : Ev) (M : Mm) (q1 : Nat) (q2 : Nat) (x3 : Int) : Option (Nat × Nat × Nat × Int × Mm) :=
  ck (isNa E q1) <|
  ck (isNa E q2) <|
  ck (rgI x3) <|
  (if 1000 ≤ x3 then
  some (1, q1, q2, x3, M)
  else
  ck (rgI (M q2 1)) <|
  (if (M q2 1) ≤ 0 then
  some (1, q1, q2, x3, M)
  else
  (f_Na_divide E M q1 q2 197 199).bind fun M104 =>
  some (0, q2, q1, (x3 + 1), M104)))
def l_Co_reduce_28 (E : Ev) : Nat → Mm → Nat → Nat → Int → Option (Nat × Nat × Nat × Int × Mm)
  | 0, _, _, _, _ => none
  | fu + 1, M, q1, q2, x3 => (Co_reduce_28b E M q1 q2 x3).bind fun (t, w1, w2, w3, N) => if t = 0 then l_Co_reduce_28 E fu N w1 w2 w3 else some (t, w1, w2, w3, N)
def Co_reduce_j69 (E : Ev) (M : Mm) (q1 : Nat) : Option Mm :=
  ck (isNa E q1) <|
  (f_Na_isOne E M q1).bind fun r106 =>
  ck (rgI r106) <|
  (if r106 = 0 then
  (f_Na_divide E M 189 q1 197 199).bind fun M108 =>
  (f_Na_copyFrom E M108 189 197).bind fun M109 =>
  (f_Na_divide E M109 191 q1 197 199).bind fun M110 =>
  (f_Na_copyFrom E M110 191 197).bind fun M111 =>
  some M111
  else
  some M)
def f_Co_reduce (E : Ev) (M : Mm) : Option Mm :=
  (f_Na_copyFrom E M 193 191).bind fun M100 =>
  (f_Na_copyFrom E M100 195 189).bind fun M101 =>
  (l_Co_reduce_28 E FU M101 193 195 0).bind fun (t105, v105_1, v105_2, v105_3, M105) =>
  ck (t105 = 1) <|
  ck (isNa E v105_1) <|
  Co_reduce_j69 E M105 v105_1
def Na_multiply_24b (E : Ev) (M : Mm) (q0 : Nat) (q1 : Nat) (q2 : Nat) (x3 : Int) (x4 : Int) (x6 : Int) : Option (Nat × Int × Int × Mm) :=
  ck (isNa E q0) <|
  ck (isNa E q1) <|
  ck (isNa E q2) <|
  ck (rgI x6) <|
  ck (rgI (M q2 1)) <|
  (if (M q2 1) < x6 then
  some (1, x4, x6, M)
  else
  ck (rgI (x3 + x6)) <|
  (if 13 ≤ (x3 + x6) then
  some (1, x4, x6, M)
  else
  ck (inb x3 13) <|
  ck (rgI (M (q1 + 1) x3.toNat)) <|
  (f_Na_limbAt E M q2 x6).bind fun r108 =>
  ck (rgI r108) <|
  ck (inb (x3 + x6) 13) <|
  ck (rgI (M (q0 + 1) (x3 + x6).toNat)) <|
  nb ((x4 + (((M (q1 + 1) x3.toNat) * r108) + (M (q0 + 1) (x3 + x6).toNat)))) fun (v112 : Int) =>
  ck (rgJ v112) <|
  some (0, (v112 / 1073741824), (x6 + 1), (u2 M (q0 + 1) (x3 + x6).toNat (v112 % 1073741824)))))
def l_Na_multiply_24 (E : Ev) (q0 : Nat) (q1 : Nat) (q2 : Nat) (x3 : Int) : Nat → Mm → Int → Int → Option (Nat × Int × Int × Mm)
  | 0, _, _, _ => none
  | fu + 1, M, x4, x6 => (Na_multiply_24b E M q0 q1 q2 x3 x4 x6).bind fun (t, w4, w6, N) => if t = 0 then l_Na_multiply_24 E q0 q1 q2 x3 fu N w4 w6 else some (t, w4, w6, N)
def Na_multiply_10b (E : Ev) (M : Mm) (q0 : Nat) (q1 : Nat) (q2 : Nat) (x3 : Int) : Option (Nat × Int × Mm) :=
  ck (isNa E q0) <|
  ck (isNa E q1) <|
  ck (isNa E q2) <|
  ck (rgI x3) <|
  ck (rgI (M q1 1)) <|
  (if (M q1 1) ≤ x3 then
  some (1, x3, M)
  else
  (l_Na_multiply_24 E q0 q1 q2 x3 FU M 0 0).bind fun (t114, v114_4, v114_6, M114) =>
  ck (t114 = 1) <|
  some (0, (x3 + 1), M114))
def l_Na_multiply_10 (E : Ev) (q0 : Nat) (q1 : Nat) (q2 : Nat) : Nat → Mm → Int → Option (Nat × Int × Mm)
  | 0, _, _ => none
  | fu + 1, M, x3 => (Na_multiply_10b E M q0 q1 q2 x3).bind fun (t, w3, N) => if t = 0 then l_Na_multiply_10 E q0 q1 q2 fu N w3 else some (t, w3, N)
def f_Na_multiply (E : Ev) (M : Mm) (p0 : Nat) (p1 : Nat) (p2 : Nat) : Option Mm :=
  ck (isNa E p0) <|
  ck (isNa E p1) <|
  ck (isNa E p2) <|
  (f_Ar_fillI E M (p0 + 1) 0).bind fun M100 =>
  (l_Na_multiply_10 E p0 p1 p2 FU M100 0).bind fun (t115, v115_3, M115) =>
  ck (t115 = 1) <|
  (f_Na_trimTo E M115 p0 13).bind fun M116 =>
  some M116
def f_Co_multiply (E : Ev) (M : Mm) (p1 : Nat) (p2 : Nat) : Option Mm :=
  ck (isNa E p1) <|
  ck (isNa E p2) <|
  ck (rgI (M p1 1)) <|
  (if (M p1 1) ≤ 0 then
  some M
  else
  (f_Na_multiply E M 199 p1 p2).bind fun M101 =>
  (f_Na_copyFrom E M101 p1 199).bind fun M102 =>
  some M102)
def Co_multiplyAll_11b (E : Ev) (M : Mm) (q1 : Nat) (x2 : Int) : Option (Nat × Int × Mm) :=
  ck (isNa E q1) <|
  ck (rgI x2) <|
  (if 9 ≤ x2 then
  some (1, x2, M)
  else
  ck (inb x2 9) <|
  (f_Co_multiply E M (201 + 2 * x2.toNat) q1).bind fun M103 =>
  some (0, (x2 + 1), M103))
def l_Co_multiplyAll_11 (E : Ev) (q1 : Nat) : Nat → Mm → Int → Option (Nat × Int × Mm)
  | 0, _, _ => none
  | fu + 1, M, x2 => (Co_multiplyAll_11b E M q1 x2).bind fun (t, w2, N) => if t = 0 then l_Co_multiplyAll_11 E q1 fu N w2 else some (t, w2, N)
def Co_multiplyAll_49b (E : Ev) (M : Mm) (q1 : Nat) (x2 : Int) (x3 : Int) : Option (Nat × Int × Mm) :=
  ck (isNa E q1) <|
  ck (rgI x3) <|
  ck (rgI (M 2 2)) <|
  (if (M 2 2) ≤ x3 then
  some (1, x3, M)
  else
  (f_B_has E M (M 179 3) x3).bind fun r109 =>
  ck (rgI r109) <|
  (if r109 = 0 then
  some (0, (x3 + 1), M)
  else
  (f_Co_weightOf E M x2 x3).bind fun r111 =>
  ck (isNa E r111) <|
  (f_Co_multiply E M r111 q1).bind fun M112 =>
  some (0, (x3 + 1), M112)))
def l_Co_multiplyAll_49 (E : Ev) (q1 : Nat) (x2 : Int) : Nat → Mm → Int → Option (Nat × Int × Mm)
  | 0, _, _ => none
  | fu + 1, M, x3 => (Co_multiplyAll_49b E M q1 x2 x3).bind fun (t, w3, N) => if t = 0 then l_Co_multiplyAll_49 E q1 x2 fu N w3 else some (t, w3, N)
def Co_multiplyAll_36b (E : Ev) (M : Mm) (q1 : Nat) (x2 : Int) : Option (Nat × Int × Mm) :=
  ck (isNa E q1) <|
  ck (rgI x2) <|
  ck (rgI (M 2 3)) <|
  (if (M 2 3) ≤ x2 then
  some (1, x2, M)
  else
  (l_Co_multiplyAll_49 E q1 x2 FU M 0).bind fun (t113, v113_3, M113) =>
  ck (t113 = 1) <|
  some (0, (x2 + 1), M113))
def l_Co_multiplyAll_36 (E : Ev) (q1 : Nat) : Nat → Mm → Int → Option (Nat × Int × Mm)
  | 0, _, _ => none
  | fu + 1, M, x2 => (Co_multiplyAll_36b E M q1 x2).bind fun (t, w2, N) => if t = 0 then l_Co_multiplyAll_36 E q1 fu N w2 else some (t, w2, N)
def f_Co_multiplyAll (E : Ev) (M : Mm) (p1 : Nat) : Option Mm :=
  ck (isNa E p1) <|
  (f_Co_multiply E M 183 p1).bind fun M100 =>
  (l_Co_multiplyAll_11 E p1 FU M100 0).bind fun (t104, v104_2, M104) =>
  ck (t104 = 1) <|
  (l_Co_multiplyAll_36 E p1 FU M104 0).bind fun (t114, v114_2, M114) =>
  ck (t114 = 1) <|
  some M114
def Co_passSurplus_64b (E : Ev) (M : Mm) (x1 : Int) (x2 : Int) : Option (Nat × Int × Mm) :=
  ck (rgI x2) <|
  ck (rgI (M 2 3)) <|
  (if (M 2 3) ≤ x2 then
  some (1, x2, M)
  else
  (f_Co_weightOf E M x2 x1).bind fun r109 =>
  ck (isNa E r109) <|
  (f_Na_multiply E M 185 r109 189).bind fun M110 =>
  (f_Co_passOn E M110 x2).bind fun M111 =>
  some (0, (x2 + 1), M111))
def l_Co_passSurplus_64 (E : Ev) (x1 : Int) : Nat → Mm → Int → Option (Nat × Int × Mm)
  | 0, _, _ => none
  | fu + 1, M, x2 => (Co_passSurplus_64b E M x1 x2).bind fun (t, w2, N) => if t = 0 then l_Co_passSurplus_64 E x1 fu N w2 else some (t, w2, N)
def f_Co_passSurplus (E : Ev) (M : Mm) (x1 : Int) : Option Mm :=
  ck (inb x1 9) <|
  (f_Na_copyFrom E M 189 (201 + 2 * x1.toNat)).bind fun M101 =>
  (f_Na_subtract E M101 189 187).bind fun M102 =>
  (f_Na_copyFrom E M102 191 (201 + 2 * x1.toNat)).bind fun M103 =>
  (f_Co_reduce E M103).bind fun M104 =>
  (f_Na_copyFrom E M104 (201 + 2 * x1.toNat) 187).bind fun M105 =>
  (f_Co_multiplyAll E M105 191).bind fun M106 =>
  (l_Co_passSurplus_64 E x1 FU M106 0).bind fun (t112, v112_2, M112) =>
  ck (t112 = 1) <|
  some M112
def Co_holdCount_j119 (E : Ev) (M : Mm) (x1 : Int) (q2 : Nat) (x3 : Int) : Option (Nat × Int × Ev × Mm) :=
  ck (Lay E) <|
  ck (isCt E q2) <|
  (f_Co_keepMoment E M q2).bind fun M117 =>
  some (0, (x3 + 1), E, M117)
def Co_holdCount_64b (E : Ev) (M : Mm) (x1 : Int) (q2 : Nat) (x3 : Int) : Option (Nat × Int × Ev × Mm) :=
  ck (Lay E) <|
  ck (isCt E q2) <|
  ck (rgI x3) <|
  ck (rgI (M 2 2)) <|
  (if (M 2 2) ≤ x3 then
  some (1, x3, E, M)
  else
  ck (rgI (x1 - (M q2 4))) <|
  (if (x1 - (M q2 4)) ≤ 0 then
  some (0, (x3 + 1), E, M)
  else
  ck (rgI (M 179 3)) <|
  (if (M 179 3) = 0 then
  some (0, (x3 + 1), E, M)
  else
  (f_Co_greatestPile E M).bind fun r114 =>
  (f_Co_takeStep E M q2 r114 (x1 - (M q2 4))).bind fun (r115, M115) =>
  ck (rgI r115) <|
  (if r115 = 0 then
  Co_holdCount_j119 E M115 x1 q2 x3
  else
  (f_Co_passSurplus E M115 r114).bind fun M118 =>
  Co_holdCount_j119 E M118 x1 q2 x3))))
def l_Co_holdCount_64 (x1 : Int) (q2 : Nat) : Nat → Ev → Mm → Int → Option (Nat × Int × Ev × Mm)
  | 0, _, _, _ => none
  | fu + 1, E, M, x3 => (Co_holdCount_64b E M x1 q2 x3).bind fun (t, w3, F, N) => if t = 0 then l_Co_holdCount_64 x1 q2 fu F N w3 else some (t, w3, F, N)
def Co_holdCount_j41 (E : Ev) (M : Mm) (x1 : Int) : Option (Int × Ev × Mm) :=
  ck (Lay E) <|
  ck (inb (M 179 2) 21) <|
  (rE E 180 (M 179 2).toNat).bind fun p107 =>
  ck (isCt E p107) <|
  (f_Co_start E M p107 x1).bind fun (E108, M108) =>
  ck (Gw E E108) <|
  ck (Lay E108) <|
  ck (isCt E108 p107) <|
  (f_Co_keepMoment E108 M108 p107).bind fun M109 =>
  (l_Co_holdCount_64 x1 p107 5000 E108 M109 0).bind fun (t119, v119_3, E119, M119) =>
  ck (Gw E108 E119) <|
  ck (Lay E119) <|
  ck (t119 = 1) <|
  ck (isCt E119 p107) <|
  some ((M119 p107 4), E119, M119)
def f_Co_holdCount (E : Ev) (M : Mm) (x1 : Int) : Option (Int × Ev × Mm) :=
  ck (Lay E) <|
  ck (nnI ((M 179 2) + 1)) <|
  ck (inb ((u2 M 179 2 (((M 179 2) + 1) % 21)) 179 2) 21) <|
  (mO (rE E 180 ((u2 M 179 2 (((M 179 2) + 1) % 21)) 179 2).toNat)
  (nb (nE E) fun (p103 : Nat) =>
  nb (eNew E (102, 0)) fun (E103 : Ev) =>
  nb (mN (u2 M 179 2 (((M 179 2) + 1) % 21)) (nE E)) fun (M103 : Mm) =>
  (f_Ct_init E103 M103 p103).bind fun (E104, M104) =>
  ck (Gw E103 E104) <|
  ck (Lay E104) <|
  nb (eRef E104 180 ((u2 M 179 2 (((M 179 2) + 1) % 21)) 179 2).toNat p103) fun (E105 : Ev) =>
  Co_holdCount_j41 E105 M104 x1)
  fun (p102 : Nat) =>
  Co_holdCount_j41 E (u2 M 179 2 (((M 179 2) + 1) % 21)) x1)
def f_B_transferable (E : Ev) (M : Mm) (x1 : Int) : Option (Int × Ev × Mm) :=
  ck (Lay E) <|
  (f_B_needRange E M x1 1 3).bind fun _u =>
  ck (rgI (M 2 2)) <|
  (if (M 2 2) = 0 then
  none
  else
  (f_Co_holdCount E M x1).bind fun (r102, E102, M102) =>
  ck (Gw E E102) <|
  ck (Lay E102) <|
  (f_B_remember E102 M102 9 0 0).bind fun M103 =>
  some (r102, E102, M103))
def f_Co_latest (E : Ev) (M : Mm) : Option ((Option Nat)) :=
  ck (inb (M 179 2) 21) <|
  some (rE E 180 (M 179 2).toNat)
def f_B_electedAt (E : Ev) (M : Mm) (x1 : Int) : Option Int :=
  (f_Co_latest E M).bind fun r100 =>
  (match r100 with
  | none =>
  none
  | some p100 =>
  ck (isCt E p100) <|
  ck (rgI x1) <|
  (if x1 < 0 then
  none
  else
  ck (rgI (M p100 4)) <|
  (if x1 < (M p100 4) then
  ck (inb x1 3) <|
  some (M (p100 + 2) x1.toNat)
  else
  none)))
def f_B_quota (E : Ev) (M : Mm) : Option Int :=
  (f_Co_latest E M).bind fun r100 =>
  (match r100 with
  | none =>
  some (-1)
  | some p100 =>
  ck (isCt E p100) <|
  some (M p100 0))
def Lb_solid_30b (E : Ev) (M : Mm) (q0 : Nat) (x1 : Int) (x2 : Int) (x3 : Int) (x5 : Int) (x4 : Int) (x6 : Int) : Option (Nat × Int × Int) :=
  ck (isO 12 E q0) <|
  ck (rgI x6) <|
  ck (rgI (M q0 0)) <|
  (if (M q0 0) ≤ x6 then
  some (1, x4, x6)
  else
  ck (rgI x4) <|
  (if x4 = 0 then
  some (0, 0, (x6 + 1))
  else
  ck (rgI x1) <|
  ck (shI x5) <|
  (if ((x1 / 2 ^ x5.toNat) % 2) = 0 then
  some (0, 1, (x6 + 1))
  else
  ck (shI x6) <|
  (if ((x1 / 2 ^ x6.toNat) % 2) = 1 then
  some (0, 1, (x6 + 1))
  else
  (rE E q0 1).bind fun p110 =>
  ck (isQ 6 E p110) <|
  ck (inb x3 (tE E p110).2) <|
  (rE E p110 x3.toNat).bind fun p112 =>
  ck (isIA E p112) <|
  ck (inb x5 (tE E p112).2) <|
  (rE E q0 1).bind fun p114 =>
  ck (isQ 6 E p114) <|
  ck (inb x3 (tE E p114).2) <|
  (rE E p114 x3.toNat).bind fun p116 =>
  ck (isIA E p116) <|
  ck (inb x6 (tE E p116).2) <|
  ck (rgI (M p112 x5.toNat)) <|
  ck (rgI (M p116 x6.toNat)) <|
  (if (M p116 x6.toNat) ≤ (M p112 x5.toNat) then
  some (0, 0, (x6 + 1))
  else
  some (0, 1, (x6 + 1)))))))
def l_Lb_solid_30 (E : Ev) (q0 : Nat) (x1 : Int) (x2 : Int) (x3 : Int) (x5 : Int) : Nat → Mm → Int → Int → Option (Nat × Int × Int)
  | 0, _, _, _ => none
  | fu + 1, M, x4, x6 => (Lb_solid_30b E M q0 x1 x2 x3 x5 x4 x6).bind fun (t, w4, w6) => if t = 0 then l_Lb_solid_30 E q0 x1 x2 x3 x5 fu M w4 w6 else some (t, w4, w6)
def Lb_solid_18b (E : Ev) (M : Mm) (q0 : Nat) (x1 : Int) (x2 : Int) (x3 : Int) (x4 : Int) (x5 : Int) : Option (Nat × Int × Int) :=
  ck (isO 12 E q0) <|
  ck (rgI x5) <|
  ck (rgI (M q0 0)) <|
  (if (M q0 0) ≤ x5 then
  some (1, x4, x5)
  else
  (l_Lb_solid_30 E q0 x1 x2 x3 x5 FU M x4 0).bind fun (t120, v120_4, v120_6) =>
  ck (t120 = 1) <|
  some (0, v120_4, (x5 + 1)))
def l_Lb_solid_18 (E : Ev) (q0 : Nat) (x1 : Int) (x2 : Int) (x3 : Int) : Nat → Mm → Int → Int → Option (Nat × Int × Int)
  | 0, _, _, _ => none
  | fu + 1, M, x4, x5 => (Lb_solid_18b E M q0 x1 x2 x3 x4 x5).bind fun (t, w4, w5) => if t = 0 then l_Lb_solid_18 E q0 x1 x2 x3 fu M w4 w5 else some (t, w4, w5)
def Lb_solid_4b (E : Ev) (M : Mm) (q0 : Nat) (x1 : Int) (x2 : Int) (x3 : Int) : Option (Nat × Int × Int) :=
  ck (isO 12 E q0) <|
  ck (rgI x3) <|
  ck (rgI (M q0 3)) <|
  (if (M q0 3) ≤ x3 then
  some (1, x2, x3)
  else
  (l_Lb_solid_18 E q0 x1 x2 x3 FU M 1 0).bind fun (t121, v121_4, v121_5) =>
  ck (t121 = 1) <|
  ck (rgI v121_4) <|
  (if v121_4 = 0 then
  some (0, (x2 + 0), (x3 + 1))
  else
  (rE E q0 2).bind fun p123 =>
  ck (isIA E p123) <|
  ck (inb x3 (tE E p123).2) <|
  some (0, (x2 + (M p123 x3.toNat)), (x3 + 1))))
def l_Lb_solid_4 (E : Ev) (q0 : Nat) (x1 : Int) : Nat → Mm → Int → Int → Option (Nat × Int × Int)
  | 0, _, _, _ => none
  | fu + 1, M, x2, x3 => (Lb_solid_4b E M q0 x1 x2 x3).bind fun (t, w2, w3) => if t = 0 then l_Lb_solid_4 E q0 x1 fu M w2 w3 else some (t, w2, w3)
def f_Lb_solid (E : Ev) (M : Mm) (p0 : Nat) (x1 : Int) : Option Int :=
  ck (isO 12 E p0) <|
  (l_Lb_solid_4 E p0 x1 FU M 0 0).bind fun (t125, v125_2, v125_3) =>
  ck (t125 = 1) <|
  some v125_2
def Bx_findSupport_23b (E : Ev) (M : Mm) (q1 : Nat) (x2 : Int) (x3 : Int) (x4 : Int) (x5 : Int) (x6 : Int) : Option (Nat × Int × Int × Mm) :=
  ck (isIA E q1) <|
  ck (inb x4 31) <|
  ck (rgI x6) <|
  ck (rgI (M 7 x4.toNat)) <|
  (if (M 7 x4.toNat) ≤ x6 then
  some (1, x5, x6, M)
  else
  ck (inb x6 8) <|
  ck (nnI x5) <|
  ck (nnI (M (9 + x4.toNat) x6.toNat)) <|
  nb ((orI x5 (M (9 + x4.toNat) x6.toNat))) fun (v109 : Int) =>
  ck (rgI v109) <|
  ck (rgI x3) <|
  (if v109 = x3 then
  some (0, v109, (x6 + 1), M)
  else
  ck (inb v109 256) <|
  ck (inb x4 (tE E q1).2) <|
  nb (((M 40 v109.toNat) + (M q1 x4.toNat))) fun (v114 : Int) =>
  some (0, v109, (x6 + 1), (u2 M 40 v109.toNat v114))))
def l_Bx_findSupport_23 (E : Ev) (q1 : Nat) (x2 : Int) (x3 : Int) (x4 : Int) : Nat → Mm → Int → Int → Option (Nat × Int × Int × Mm)
  | 0, _, _, _ => none
  | fu + 1, M, x5, x6 => (Bx_findSupport_23b E M q1 x2 x3 x4 x5 x6).bind fun (t, w5, w6, N) => if t = 0 then l_Bx_findSupport_23 E q1 x2 x3 x4 fu N w5 w6 else some (t, w5, w6, N)
def Bx_findSupport_11b (E : Ev) (M : Mm) (q1 : Nat) (x2 : Int) (x3 : Int) (x4 : Int) : Option (Nat × Int × Mm) :=
  ck (isIA E q1) <|
  ck (rgI x4) <|
  ck (rgI x2) <|
  (if x2 ≤ x4 then
  some (1, x4, M)
  else
  (l_Bx_findSupport_23 E q1 x2 x3 x4 FU M 0 0).bind fun (t115, v115_5, v115_6, M115) =>
  ck (t115 = 1) <|
  some (0, (x4 + 1), M115))
def l_Bx_findSupport_11 (E : Ev) (q1 : Nat) (x2 : Int) (x3 : Int) : Nat → Mm → Int → Option (Nat × Int × Mm)
  | 0, _, _ => none
  | fu + 1, M, x4 => (Bx_findSupport_11b E M q1 x2 x3 x4).bind fun (t, w4, N) => if t = 0 then l_Bx_findSupport_11 E q1 x2 x3 fu N w4 else some (t, w4, N)
def f_Bx_findSupport (E : Ev) (M : Mm) (p1 : Nat) (x2 : Int) (x3 : Int) : Option Mm :=
  ck (isIA E p1) <|
  (f_Ar_fillI E M 40 0).bind fun M100 =>
  (l_Bx_findSupport_11 E p1 x2 x3 FU M100 0).bind fun (t116, v116_4, M116) =>
  ck (t116 = 1) <|
  (f_Bx_ballotsOf E M116 p1 x2).bind fun r117 =>
  ck (inb x3 256) <|
  some (u2 M116 40 x3.toNat r117)
def f_B_solidQuotas (E : Ev) (M : Mm) (x1 : Int) : Option (Int × Mm) :=
  (f_Bx_everybody E M).bind fun r100 =>
  (f_B_needRange E M x1 1 r100).bind fun _u =>
  (f_Co_latest E M).bind fun r102 =>
  (match r102 with
  | none =>
  none
  | some p102 =>
  ck (isCt E p102) <|
  ck (rgI (M p102 0)) <|
  (if 1 ≤ (M p102 0) then
  (f_Bx_everybody E M).bind fun r104 =>
  (f_Bx_findSupport E M 5 (M 2 3) r104).bind fun M105 =>
  ck (inb x1 256) <|
  ck (nnI (M105 40 x1.toNat)) <|
  ck (psI (M105 p102 0)) <|
  (f_In_bitCount E M105 x1).bind fun r109 =>
  ck (rgI ((M105 40 x1.toNat) / (M105 p102 0))) <|
  ck (rgI r109) <|
  nb ((min ((M105 40 x1.toNat) / (M105 p102 0)) r109)) fun (v112 : Int) =>
  some (v112, M105)
  else
  none))
def f_Na_load (E : Ev) (M : Mm) (p0 : Nat) (p1 : Nat) (x2 : Int) : Option Mm :=
  ck (isNa E p0) <|
  ck (isIA E p1) <|
  ck (cpk x2 0 13 (tE E p1).2 13) <|
  (f_Na_trimTo E (uA M (p0 + 1) (va_cpy (M p1) (M (p0 + 1)) x2.toNat 0 13)) p0 13).bind fun M101 =>
  some M101
def f_Co_loadPile (E : Ev) (M : Mm) (p1 : Nat) (x2 : Int) (x3 : Int) : Option Mm :=
  ck (isCt E p1) <|
  (f_Ct_placeOf E M p1 x2 x3).bind fun r100 =>
  (f_Na_load E M 189 (p1 + 4) r100).bind fun M101 =>
  (f_Ct_placeOf E M101 p1 x2 9).bind fun r102 =>
  (f_Na_load E M101 191 (p1 + 4) r102).bind fun M103 =>
  some M103
def f_B_appendByte (E : Ev) (M : Mm) (x1 : Int) : Option Mm :=
  ck (rgI (M 1 13)) <|
  (if 240 ≤ (M 1 13) then
  some M
  else
  ck (inb (M 1 13) 240) <|
  some (u2 (u2 M 249 (M 1 13).toNat x1) 1 13 (((u2 M 249 (M 1 13).toNat x1) 1 13) + 1)))
def B_appendNumber_20b (E : Ev) (M : Mm) (q1 : Nat) (x2 : Int) (x3 : Int) : Option (Nat × Int × Mm) :=
  ck (isNa E q1) <|
  ck (rgI x3) <|
  (if 240 ≤ x3 then
  some (1, x3, M)
  else
  ck (rgI (M q1 1)) <|
  (if (M q1 1) ≤ 0 then
  some (1, x3, M)
  else
  (f_Na_divideSmall E M q1 10).bind fun (r104, M104) =>
  (f_B_appendByte E M104 (48 + r104)).bind fun M105 =>
  some (0, (x3 + 1), M105)))
def l_B_appendNumber_20 (E : Ev) (q1 : Nat) (x2 : Int) : Nat → Mm → Int → Option (Nat × Int × Mm)
  | 0, _, _ => none
  | fu + 1, M, x3 => (B_appendNumber_20b E M q1 x2 x3).bind fun (t, w3, N) => if t = 0 then l_B_appendNumber_20 E q1 x2 fu N w3 else some (t, w3, N)
def B_appendNumber_63b (E : Ev) (M : Mm) (x3 : Int) (x4 : Int) : Option (Nat × Int × Int × Mm) :=
  ck (rgI x3) <|
  ck (rgI x4) <|
  (if x4 ≤ x3 then
  some (1, x3, x4, M)
  else
  ck (inb x3 240) <|
  ck (inb x4 240) <|
  some (0, (x3 + 1), (x4 + (-1)), (u2 (u2 M 249 x3.toNat (M 249 x4.toNat)) 249 x4.toNat (M 249 x3.toNat))))
def l_B_appendNumber_63 (E : Ev) : Nat → Mm → Int → Int → Option (Nat × Int × Int × Mm)
  | 0, _, _, _ => none
  | fu + 1, M, x3, x4 => (B_appendNumber_63b E M x3 x4).bind fun (t, w3, w4, N) => if t = 0 then l_B_appendNumber_63 E fu N w3 w4 else some (t, w3, w4, N)
def f_B_appendNumber (E : Ev) (M : Mm) (p1 : Nat) : Option Mm :=
  ck (isNa E p1) <|
  (f_Na_divideSmall E M p1 10).bind fun (r100, M100) =>
  (f_B_appendByte E M100 (48 + r100)).bind fun M101 =>
  (l_B_appendNumber_20 E p1 (M 1 13) FU M101 1).bind fun (t106, v106_3, M106) =>
  ck (t106 = 1) <|
  (l_B_appendNumber_63 E FU M106 (M 1 13) ((M106 1 13) - 1)).bind fun (t111, v111_3, v111_4, M111) =>
  ck (t111 = 1) <|
  some M111
def B_writePile_j72 (E : Ev) (M : Mm) (y0 : Int) (y1 : Int) (y2 : Nat) : Option (Int × Mm) :=
  ck (isCt E y2) <|
  (f_Co_loadPile E M y2 y1 y0).bind fun M105 =>
  (f_Co_reduce E M105).bind fun M106 =>
  (f_B_appendNumber E (u2 M106 1 13 0) 189).bind fun M107 =>
  (f_Na_isOne E M107 191).bind fun r108 =>
  ck (rgI r108) <|
  (if r108 = 0 then
  (f_B_appendByte E M107 47).bind fun M110 =>
  (f_B_appendNumber E M110 191).bind fun M111 =>
  some ((M111 1 13), M111)
  else
  some ((M107 1 13), M107))
def B_writePile_j16 (E : Ev) (M : Mm) (x1 : Int) (x2 : Int) : Option (Int × Mm) :=
  (f_Co_latest E M).bind fun r101 =>
  (match r101 with
  | none =>
  none
  | some p101 =>
  ck (isCt E p101) <|
  ck (rgI x1) <|
  (if x1 < 0 then
  none
  else
  ck (rgI ((M p101 4) + (M p101 5))) <|
  (if x1 ≤ ((M p101 4) + (M p101 5)) then
  ck (rgI x2) <|
  (if x2 = (-1) then
  B_writePile_j72 E M 8 x1 p101
  else
  B_writePile_j72 E M x2 x1 p101)
  else
  none)))
def f_B_writePile (E : Ev) (M : Mm) (x1 : Int) (x2 : Int) : Option (Int × Mm) :=
  ck (rgI x2) <|
  (if x2 = (-1) then
  B_writePile_j16 E M x1 x2
  else
  (f_B_needIndex E M x2 (M 2 2)).bind fun _u =>
  B_writePile_j16 E M x1 x2)
def f_B_outputByte (E : Ev) (M : Mm) (x1 : Int) : Option Int :=
  ck (rgI x1) <|
  (if x1 < 0 then
  some (-1)
  else
  ck (rgI (M 1 13)) <|
  (if x1 < (M 1 13) then
  ck (inb x1 240) <|
  some (M 249 x1.toNat)
  else
  some (-1)))
def La_reads_19b (E : Ev) (M : Mm) (x1 : Int) (x2 : Int) (x4 : Int) (x6 : Int) (x7 : Int) : Option (Nat × Int × Int × Int × Int) :=
  ck (rgI x7) <|
  ck (rgI x1) <|
  (if x1 ≤ x7 then
  some (1, x2, x4, x6, x7)
  else
  (f_B_outputByte E M x7).bind fun r103 =>
  ck (rgI r103) <|
  (if r103 = 47 then
  some (0, x2, x4, 1, (x7 + 1))
  else
  ck (rgI x6) <|
  (if x6 = 0 then
  some (0, (((10 * x2) + r103) - 48), x4, x6, (x7 + 1))
  else
  some (0, x2, (((10 * x4) + r103) - 48), x6, (x7 + 1)))))
def l_La_reads_19 (E : Ev) (x1 : Int) : Nat → Mm → Int → Int → Int → Int → Option (Nat × Int × Int × Int × Int)
  | 0, _, _, _, _, _ => none
  | fu + 1, M, x2, x4, x6, x7 => (La_reads_19b E M x1 x2 x4 x6 x7).bind fun (t, w2, w4, w6, w7) => if t = 0 then l_La_reads_19 E x1 fu M w2 w4 w6 w7 else some (t, w2, w4, w6, w7)
def f_La_reads (E : Ev) (M : Mm) (x1 : Int) : Option Int :=
  ck (rgI x1) <|
  (if x1 ≤ 16 then
  (l_La_reads_19 E x1 FU M 0 0 0 0).bind fun (t106, v106_2, v106_4, v106_6, v106_7) =>
  ck (t106 = 1) <|
  ck (rgI v106_6) <|
  (if v106_6 = 0 then
  some (v106_2 * 840)
  else
  ck (psJ v106_4) <|
  ck (rgJ ((840 : Int) % v106_4)) <|
  (if ((840 : Int) % v106_4) = 0 then
  ck (psJ v106_4) <|
  some (v106_2 * ((840 : Int) / v106_4))
  else
  some 0))
  else
  some 0)
def f_B_steps (E : Ev) (M : Mm) : Option Int :=
  (f_Co_latest E M).bind fun r100 =>
  (match r100 with
  | none =>
  some 0
  | some p100 =>
  ck (isCt E p100) <|
  some ((M p100 4) + (M p100 5)))
def La_transferable_21b (E : Ev) (M : Mm) (q1 : Nat) (x3 : Int) (x4 : Int) (x5 : Int) (x6 : Int) : Option (Nat × Int × Int × Ev × Mm) :=
  ck (Lay E) <|
  ck (isO 12 E q1) <|
  ck (rgI x6) <|
  ck (rgI x4) <|
  (if x4 ≤ x6 then
  some (1, x5, x6, E, M)
  else
  (f_B_electedAt E M x6).bind fun r104 =>
  ck (shI r104) <|
  ck (nnI x5) <|
  ck (nnI (2 ^ r104.toNat)) <|
  some (0, (orI x5 (2 ^ r104.toNat)), (x6 + 1), E, M))
def l_La_transferable_21 (q1 : Nat) (x3 : Int) (x4 : Int) : Nat → Ev → Mm → Int → Int → Option (Nat × Int × Int × Ev × Mm)
  | 0, _, _, _, _ => none
  | fu + 1, E, M, x5, x6 => (La_transferable_21b E M q1 x3 x4 x5 x6).bind fun (t, w5, w6, F, N) => if t = 0 then l_La_transferable_21 q1 x3 x4 fu F N w5 w6 else some (t, w5, w6, F, N)
def La_transferable_j153 (E : Ev) (M : Mm) (q1 : Nat) (x5 : Int) (x8 : Int) (x9 : Int) : Option (Nat × Int × Int × Ev × Mm) :=
  ck (Lay E) <|
  ck (isO 12 E q1) <|
  (f_B_solidQuotas E M x8).bind fun (r128, M128) =>
  (f_In_bitCount E M128 x8).bind fun r129 =>
  ck (rgI x9) <|
  ck (rgI r129) <|
  ck (rgI r128) <|
  (if r128 = (min x9 r129) then
  some (0, 1, (x8 + 1), E, M128)
  else
  some (0, 0, (x8 + 1), E, M128))
def La_transferable_101b (E : Ev) (M : Mm) (q1 : Nat) (x5 : Int) (x7 : Int) (x8 : Int) : Option (Nat × Int × Int × Ev × Mm) :=
  ck (Lay E) <|
  ck (isO 12 E q1) <|
  ck (shI (M q1 0)) <|
  ck (rgI x8) <|
  ck (rgI (2 ^ (M q1 0).toNat)) <|
  (if (2 ^ (M q1 0).toNat) ≤ x8 then
  some (1, x7, x8, E, M)
  else
  (f_Lb_solid E M q1 x8).bind fun r118 =>
  (f_B_quota E M).bind fun r119 =>
  ck (nnI r118) <|
  ck (psI r119) <|
  ck (rgI x7) <|
  (if x7 = 0 then
  some (0, 0, (x8 + 1), E, M)
  else
  ck (nnI x8) <|
  ck (nnI x5) <|
  (f_In_bitCount E M (andI x8 x5)).bind fun r125 =>
  ck (rgI r125) <|
  ck (rgI (r118 / r119)) <|
  (if (r118 / r119) ≤ r125 then
  La_transferable_j153 E M q1 x5 x8 (r118 / r119)
  else
  (if (andI x8 x5) = x8 then
  La_transferable_j153 E M q1 x5 x8 (r118 / r119)
  else
  some (0, 0, (x8 + 1), E, M)))))
def l_La_transferable_101 (q1 : Nat) (x5 : Int) : Nat → Ev → Mm → Int → Int → Option (Nat × Int × Int × Ev × Mm)
  | 0, _, _, _, _ => none
  | fu + 1, E, M, x7, x8 => (La_transferable_101b E M q1 x5 x7 x8).bind fun (t, w7, w8, F, N) => if t = 0 then l_La_transferable_101 q1 x5 fu F N w7 w8 else some (t, w7, w8, F, N)
def La_transferable_223b (E : Ev) (M : Mm) (q1 : Nat) (x8 : Int) (x9 : Int) (x11 : Int) (x12 : Int) (x13 : Int) : Option (Nat × Int × Int × Ev × Mm) :=
  ck (Lay E) <|
  ck (isO 12 E q1) <|
  ck (rgI x13) <|
  ck (rgI (M q1 0)) <|
  (if (M q1 0) ≤ x13 then
  some (1, x12, x13, E, M)
  else
  (rE E q1 1).bind fun p141 =>
  ck (isQ 6 E p141) <|
  ck (inb x11 (tE E p141).2) <|
  (rE E p141 x11.toNat).bind fun p143 =>
  ck (isIA E p143) <|
  ck (inb x13 (tE E p143).2) <|
  ck (rgI (M p143 x13.toNat)) <|
  (if (M p143 x13.toNat) = 0 then
  some (0, (x12 + 1), (x13 + 1), E, M)
  else
  some (0, (x12 + 0), (x13 + 1), E, M)))
def l_La_transferable_223 (q1 : Nat) (x8 : Int) (x9 : Int) (x11 : Int) : Nat → Ev → Mm → Int → Int → Option (Nat × Int × Int × Ev × Mm)
  | 0, _, _, _, _ => none
  | fu + 1, E, M, x12, x13 => (La_transferable_223b E M q1 x8 x9 x11 x12 x13).bind fun (t, w12, w13, F, N) => if t = 0 then l_La_transferable_223 q1 x8 x9 x11 fu F N w12 w13 else some (t, w12, w13, F, N)
def La_transferable_208b (E : Ev) (M : Mm) (q1 : Nat) (x8 : Int) (x9 : Int) (x11 : Int) : Option (Nat × Int × Int × Ev × Mm) :=
  ck (Lay E) <|
  ck (isO 12 E q1) <|
  ck (rgI x11) <|
  ck (rgI (M q1 3)) <|
  (if (M q1 3) ≤ x11 then
  some (1, x9, x11, E, M)
  else
  (l_La_transferable_223 q1 x8 x9 x11 5000 E M 0 0).bind fun (t146, v146_12, v146_13, E146, M146) =>
  ck (Gw E E146) <|
  ck (Lay E146) <|
  ck (t146 = 1) <|
  (rE E146 q1 1).bind fun p147 =>
  ck (isQ 6 E146 p147) <|
  ck (inb x11 (tE E146 p147).2) <|
  (rE E146 p147 x11.toNat).bind fun p149 =>
  ck (isIA E146 p149) <|
  ck (inb x8 (tE E146 p149).2) <|
  ck (rgI (M146 p149 x8.toNat)) <|
  (if (M146 p149 x8.toNat) = 0 then
  (rE E146 q1 2).bind fun p152 =>
  ck (isIA E146 p152) <|
  ck (inb x11 (tE E146 p152).2) <|
  ck (rgI (M146 p152 x11.toNat)) <|
  ck (psI v146_12) <|
  ck (rgI ((840 : Int) / v146_12)) <|
  nb ((x9 + ((M146 p152 x11.toNat) * ((840 : Int) / v146_12)))) fun (v157 : Int) =>
  some (0, v157, (x11 + 1), E146, M146)
  else
  some (0, (x9 + 0), (x11 + 1), E146, M146)))
def l_La_transferable_208 (q1 : Nat) (x8 : Int) : Nat → Ev → Mm → Int → Int → Option (Nat × Int × Int × Ev × Mm)
  | 0, _, _, _, _ => none
  | fu + 1, E, M, x9, x11 => (La_transferable_208b E M q1 x8 x9 x11).bind fun (t, w9, w11, F, N) => if t = 0 then l_La_transferable_208 q1 x8 fu F N w9 w11 else some (t, w9, w11, F, N)
def La_transferable_188b (E : Ev) (M : Mm) (q1 : Nat) (x7 : Int) (x8 : Int) : Option (Nat × Int × Int × Ev × Mm) :=
  ck (Lay E) <|
  ck (isO 12 E q1) <|
  ck (rgI x8) <|
  ck (rgI (M q1 0)) <|
  (if (M q1 0) ≤ x8 then
  some (1, x7, x8, E, M)
  else
  ck (rgI x7) <|
  (if x7 = 0 then
  some (1, x7, x8, E, M)
  else
  (l_La_transferable_208 q1 x8 5000 E M 0 0).bind fun (t158, v158_9, v158_11, E158, M158) =>
  ck (Gw E E158) <|
  ck (Lay E158) <|
  ck (t158 = 1) <|
  (f_B_writePile E158 M158 0 x8).bind fun (r159, M159) =>
  (f_La_reads E158 M159 r159).bind fun r160 =>
  ck (rgJ r160) <|
  ck (rgJ v158_9) <|
  (if r160 = v158_9 then
  some (0, 1, (x8 + 1), E158, M159)
  else
  some (0, 0, (x8 + 1), E158, M159))))
def l_La_transferable_188 (q1 : Nat) : Nat → Ev → Mm → Int → Int → Option (Nat × Int × Int × Ev × Mm)
  | 0, _, _, _, _ => none
  | fu + 1, E, M, x7, x8 => (La_transferable_188b E M q1 x7 x8).bind fun (t, w7, w8, F, N) => if t = 0 then l_La_transferable_188 q1 fu F N w7 w8 else some (t, w7, w8, F, N)
def La_transferable_j335 (E : Ev) (M : Mm) (x7 : Int) : Option (Int × Ev × Mm) :=
  ck (Lay E) <|
  ck (rgI x7) <|
  (if x7 = 0 then
  some (0, E, M)
  else
  (f_B_steps E M).bind fun r165 =>
  (f_B_writePile E M r165 (-1)).bind fun (r166, M166) =>
  (f_La_reads E M166 r166).bind fun r167 =>
  ck (rgJ r167) <|
  (if r167 < 0 then
  some (0, E, M166)
  else
  some (1, E, M166)))
def f_La_transferable (E : Ev) (M : Mm) (p1 : Nat) (p2 : Nat) : Option (Int × Ev × Mm) :=
  ck (Lay E) <|
  ck (isO 12 E p1) <|
  ck (isIA E p2) <|
  (f_La_next E M p2 3).bind fun (r100, M100) =>
  (f_B_transferable E M100 (1 + r100)).bind fun (r101, E101, M101) =>
  ck (Gw E E101) <|
  ck (Lay E101) <|
  (l_La_transferable_21 p1 (1 + r100) r101 5000 E101 M101 0 0).bind fun (t108, v108_5, v108_6, E108, M108) =>
  ck (Gw E101 E108) <|
  ck (Lay E108) <|
  ck (t108 = 1) <|
  (f_Lb_all E108 M108 p1).bind fun r109 =>
  (f_B_quota E108 M108).bind fun r110 =>
  ck (nnI r109) <|
  ck (psI ((1 + r100) + 1)) <|
  ck (rgI r110) <|
  ck (rgI ((r109 / ((1 + r100) + 1)) + 1)) <|
  (if r110 = ((r109 / ((1 + r100) + 1)) + 1) then
  ck (rgI (1 + r100)) <|
  ck (rgI (M108 p1 0)) <|
  ck (rgI r101) <|
  (if r101 = (min (1 + r100) (M108 p1 0)) then
  (f_In_bitCount E108 M108 v108_5).bind fun r174 =>
  ck (rgI r174) <|
  (if r174 = r101 then
  (l_La_transferable_101 p1 v108_5 5000 E108 M108 1 1).bind fun (t178, v178_7, v178_8, E178, M178) =>
  ck (Gw E108 E178) <|
  ck (Lay E178) <|
  ck (t178 = 1) <|
  (l_La_transferable_188 p1 5000 E178 M178 v178_7 0).bind fun (t179, v179_7, v179_8, E179, M179) =>
  ck (Gw E178 E179) <|
  ck (Lay E179) <|
  ck (t179 = 1) <|
  La_transferable_j335 E179 M179 v179_7
  else
  (l_La_transferable_101 p1 v108_5 5000 E108 M108 0 1).bind fun (t176, v176_7, v176_8, E176, M176) =>
  ck (Gw E108 E176) <|
  ck (Lay E176) <|
  ck (t176 = 1) <|
  (l_La_transferable_188 p1 5000 E176 M176 v176_7 0).bind fun (t177, v177_7, v177_8, E177, M177) =>
  ck (Gw E176 E177) <|
  ck (Lay E177) <|
  ck (t177 = 1) <|
  La_transferable_j335 E177 M177 v177_7)
  else
  (l_La_transferable_101 p1 v108_5 5000 E108 M108 0 1).bind fun (t172, v172_7, v172_8, E172, M172) =>
  ck (Gw E108 E172) <|
  ck (Lay E172) <|
  ck (t172 = 1) <|
  (l_La_transferable_188 p1 5000 E172 M172 v172_7 0).bind fun (t173, v173_7, v173_8, E173, M173) =>
  ck (Gw E172 E173) <|
  ck (Lay E173) <|
  ck (t173 = 1) <|
  La_transferable_j335 E173 M173 v173_7)
  else
  (l_La_transferable_101 p1 v108_5 5000 E108 M108 0 1).bind fun (t133, v133_7, v133_8, E133, M133) =>
  ck (Gw E108 E133) <|
  ck (Lay E133) <|
  ck (t133 = 1) <|
  (l_La_transferable_188 p1 5000 E133 M133 v133_7 0).bind fun (t163, v163_7, v163_8, E163, M163) =>
  ck (Gw E133 E163) <|
  ck (Lay E163) <|
  ck (t163 = 1) <|
  La_transferable_j335 E163 M163 v163_7)
def f_Bx_soleTopOf (E : Ev) (M : Mm) (x1 : Int) (x2 : Int) : Option Int :=
  (f_Bx_topOf E M x1 x2).bind fun r100 =>
  (f_In_bitCount E M r100).bind fun r101 =>
  ck (rgI r101) <|
  (if r101 = 1 then
  (f_In_bitCount E M (r100 - 1)).bind fun r103 =>
  some r103
  else
  some (-1))
def Po_changePairs_27b (E : Ev) (M : Mm) (x1 : Int) (x2 : Int) (x3 : Int) (x4 : Int) (x5 : Int) : Option (Nat × Int × Mm) :=
  ck (rgI x5) <|
  ck (rgI (M 2 2)) <|
  (if (M 2 2) ≤ x5 then
  some (1, x5, M)
  else
  (f_B_has E M x2 x5).bind fun r106 =>
  ck (rgI r106) <|
  (if r106 = 0 then
  some (0, (x5 + 1), M)
  else
  ck (inb ((x4 * 8) + x5) 64) <|
  nb (((M 45 ((x4 * 8) + x5).toNat) + x3)) fun (v109 : Int) =>
  some (0, (x5 + 1), (u2 M 45 ((x4 * 8) + x5).toNat v109))))
def l_Po_changePairs_27 (E : Ev) (x1 : Int) (x2 : Int) (x3 : Int) (x4 : Int) : Nat → Mm → Int → Option (Nat × Int × Mm)
  | 0, _, _ => none
  | fu + 1, M, x5 => (Po_changePairs_27b E M x1 x2 x3 x4 x5).bind fun (t, w5, N) => if t = 0 then l_Po_changePairs_27 E x1 x2 x3 x4 fu N w5 else some (t, w5, N)
def Po_changePairs_3b (E : Ev) (M : Mm) (x1 : Int) (x2 : Int) (x3 : Int) (x4 : Int) : Option (Nat × Int × Mm) :=
  ck (rgI x4) <|
  ck (rgI (M 2 2)) <|
  (if (M 2 2) ≤ x4 then
  some (1, x4, M)
  else
  (f_B_has E M x1 x4).bind fun r102 =>
  ck (rgI r102) <|
  (if r102 = 0 then
  some (0, (x4 + 1), M)
  else
  (l_Po_changePairs_27 E x1 x2 x3 x4 FU M 0).bind fun (t110, v110_5, M110) =>
  ck (t110 = 1) <|
  some (0, (x4 + 1), M110)))
def l_Po_changePairs_3 (E : Ev) (x1 : Int) (x2 : Int) (x3 : Int) : Nat → Mm → Int → Option (Nat × Int × Mm)
  | 0, _, _ => none
  | fu + 1, M, x4 => (Po_changePairs_3b E M x1 x2 x3 x4).bind fun (t, w4, N) => if t = 0 then l_Po_changePairs_3 E x1 x2 x3 fu N w4 else some (t, w4, N)
def f_Po_changePairs (E : Ev) (M : Mm) (x1 : Int) (x2 : Int) (x3 : Int) : Option Mm :=
  (l_Po_changePairs_3 E x1 x2 x3 FU M 0).bind fun (t111, v111_4, M111) =>
  ck (t111 = 1) <|
  some M111
def Po_change_62b (E : Ev) (M : Mm) (x1 : Int) (x2 : Int) (x4 : Int) (x5 : Int) : Option (Nat × Int × Int × Mm) :=
  ck (inb x1 31) <|
  ck (rgI x5) <|
  ck (rgI (M 7 x1.toNat)) <|
  (if (M 7 x1.toNat) ≤ x5 then
  some (1, x4, x5, M)
  else
  ck (inb x5 8) <|
  ck (nnI (M (9 + x1.toNat) x5.toNat)) <|
  ck (nnI (M 41 1)) <|
  nb ((andI (M (9 + x1.toNat) x5.toNat) (M 41 1))) fun (v111 : Int) =>
  ck (nnI x4) <|
  ck (nnI v111) <|
  (f_Po_changePairs E M v111 (dfI x4 v111) x2).bind fun M114 =>
  some (0, (dfI x4 v111), (x5 + 1), M114))
def l_Po_change_62 (E : Ev) (x1 : Int) (x2 : Int) : Nat → Mm → Int → Int → Option (Nat × Int × Int × Mm)
  | 0, _, _, _ => none
  | fu + 1, M, x4, x5 => (Po_change_62b E M x1 x2 x4 x5).bind fun (t, w4, w5, N) => if t = 0 then l_Po_change_62 E x1 x2 fu N w4 w5 else some (t, w4, w5, N)
def Po_change_122b (E : Ev) (M : Mm) (x1 : Int) (x2 : Int) (x5 : Int) : Option (Nat × Int × Mm) :=
  ck (rgI x5) <|
  ck (rgI (M 2 2)) <|
  (if (M 2 2) ≤ x5 then
  some (1, x5, M)
  else
  ck (inb x1 31) <|
  ck (nnI (M 6 x1.toNat)) <|
  ck (nnI (M 41 1)) <|
  (f_B_has E M (andI (M 6 x1.toNat) (M 41 1)) x5).bind fun r121 =>
  ck (rgI r121) <|
  (if r121 = 0 then
  some (0, (x5 + 1), M)
  else
  ck (inb x5 8) <|
  some (0, (x5 + 1), (u2 M 44 x5.toNat ((M 44 x5.toNat) + x2)))))
def l_Po_change_122 (E : Ev) (x1 : Int) (x2 : Int) : Nat → Mm → Int → Option (Nat × Int × Mm)
  | 0, _, _ => none
  | fu + 1, M, x5 => (Po_change_122b E M x1 x2 x5).bind fun (t, w5, N) => if t = 0 then l_Po_change_122 E x1 x2 fu N w5 else some (t, w5, N)
def f_Po_change (E : Ev) (M : Mm) (x1 : Int) (x2 : Int) : Option Mm :=
  ck (rgI x2) <|
  (if x2 = 0 then
  some M
  else
  ck (inb x1 31) <|
  nb (u2 (u2 M 42 x1.toNat ((M 42 x1.toNat) + x2)) 41 2 (((u2 M 42 x1.toNat ((M 42 x1.toNat) + x2)) 41 2) + x2)) fun (M102 : Mm) =>
  (f_Bx_soleTopOf E M102 x1 (M102 41 1)).bind fun r103 =>
  ck (rgI r103) <|
  (if r103 = (-1) then
  (l_Po_change_62 E x1 x2 FU M102 (M102 41 1) 0).bind fun (t115, v115_4, v115_5, M115) =>
  ck (t115 = 1) <|
  (l_Po_change_122 E x1 x2 FU M115 0).bind fun (t124, v124_5, M124) =>
  ck (t124 = 1) <|
  some M124
  else
  ck (inb r103 8) <|
  nb (((u2 M102 43 r103.toNat ((M102 43 r103.toNat) + x2)) 41 1)) fun (v126 : Int) =>
  (l_Po_change_62 E x1 x2 FU (u2 M102 43 r103.toNat ((M102 43 r103.toNat) + x2)) v126 0).bind fun (t127, v127_4, v127_5, M127) =>
  ck (t127 = 1) <|
  (l_Po_change_122 E x1 x2 FU M127 0).bind fun (t128, v128_5, M128) =>
  ck (t128 = 1) <|
  some M128))
def Po_open_44b (E : Ev) (M : Mm) (x2 : Int) : Option (Nat × Int × Mm) :=
  ck (rgI x2) <|
  ck (rgI (M 2 3)) <|
  (if (M 2 3) ≤ x2 then
  some (1, x2, M)
  else
  ck (inb x2 31) <|
  (f_Po_change E M x2 (M 5 x2.toNat)).bind fun M107 =>
  some (0, (x2 + 1), M107))
def l_Po_open_44 (E : Ev) : Nat → Mm → Int → Option (Nat × Int × Mm)
  | 0, _, _ => none
  | fu + 1, M, x2 => (Po_open_44b E M x2).bind fun (t, w2, N) => if t = 0 then l_Po_open_44 E fu N w2 else some (t, w2, N)
def f_Po_open (E : Ev) (M : Mm) (x1 : Int) : Option Mm :=
  (f_Ar_fillI E (u2 (u2 M 41 1 x1) 41 2 0) 42 0).bind fun M100 =>
  (f_Ar_fillI E M100 43 0).bind fun M101 =>
  (f_Ar_fillI E M101 44 0).bind fun M102 =>
  (f_Ar_fillI E M102 45 0).bind fun M103 =>
  (l_Po_open_44 E FU M103 0).bind fun (t108, v108_2, M108) =>
  ck (t108 = 1) <|
  some M108
def f_Po_pair (E : Ev) (M : Mm) (x1 : Int) (x2 : Int) : Option Int :=
  ck (inb ((x1 * 8) + x2) 64) <|
  some (M 45 ((x1 * 8) + x2).toNat)
def f_B_ahead (E : Ev) (M : Mm) (x1 : Int) (x2 : Int) : Option (Int × Mm) :=
  (f_B_needIndex E M x1 (M 2 2)).bind fun _u =>
  (f_B_needIndex E M x2 (M 2 2)).bind fun _u =>
  (f_Bx_everybody E M).bind fun r102 =>
  (f_Po_open E M r102).bind fun M103 =>
  (f_Po_pair E M103 x1 x2).bind fun r104 =>
  some (r104, M103)
def Lb_ahead_5b (E : Ev) (M : Mm) (q0 : Nat) (x1 : Int) (x2 : Int) (x3 : Int) (x4 : Int) : Option (Nat × Int × Int) :=
  ck (isO 12 E q0) <|
  ck (rgI x4) <|
  ck (rgI (M q0 3)) <|
  (if (M q0 3) ≤ x4 then
  some (1, x3, x4)
  else
  (rE E q0 1).bind fun p102 =>
  ck (isQ 6 E p102) <|
  ck (inb x4 (tE E p102).2) <|
  (rE E p102 x4.toNat).bind fun p104 =>
  ck (isIA E p104) <|
  ck (inb x1 (tE E p104).2) <|
  (rE E q0 1).bind fun p106 =>
  ck (isQ 6 E p106) <|
  ck (inb x4 (tE E p106).2) <|
  (rE E p106 x4.toNat).bind fun p108 =>
  ck (isIA E p108) <|
  ck (inb x2 (tE E p108).2) <|
  ck (rgI (M p104 x1.toNat)) <|
  ck (rgI (M p108 x2.toNat)) <|
  (if (M p108 x2.toNat) ≤ (M p104 x1.toNat) then
  some (0, (x3 + 0), (x4 + 1))
  else
  (rE E q0 2).bind fun p112 =>
  ck (isIA E p112) <|
  ck (inb x4 (tE E p112).2) <|
  some (0, (x3 + (M p112 x4.toNat)), (x4 + 1))))
def l_Lb_ahead_5 (E : Ev) (q0 : Nat) (x1 : Int) (x2 : Int) : Nat → Mm → Int → Int → Option (Nat × Int × Int)
  | 0, _, _, _ => none
  | fu + 1, M, x3, x4 => (Lb_ahead_5b E M q0 x1 x2 x3 x4).bind fun (t, w3, w4) => if t = 0 then l_Lb_ahead_5 E q0 x1 x2 fu M w3 w4 else some (t, w3, w4)
def f_Lb_ahead (E : Ev) (M : Mm) (p0 : Nat) (x1 : Int) (x2 : Int) : Option Int :=
  ck (isO 12 E p0) <|
  (l_Lb_ahead_5 E p0 x1 x2 FU M 0 0).bind fun (t114, v114_3, v114_4) =>
  ck (t114 = 1) <|
  some v114_3
def f_Po_beats (E : Ev) (M : Mm) (x1 : Int) (x2 : Int) : Option Int :=
  (f_Po_pair E M x1 x2).bind fun r100 =>
  (f_Po_pair E M x2 x1).bind fun r101 =>
  ck (rgI r100) <|
  ck (rgI r101) <|
  (if r100 ≤ r101 then
  some 0
  else
  some 1)
def Po_findBeaten_23b (E : Ev) (M : Mm) (x1 : Int) (x2 : Int) : Option (Nat × Int × Mm) :=
  ck (rgI x2) <|
  ck (rgI (M 2 2)) <|
  (if (M 2 2) ≤ x2 then
  some (1, x2, M)
  else
  (f_Po_beats E M x1 x2).bind fun r105 =>
  ck (rgI r105) <|
  (if r105 = 0 then
  some (0, (x2 + 1), M)
  else
  ck (inb x1 8) <|
  ck (shI x2) <|
  ck (nnI (M 46 x1.toNat)) <|
  ck (nnI (2 ^ x2.toNat)) <|
  nb ((orI (M 46 x1.toNat) (2 ^ x2.toNat))) fun (v111 : Int) =>
  some (0, (x2 + 1), (u2 M 46 x1.toNat v111))))
def l_Po_findBeaten_23 (E : Ev) (x1 : Int) : Nat → Mm → Int → Option (Nat × Int × Mm)
  | 0, _, _ => none
  | fu + 1, M, x2 => (Po_findBeaten_23b E M x1 x2).bind fun (t, w2, N) => if t = 0 then l_Po_findBeaten_23 E x1 fu N w2 else some (t, w2, N)
def Po_findBeaten_10b (E : Ev) (M : Mm) (x1 : Int) : Option (Nat × Int × Mm) :=
  ck (rgI x1) <|
  ck (rgI (M 2 2)) <|
  (if (M 2 2) ≤ x1 then
  some (1, x1, M)
  else
  (l_Po_findBeaten_23 E x1 FU M 0).bind fun (t112, v112_2, M112) =>
  ck (t112 = 1) <|
  some (0, (x1 + 1), M112))
def l_Po_findBeaten_10 (E : Ev) : Nat → Mm → Int → Option (Nat × Int × Mm)
  | 0, _, _ => none
  | fu + 1, M, x1 => (Po_findBeaten_10b E M x1).bind fun (t, w1, N) => if t = 0 then l_Po_findBeaten_10 E fu N w1 else some (t, w1, N)
def f_Po_findBeaten (E : Ev) (M : Mm) : Option Mm :=
  (f_Ar_fillI E M 46 0).bind fun M100 =>
  (l_Po_findBeaten_10 E FU M100 0).bind fun (t113, v113_1, M113) =>
  ck (t113 = 1) <|
  some M113
def Po_isBeatingSet_2b (E : Ev) (M : Mm) (x1 : Int) (x2 : Int) : Option (Nat × Int) :=
  ck (rgI x2) <|
  ck (rgI (M 2 2)) <|
  (if (M 2 2) ≤ x2 then
  some (2, x2)
  else
  (f_B_has E M x1 x2).bind fun r102 =>
  ck (rgI r102) <|
  (if r102 = 0 then
  some (0, (x2 + 1))
  else
  ck (inb x2 8) <|
  ck (nnI (M 46 x2.toNat)) <|
  ck (nnI x1) <|
  ck (rgI (orI (M 46 x2.toNat) x1)) <|
  ck (rgI (M 41 1)) <|
  (if (orI (M 46 x2.toNat) x1) = (M 41 1) then
  some (0, (x2 + 1))
  else
  some (1, x2))))
def l_Po_isBeatingSet_2 (E : Ev) (x1 : Int) : Nat → Mm → Int → Option (Nat × Int)
  | 0, _, _ => none
  | fu + 1, M, x2 => (Po_isBeatingSet_2b E M x1 x2).bind fun (t, w2) => if t = 0 then l_Po_isBeatingSet_2 E x1 fu M w2 else some (t, w2)
def f_Po_isBeatingSet (E : Ev) (M : Mm) (x1 : Int) : Option Int :=
  (l_Po_isBeatingSet_2 E x1 FU M 0).bind fun (t109, v109_2) =>
  (if t109 = 1 then
  some 0
  else (if t109 = 2 then
  some 1
  else none))
def Po_smallestBeatingSet_11b (E : Ev) (M : Mm) (x1 : Int) (x2 : Int) : Option (Nat × Int × Int × Mm) :=
  ck (rgI x2) <|
  ck (rgI (M 41 1)) <|
  (if (M 41 1) ≤ x2 then
  some (1, x1, x2, M)
  else
  (f_In_bitCount E M x2).bind fun r103 =>
  (f_In_bitCount E M x1).bind fun r104 =>
  ck (rgI r103) <|
  ck (rgI r104) <|
  (if r104 ≤ r103 then
  some (0, x1, (x2 + 1), M)
  else
  (f_Po_isBeatingSet E M x2).bind fun r107 =>
  ck (rgI r107) <|
  (if r107 = 0 then
  some (0, x1, (x2 + 1), M)
  else
  some (0, x2, (x2 + 1), M))))
def l_Po_smallestBeatingSet_11 (E : Ev) : Nat → Mm → Int → Int → Option (Nat × Int × Int × Mm)
  | 0, _, _, _ => none
  | fu + 1, M, x1, x2 => (Po_smallestBeatingSet_11b E M x1 x2).bind fun (t, w1, w2, N) => if t = 0 then l_Po_smallestBeatingSet_11 E fu N w1 w2 else some (t, w1, w2, N)
def f_Po_smallestBeatingSet (E : Ev) (M : Mm) : Option (Int × Mm) :=
  (f_Po_findBeaten E M).bind fun M100 =>
  (l_Po_smallestBeatingSet_11 E FU M100 (M100 41 1) 1).bind fun (t109, v109_1, v109_2, M109) =>
  ck (t109 = 1) <|
  some (v109_1, M109)
def f_B_beatingSet (E : Ev) (M : Mm) : Option (Int × Mm) :=
  (f_Bx_everybody E M).bind fun r100 =>
  (f_Po_open E M r100).bind fun M101 =>
  (f_Po_smallestBeatingSet E M101).bind fun (r102, M102) =>
  some (r102, M102)
def La_way_D0_6b (E : Ev) (M : Mm) (q0 : Nat) (x1 : Int) (x2 : Int) (x3 : Int) (x4 : Int) (x5 : Int) : Option (Nat × Int × Int) :=
  ck (isQ 6 E q0) <|
  ck (rgI x5) <|
  ck (rgI ((tE E q0).2 : Int)) <|
  (if ((tE E q0).2 : Int) ≤ x5 then
  some (2, x4, x5)
  else
  ck (rgI x3) <|
  ck (shI x5) <|
  (if ((x3 / 2 ^ x5.toNat) % 2) = 1 then
  some (0, x4, (x5 + 1))
  else
  ck (inb x1 (tE E q0).2) <|
  (rE E q0 x1.toNat).bind fun p105 =>
  ck (isIA E p105) <|
  ck (inb x5 (tE E p105).2) <|
  ck (inb x5 (tE E q0).2) <|
  (rE E q0 x5.toNat).bind fun p108 =>
  ck (isIA E p108) <|
  ck (inb x1 (tE E p108).2) <|
  ck (rgI (M p105 x5.toNat)) <|
  ck (rgI (M p108 x1.toNat)) <|
  (if (M p108 x1.toNat) < (M p105 x5.toNat) then
  ck (rgI x2) <|
  (if x5 = x2 then
  (rE E q0 x1.toNat).bind fun p113 =>
  ck (isIA E p113) <|
  ck (inb x5 (tE E p113).2) <|
  ck (rgI x4) <|
  ck (rgI (M p113 x5.toNat)) <|
  some (0, (max x4 (M p113 x5.toNat)), (x5 + 1))
  else
  some (1, x4, x5))
  else
  some (0, x4, (x5 + 1)))))
def l_La_way_D0_6 (E : Ev) (q0 : Nat) (x1 : Int) (x2 : Int) (x3 : Int) : Nat → Mm → Int → Int → Option (Nat × Int × Int)
  | 0, _, _, _ => none
  | fu + 1, M, x4, x5 => (La_way_D0_6b E M q0 x1 x2 x3 x4 x5).bind fun (t, w4, w5) => if t = 0 then l_La_way_D0_6 E q0 x1 x2 x3 fu M w4 w5 else some (t, w4, w5)
def f_La_way_D0 (E : Ev) (M : Mm) (p0 : Nat) (x1 : Int) (x2 : Int) (x3 : Int) : Option Int :=
  ck (isQ 6 E p0) <|
  (l_La_way_D0_6 E p0 x1 x2 x3 FU M 0 0).bind fun (t117, v117_4, v117_5) =>
  (if t117 = 1 then
  ck (inb x1 (tE E p0).2) <|
  (rE E p0 x1.toNat).bind fun p119 =>
  ck (isIA E p119) <|
  ck (inb v117_5 (tE E p119).2) <|
  ck (shI v117_5) <|
  ck (nnI x3) <|
  ck (nnI (2 ^ v117_5.toNat)) <|
  none
  else (if t117 = 2 then
  some v117_4
  else none))
def La_way_D1_j78 (E : Ev) (M : Mm) (q0 : Nat) (x1 : Int) (x2 : Int) (x3 : Int) (x4 : Int) (x5 : Int) (y0 : Int) : Option (Nat × Int × Int) :=
  ck (isQ 6 E q0) <|
  ck (rgI x4) <|
  ck (rgI y0) <|
  some (0, (max x4 y0), (x5 + 1))
def La_way_D1_6b (E : Ev) (M : Mm) (q0 : Nat) (x1 : Int) (x2 : Int) (x3 : Int) (x4 : Int) (x5 : Int) : Option (Nat × Int × Int) :=
  ck (isQ 6 E q0) <|
  ck (rgI x5) <|
  ck (rgI ((tE E q0).2 : Int)) <|
  (if ((tE E q0).2 : Int) ≤ x5 then
  some (1, x4, x5)
  else
  ck (rgI x3) <|
  ck (shI x5) <|
  (if ((x3 / 2 ^ x5.toNat) % 2) = 1 then
  some (0, x4, (x5 + 1))
  else
  ck (inb x1 (tE E q0).2) <|
  (rE E q0 x1.toNat).bind fun p105 =>
  ck (isIA E p105) <|
  ck (inb x5 (tE E p105).2) <|
  ck (inb x5 (tE E q0).2) <|
  (rE E q0 x5.toNat).bind fun p108 =>
  ck (isIA E p108) <|
  ck (inb x1 (tE E p108).2) <|
  ck (rgI (M p105 x5.toNat)) <|
  ck (rgI (M p108 x1.toNat)) <|
  (if (M p108 x1.toNat) < (M p105 x5.toNat) then
  ck (rgI x2) <|
  (if x5 = x2 then
  (rE E q0 x1.toNat).bind fun p123 =>
  ck (isIA E p123) <|
  ck (inb x5 (tE E p123).2) <|
  La_way_D1_j78 E M q0 x1 x2 x3 x4 x5 (M p123 x5.toNat)
  else
  (rE E q0 x1.toNat).bind fun p113 =>
  ck (isIA E p113) <|
  ck (inb x5 (tE E p113).2) <|
  ck (shI x5) <|
  ck (nnI x3) <|
  ck (nnI (2 ^ x5.toNat)) <|
  (f_La_way_D0 E M q0 x5 x2 (orI x3 (2 ^ x5.toNat))).bind fun r118 =>
  ck (rgI (M p113 x5.toNat)) <|
  ck (rgI r118) <|
  La_way_D1_j78 E M q0 x1 x2 x3 x4 x5 (min (M p113 x5.toNat) r118))
  else
  some (0, x4, (x5 + 1)))))
def l_La_way_D1_6 (E : Ev) (q0 : Nat) (x1 : Int) (x2 : Int) (x3 : Int) : Nat → Mm → Int → Int → Option (Nat × Int × Int)
  | 0, _, _, _ => none
  | fu + 1, M, x4, x5 => (La_way_D1_6b E M q0 x1 x2 x3 x4 x5).bind fun (t, w4, w5) => if t = 0 then l_La_way_D1_6 E q0 x1 x2 x3 fu M w4 w5 else some (t, w4, w5)
def f_La_way_D1 (E : Ev) (M : Mm) (p0 : Nat) (x1 : Int) (x2 : Int) (x3 : Int) : Option Int :=
  ck (isQ 6 E p0) <|
  (l_La_way_D1_6 E p0 x1 x2 x3 FU M 0 0).bind fun (t125, v125_4, v125_5) =>
  ck (t125 = 1) <|
  some v125_4
def La_way_D2_j78 (E : Ev) (M : Mm) (q0 : Nat) (x1 : Int) (x2 : Int) (x3 : Int) (x4 : Int) (x5 : Int) (y0 : Int) : Option (Nat × Int × Int) :=
  ck (isQ 6 E q0) <|
  ck (rgI x4) <|
  ck (rgI y0) <|
  some (0, (max x4 y0), (x5 + 1))
def La_way_D2_6b (E : Ev) (M : Mm) (q0 : Nat) (x1 : Int) (x2 : Int) (x3 : Int) (x4 : Int) (x5 : Int) : Option (Nat × Int × Int) :=
  ck (isQ 6 E q0) <|
  ck (rgI x5) <|
  ck (rgI ((tE E q0).2 : Int)) <|
  (if ((tE E q0).2 : Int) ≤ x5 then
  some (1, x4, x5)
  else
  ck (rgI x3) <|
  ck (shI x5) <|
  (if ((x3 / 2 ^ x5.toNat) % 2) = 1 then
  some (0, x4, (x5 + 1))
  else
  ck (inb x1 (tE E q0).2) <|
  (rE E q0 x1.toNat).bind fun p105 =>
  ck (isIA E p105) <|
  ck (inb x5 (tE E p105).2) <|
  ck (inb x5 (tE E q0).2) <|
  (rE E q0 x5.toNat).bind fun p108 =>
  ck (isIA E p108) <|
  ck (inb x1 (tE E p108).2) <|
  ck (rgI (M p105 x5.toNat)) <|
  ck (rgI (M p108 x1.toNat)) <|
  (if (M p108 x1.toNat) < (M p105 x5.toNat) then
  ck (rgI x2) <|
  (if x5 = x2 then
  (rE E q0 x1.toNat).bind fun p123 =>
  ck (isIA E p123) <|
  ck (inb x5 (tE E p123).2) <|
  La_way_D2_j78 E M q0 x1 x2 x3 x4 x5 (M p123 x5.toNat)
  else
  (rE E q0 x1.toNat).bind fun p113 =>
  ck (isIA E p113) <|
  ck (inb x5 (tE E p113).2) <|
  ck (shI x5) <|
  ck (nnI x3) <|
  ck (nnI (2 ^ x5.toNat)) <|
  (f_La_way_D1 E M q0 x5 x2 (orI x3 (2 ^ x5.toNat))).bind fun r118 =>
  ck (rgI (M p113 x5.toNat)) <|
  ck (rgI r118) <|
  La_way_D2_j78 E M q0 x1 x2 x3 x4 x5 (min (M p113 x5.toNat) r118))
  else
  some (0, x4, (x5 + 1)))))
def l_La_way_D2_6 (E : Ev) (q0 : Nat) (x1 : Int) (x2 : Int) (x3 : Int) : Nat → Mm → Int → Int → Option (Nat × Int × Int)
  | 0, _, _, _ => none
  | fu + 1, M, x4, x5 => (La_way_D2_6b E M q0 x1 x2 x3 x4 x5).bind fun (t, w4, w5) => if t = 0 then l_La_way_D2_6 E q0 x1 x2 x3 fu M w4 w5 else some (t, w4, w5)
def f_La_way_D2 (E : Ev) (M : Mm) (p0 : Nat) (x1 : Int) (x2 : Int) (x3 : Int) : Option Int :=
  ck (isQ 6 E p0) <|
  (l_La_way_D2_6 E p0 x1 x2 x3 FU M 0 0).bind fun (t125, v125_4, v125_5) =>
  ck (t125 = 1) <|
  some v125_4
def La_way_D3_j78 (E : Ev) (M : Mm) (q0 : Nat) (x1 : Int) (x2 : Int) (x3 : Int) (x4 : Int) (x5 : Int) (y0 : Int) : Option (Nat × Int × Int) :=
  ck (isQ 6 E q0) <|
  ck (rgI x4) <|
  ck (rgI y0) <|
  some (0, (max x4 y0), (x5 + 1))
def La_way_D3_6b (E : Ev) (M : Mm) (q0 : Nat) (x1 : Int) (x2 : Int) (x3 : Int) (x4 : Int) (x5 : Int) : Option (Nat × Int × Int) :=
  ck (isQ 6 E q0) <|
  ck (rgI x5) <|
  ck (rgI ((tE E q0).2 : Int)) <|
  (if ((tE E q0).2 : Int) ≤ x5 then
  some (1, x4, x5)
  else
  ck (rgI x3) <|
  ck (shI x5) <|
  (if ((x3 / 2 ^ x5.toNat) % 2) = 1 then
  some (0, x4, (x5 + 1))
  else
  ck (inb x1 (tE E q0).2) <|
  (rE E q0 x1.toNat).bind fun p105 =>
  ck (isIA E p105) <|
  ck (inb x5 (tE E p105).2) <|
  ck (inb x5 (tE E q0).2) <|
  (rE E q0 x5.toNat).bind fun p108 =>
  ck (isIA E p108) <|
  ck (inb x1 (tE E p108).2) <|
  ck (rgI (M p105 x5.toNat)) <|
  ck (rgI (M p108 x1.toNat)) <|
  (if (M p108 x1.toNat) < (M p105 x5.toNat) then
  ck (rgI x2) <|
  (if x5 = x2 then
  (rE E q0 x1.toNat).bind fun p123 =>
  ck (isIA E p123) <|
  ck (inb x5 (tE E p123).2) <|
  La_way_D3_j78 E M q0 x1 x2 x3 x4 x5 (M p123 x5.toNat)
  else
  (rE E q0 x1.toNat).bind fun p113 =>
  ck (isIA E p113) <|
  ck (inb x5 (tE E p113).2) <|
  ck (shI x5) <|
  ck (nnI x3) <|
  ck (nnI (2 ^ x5.toNat)) <|
  (f_La_way_D2 E M q0 x5 x2 (orI x3 (2 ^ x5.toNat))).bind fun r118 =>
  ck (rgI (M p113 x5.toNat)) <|
  ck (rgI r118) <|
  La_way_D3_j78 E M q0 x1 x2 x3 x4 x5 (min (M p113 x5.toNat) r118))
  else
  some (0, x4, (x5 + 1)))))
def l_La_way_D3_6 (E : Ev) (q0 : Nat) (x1 : Int) (x2 : Int) (x3 : Int) : Nat → Mm → Int → Int → Option (Nat × Int × Int)
  | 0, _, _, _ => none
  | fu + 1, M, x4, x5 => (La_way_D3_6b E M q0 x1 x2 x3 x4 x5).bind fun (t, w4, w5) => if t = 0 then l_La_way_D3_6 E q0 x1 x2 x3 fu M w4 w5 else some (t, w4, w5)
def f_La_way_D3 (E : Ev) (M : Mm) (p0 : Nat) (x1 : Int) (x2 : Int) (x3 : Int) : Option Int :=
  ck (isQ 6 E p0) <|
  (l_La_way_D3_6 E p0 x1 x2 x3 FU M 0 0).bind fun (t125, v125_4, v125_5) =>
  ck (t125 = 1) <|
  some v125_4
def f_Po_path (E : Ev) (M : Mm) (x1 : Int) (x2 : Int) : Option Int :=
  ck (inb ((x1 * 8) + x2) 64) <|
  some (M 47 ((x1 * 8) + x2).toNat)
def Po_widenPaths_10b (E : Ev) (M : Mm) (x1 : Int) (x2 : Int) (x3 : Int) (x4 : Int) : Option (Nat × Int × Mm) :=
  ck (rgI x4) <|
  ck (rgI (M 2 2)) <|
  (if (M 2 2) ≤ x4 then
  some (1, x4, M)
  else
  (f_Po_path E M x2 x4).bind fun r103 =>
  ck (rgI x3) <|
  ck (rgI r103) <|
  ck (rgI x1) <|
  (if x4 = x1 then
  some (0, (x4 + 1), M)
  else
  (f_Po_path E M x1 x4).bind fun r107 =>
  ck (rgI r107) <|
  (if (min x3 r103) ≤ r107 then
  some (0, (x4 + 1), M)
  else
  ck (inb ((x1 * 8) + x4) 64) <|
  some (0, (x4 + 1), (u2 M 47 ((x1 * 8) + x4).toNat (min x3 r103))))))
def l_Po_widenPaths_10 (E : Ev) (x1 : Int) (x2 : Int) (x3 : Int) : Nat → Mm → Int → Option (Nat × Int × Mm)
  | 0, _, _ => none
  | fu + 1, M, x4 => (Po_widenPaths_10b E M x1 x2 x3 x4).bind fun (t, w4, N) => if t = 0 then l_Po_widenPaths_10 E x1 x2 x3 fu N w4 else some (t, w4, N)
def f_Po_widenPaths (E : Ev) (M : Mm) (x1 : Int) (x2 : Int) : Option Mm :=
  (f_Po_path E M x1 x2).bind fun r100 =>
  (l_Po_widenPaths_10 E x1 x2 r100 FU M 0).bind fun (t110, v110_4, M110) =>
  ck (t110 = 1) <|
  some M110
def Po_findPaths_j55 (E : Ev) (M : Mm) (x1 : Int) (x2 : Int) (y0 : Int) (y1 : Int) (y2 : Nat) : Option (Nat × Int × Mm) :=
  ck (isIA E y2) <|
  ck (inb y1 (tE E y2).2) <|
  some (0, (x2 + 1), (u2 M y2 y1.toNat y0))
def Po_findPaths_15b (E : Ev) (M : Mm) (x1 : Int) (x2 : Int) : Option (Nat × Int × Mm) :=
  ck (rgI x2) <|
  ck (rgI (M 2 2)) <|
  (if (M 2 2) ≤ x2 then
  some (1, x2, M)
  else
  (f_Po_beats E M x1 x2).bind fun r104 =>
  ck (rgI r104) <|
  (if r104 = 0 then
  Po_findPaths_j55 E M x1 x2 0 ((x1 * 8) + x2) 47
  else
  (f_Po_pair E M x1 x2).bind fun r107 =>
  Po_findPaths_j55 E M x1 x2 r107 ((x1 * 8) + x2) 47))
def l_Po_findPaths_15 (E : Ev) (x1 : Int) : Nat → Mm → Int → Option (Nat × Int × Mm)
  | 0, _, _ => none
  | fu + 1, M, x2 => (Po_findPaths_15b E M x1 x2).bind fun (t, w2, N) => if t = 0 then l_Po_findPaths_15 E x1 fu N w2 else some (t, w2, N)
def Po_findPaths_2b (E : Ev) (M : Mm) (x1 : Int) : Option (Nat × Int × Mm) :=
  ck (rgI x1) <|
  ck (rgI (M 2 2)) <|
  (if (M 2 2) ≤ x1 then
  some (1, x1, M)
  else
  (l_Po_findPaths_15 E x1 FU M 0).bind fun (t108, v108_2, M108) =>
  ck (t108 = 1) <|
  some (0, (x1 + 1), M108))
def l_Po_findPaths_2 (E : Ev) : Nat → Mm → Int → Option (Nat × Int × Mm)
  | 0, _, _ => none
  | fu + 1, M, x1 => (Po_findPaths_2b E M x1).bind fun (t, w1, N) => if t = 0 then l_Po_findPaths_2 E fu N w1 else some (t, w1, N)
def Po_findPaths_83b (E : Ev) (M : Mm) (x1 : Int) (x2 : Int) : Option (Nat × Int × Mm) :=
  ck (rgI x2) <|
  ck (rgI (M 2 2)) <|
  (if (M 2 2) ≤ x2 then
  some (1, x2, M)
  else
  ck (rgI x1) <|
  (if x2 = x1 then
  some (0, (x2 + 1), M)
  else
  (f_Po_path E M x2 x1).bind fun r115 =>
  ck (rgI r115) <|
  (if r115 ≤ 0 then
  some (0, (x2 + 1), M)
  else
  (f_Po_widenPaths E M x2 x1).bind fun M117 =>
  some (0, (x2 + 1), M117))))
def l_Po_findPaths_83 (E : Ev) (x1 : Int) : Nat → Mm → Int → Option (Nat × Int × Mm)
  | 0, _, _ => none
  | fu + 1, M, x2 => (Po_findPaths_83b E M x1 x2).bind fun (t, w2, N) => if t = 0 then l_Po_findPaths_83 E x1 fu N w2 else some (t, w2, N)
def Po_findPaths_70b (E : Ev) (M : Mm) (x1 : Int) : Option (Nat × Int × Mm) :=
  ck (rgI x1) <|
  ck (rgI (M 2 2)) <|
  (if (M 2 2) ≤ x1 then
  some (1, x1, M)
  else
  (l_Po_findPaths_83 E x1 FU M 0).bind fun (t118, v118_2, M118) =>
  ck (t118 = 1) <|
  some (0, (x1 + 1), M118))
def l_Po_findPaths_70 (E : Ev) : Nat → Mm → Int → Option (Nat × Int × Mm)
  | 0, _, _ => none
  | fu + 1, M, x1 => (Po_findPaths_70b E M x1).bind fun (t, w1, N) => if t = 0 then l_Po_findPaths_70 E fu N w1 else some (t, w1, N)
def f_Po_findPaths (E : Ev) (M : Mm) : Option Mm :=
  (l_Po_findPaths_2 E FU M 0).bind fun (t109, v109_1, M109) =>
  ck (t109 = 1) <|
  (l_Po_findPaths_70 E FU M109 0).bind fun (t119, v119_1, M119) =>
  ck (t119 = 1) <|
  some M119
def f_B_strongestPath (E : Ev) (M : Mm) (x1 : Int) (x2 : Int) : Option (Int × Mm) :=
  (f_B_needIndex E M x1 (M 2 2)).bind fun _u =>
  (f_B_needIndex E M x2 (M 2 2)).bind fun _u =>
  (f_Bx_everybody E M).bind fun r102 =>
  (f_Po_open E M r102).bind fun M103 =>
  (f_Po_findPaths E M103).bind fun M104 =>
  (f_Po_path E M104 x1 x2).bind fun r105 =>
  some (r105, M104)
def Po_beaterOfAll_6b (E : Ev) (M : Mm) (x1 : Int) : Option (Nat × Int × Mm) :=
  ck (rgI x1) <|
  ck (rgI (M 2 2)) <|
  (if (M 2 2) ≤ x1 then
  some (2, x1, M)
  else
  ck (inb x1 8) <|
  ck (shI x1) <|
  ck (nnI (M 41 1)) <|
  ck (nnI (2 ^ x1.toNat)) <|
  ck (rgI (M 46 x1.toNat)) <|
  (if (M 46 x1.toNat) = (dfI (M 41 1) (2 ^ x1.toNat)) then
  some (1, x1, M)
  else
  some (0, (x1 + 1), M)))
def l_Po_beaterOfAll_6 (E : Ev) : Nat → Mm → Int → Option (Nat × Int × Mm)
  | 0, _, _ => none
  | fu + 1, M, x1 => (Po_beaterOfAll_6b E M x1).bind fun (t, w1, N) => if t = 0 then l_Po_beaterOfAll_6 E fu N w1 else some (t, w1, N)
def f_Po_beaterOfAll (E : Ev) (M : Mm) : Option (Int × Mm) :=
  (f_Po_findBeaten E M).bind fun M100 =>
  (l_Po_beaterOfAll_6 E FU M100 0).bind fun (t108, v108_1, M108) =>
  (if t108 = 1 then
  some (v108_1, M108)
  else (if t108 = 2 then
  some ((-1), M108)
  else none))
def f_B_beatsAll (E : Ev) (M : Mm) : Option (Int × Mm) :=
  (f_Bx_everybody E M).bind fun r100 =>
  (f_Po_open E M r100).bind fun M101 =>
  (f_Po_beaterOfAll E M101).bind fun (r102, M102) =>
  some (r102, M102)
def f_B_needPlace (E : Ev) (M : Mm) (x0 : Int) (x1 : Int) : Option Unit :=
  ck (rgI x0) <|
  (if x0 < 0 then
  none
  else
  ck (rgI x1) <|
  (if x0 < x1 then
  some ()
  else
  none))
def Po_distanceWithFirst_19b (E : Ev) (M : Mm) (x2 : Int) (x3 : Int) (x4 : Int) (x6 : Int) : Option (Nat × Int × Int) :=
  ck (rgI x6) <|
  ck (rgI (M 2 2)) <|
  (if (M 2 2) ≤ x6 then
  some (1, x4, x6)
  else
  (f_B_has E M x3 x6).bind fun r107 =>
  ck (rgI r107) <|
  (if r107 = 0 then
  some (0, x4, (x6 + 1))
  else
  (f_Po_pair E M x6 x2).bind fun r109 =>
  ck (rgI r109) <|
  some (0, (x4 + r109), (x6 + 1))))
def l_Po_distanceWithFirst_19 (E : Ev) (x2 : Int) (x3 : Int) : Nat → Mm → Int → Int → Option (Nat × Int × Int)
  | 0, _, _, _ => none
  | fu + 1, M, x4, x6 => (Po_distanceWithFirst_19b E M x2 x3 x4 x6).bind fun (t, w4, w6) => if t = 0 then l_Po_distanceWithFirst_19 E x2 x3 fu M w4 w6 else some (t, w4, w6)
def f_Po_distanceWithFirst (E : Ev) (M : Mm) (x1 : Int) (x2 : Int) : Option Int :=
  ck (shI x2) <|
  ck (nnI x1) <|
  ck (nnI (2 ^ x2.toNat)) <|
  ck (inb (dfI x1 (2 ^ x2.toNat)) 256) <|
  nb ((M 50 (dfI x1 (2 ^ x2.toNat)).toNat)) fun (v104 : Int) =>
  (l_Po_distanceWithFirst_19 E x2 (dfI x1 (2 ^ x2.toNat)) FU M v104 0).bind fun (t111, v111_4, v111_6) =>
  ck (t111 = 1) <|
  some v111_4
def Po_findDistances_24b (E : Ev) (M : Mm) (x1 : Int) (x2 : Int) (x4 : Int) : Option (Nat × Int × Int × Mm) :=
  ck (rgI x4) <|
  ck (rgI (M 2 2)) <|
  (if (M 2 2) ≤ x4 then
  some (1, x2, x4, M)
  else
  (f_B_has E M x1 x4).bind fun r104 =>
  ck (rgI r104) <|
  (if r104 = 0 then
  some (0, x2, (x4 + 1), M)
  else
  (f_Po_distanceWithFirst E M x1 x4).bind fun r106 =>
  ck (rgJ x2) <|
  (if x2 = (-1) then
  some (0, r106, (x4 + 1), M)
  else
  ck (rgJ r106) <|
  some (0, (min x2 r106), (x4 + 1), M))))
def l_Po_findDistances_24 (E : Ev) (x1 : Int) : Nat → Mm → Int → Int → Option (Nat × Int × Int × Mm)
  | 0, _, _, _ => none
  | fu + 1, M, x2, x4 => (Po_findDistances_24b E M x1 x2 x4).bind fun (t, w2, w4, N) => if t = 0 then l_Po_findDistances_24 E x1 fu N w2 w4 else some (t, w2, w4, N)
def Po_findDistances_9b (E : Ev) (M : Mm) (x1 : Int) : Option (Nat × Int × Mm) :=
  ck (rgI x1) <|
  ck (rgI (M 41 1)) <|
  (if (M 41 1) < x1 then
  some (1, x1, M)
  else
  (l_Po_findDistances_24 E x1 FU M (-1) 0).bind fun (t109, v109_2, v109_4, M109) =>
  ck (t109 = 1) <|
  ck (inb x1 256) <|
  some (0, (x1 + 1), (u2 M109 50 x1.toNat v109_2)))
def l_Po_findDistances_9 (E : Ev) : Nat → Mm → Int → Option (Nat × Int × Mm)
  | 0, _, _ => none
  | fu + 1, M, x1 => (Po_findDistances_9b E M x1).bind fun (t, w1, N) => if t = 0 then l_Po_findDistances_9 E fu N w1 else some (t, w1, N)
def f_Po_findDistances (E : Ev) (M : Mm) : Option Mm :=
  (l_Po_findDistances_9 E FU (u2 M 50 0 0) 1).bind fun (t111, v111_1, M111) =>
  ck (t111 = 1) <|
  some M111
def Po_firstOfConsensus_2b (E : Ev) (M : Mm) (x1 : Int) (x2 : Int) : Option (Nat × Int) :=
  ck (rgI x2) <|
  ck (rgI (M 2 2)) <|
  (if (M 2 2) ≤ x2 then
  some (2, x2)
  else
  (f_B_has E M x1 x2).bind fun r102 =>
  ck (rgI r102) <|
  (if r102 = 0 then
  some (0, (x2 + 1))
  else
  (f_Po_distanceWithFirst E M x1 x2).bind fun r104 =>
  ck (inb x1 256) <|
  ck (rgJ r104) <|
  ck (rgJ (M 50 x1.toNat)) <|
  (if r104 = (M 50 x1.toNat) then
  some (1, x2)
  else
  some (0, (x2 + 1)))))
def l_Po_firstOfConsensus_2 (E : Ev) (x1 : Int) : Nat → Mm → Int → Option (Nat × Int)
  | 0, _, _ => none
  | fu + 1, M, x2 => (Po_firstOfConsensus_2b E M x1 x2).bind fun (t, w2) => if t = 0 then l_Po_firstOfConsensus_2 E x1 fu M w2 else some (t, w2)
def f_Po_firstOfConsensus (E : Ev) (M : Mm) (x1 : Int) : Option Int :=
  (l_Po_firstOfConsensus_2 E x1 FU M 0).bind fun (t108, v108_2) =>
  (if t108 = 1 then
  some v108_2
  else (if t108 = 2 then
  some 0
  else none))
def Po_consensusPlace_10b (E : Ev) (M : Mm) (x1 : Int) (x2 : Int) (x3 : Int) (x4 : Int) : Option (Nat × Int × Int × Int) :=
  ck (rgI x4) <|
  ck (rgI x1) <|
  (if x1 < x4 then
  some (1, x2, x3, x4)
  else
  ck (rgI x2) <|
  (if x2 = 0 then
  some (1, x2, x3, x4)
  else
  (f_Po_firstOfConsensus E M x2).bind fun r103 =>
  ck (shI r103) <|
  ck (nnI x2) <|
  ck (nnI (2 ^ r103.toNat)) <|
  some (0, (dfI x2 (2 ^ r103.toNat)), r103, (x4 + 1))))
def l_Po_consensusPlace_10 (E : Ev) (x1 : Int) : Nat → Mm → Int → Int → Int → Option (Nat × Int × Int × Int)
  | 0, _, _, _, _ => none
  | fu + 1, M, x2, x3, x4 => (Po_consensusPlace_10b E M x1 x2 x3 x4).bind fun (t, w2, w3, w4) => if t = 0 then l_Po_consensusPlace_10 E x1 fu M w2 w3 w4 else some (t, w2, w3, w4)
def f_Po_consensusPlace (E : Ev) (M : Mm) (x1 : Int) : Option Int :=
  (l_Po_consensusPlace_10 E x1 FU M (M 41 1) (-1) 0).bind fun (t107, v107_2, v107_3, v107_4) =>
  ck (t107 = 1) <|
  some v107_3
def f_B_consensusAt (E : Ev) (M : Mm) (x1 : Int) : Option (Int × Mm) :=
  (f_B_needPlace E M x1 (M 2 2)).bind fun _u =>
  (f_Bx_everybody E M).bind fun r101 =>
  (f_Po_open E M r101).bind fun M102 =>
  (f_Po_findDistances E M102).bind fun M103 =>
  (f_Po_consensusPlace E M103 x1).bind fun r104 =>
  some (r104, M103)
def Po_winnersByPaths_24b (E : Ev) (M : Mm) (x2 : Int) (x1 : Int) (x3 : Int) : Option (Nat × Int × Int × Mm) :=
  ck (rgI x3) <|
  ck (rgI (M 2 2)) <|
  (if (M 2 2) ≤ x3 then
  some (1, x1, x3, M)
  else
  (f_Po_path E M x3 x2).bind fun r105 =>
  (f_Po_path E M x2 x3).bind fun r106 =>
  ck (rgI r105) <|
  ck (rgI r106) <|
  (if r105 ≤ r106 then
  some (0, x1, (x3 + 1), M)
  else
  ck (shI x2) <|
  ck (nnI x1) <|
  ck (nnI (2 ^ x2.toNat)) <|
  some (0, (dfI x1 (2 ^ x2.toNat)), (x3 + 1), M)))
def l_Po_winnersByPaths_24 (E : Ev) (x2 : Int) : Nat → Mm → Int → Int → Option (Nat × Int × Int × Mm)
  | 0, _, _, _ => none
  | fu + 1, M, x1, x3 => (Po_winnersByPaths_24b E M x2 x1 x3).bind fun (t, w1, w3, N) => if t = 0 then l_Po_winnersByPaths_24 E x2 fu N w1 w3 else some (t, w1, w3, N)
def Po_winnersByPaths_11b (E : Ev) (M : Mm) (x1 : Int) (x2 : Int) : Option (Nat × Int × Int × Mm) :=
  ck (rgI x2) <|
  ck (rgI (M 2 2)) <|
  (if (M 2 2) ≤ x2 then
  some (1, x1, x2, M)
  else
  (l_Po_winnersByPaths_24 E x2 FU M x1 0).bind fun (t112, v112_1, v112_3, M112) =>
  ck (t112 = 1) <|
  some (0, v112_1, (x2 + 1), M112))
def l_Po_winnersByPaths_11 (E : Ev) : Nat → Mm → Int → Int → Option (Nat × Int × Int × Mm)
  | 0, _, _, _ => none
  | fu + 1, M, x1, x2 => (Po_winnersByPaths_11b E M x1 x2).bind fun (t, w1, w2, N) => if t = 0 then l_Po_winnersByPaths_11 E fu N w1 w2 else some (t, w1, w2, N)
def f_Po_winnersByPaths (E : Ev) (M : Mm) : Option (Int × Mm) :=
  (f_Po_findPaths E M).bind fun M100 =>
  (l_Po_winnersByPaths_11 E FU M100 (M100 41 1) 0).bind fun (t113, v113_1, v113_2, M113) =>
  ck (t113 = 1) <|
  some (v113_1, M113)
def f_B_pathWinners (E : Ev) (M : Mm) : Option (Int × Mm) :=
  (f_Bx_everybody E M).bind fun r100 =>
  (f_Po_open E M r100).bind fun M101 =>
  (f_Po_winnersByPaths E M101).bind fun (r102, M102) =>
  some (r102, M102)
def f_B_consensusDistance (E : Ev) (M : Mm) : Option (Int × Mm) :=
  (f_Bx_everybody E M).bind fun r100 =>
  (f_Po_open E M r100).bind fun M101 =>
  (f_Po_findDistances E M101).bind fun M102 =>
  (f_Bx_everybody E M102).bind fun r103 =>
  ck (inb r103 256) <|
  some ((M102 50 r103.toNat), M102)
def La_pairs_j64 (E : Ev) (M : Mm) (q1 : Nat) (q2 : Nat) (x3 : Int) (x4 : Int) (x5 : Int) (y0 : Int) (y1 : Int) (y2 : Nat) : Option (Nat × Int × Int × Ev × Mm) :=
  ck (Lay E) <|
  ck (isO 12 E q1) <|
  ck (isQ 6 E q2) <|
  ck (isIA E y2) <|
  ck (inb y1 (tE E y2).2) <|
  ck (rgI x3) <|
  (if x3 = 0 then
  some (0, 0, (x5 + 1), E, (u2 M y2 y1.toNat y0))
  else
  (f_B_ahead E (u2 M y2 y1.toNat y0) x4 x5).bind fun (r112, M112) =>
  ck (inb x4 (tE E q2).2) <|
  (rE E q2 x4.toNat).bind fun p114 =>
  ck (isIA E p114) <|
  ck (inb x5 (tE E p114).2) <|
  ck (rgI r112) <|
  ck (rgI (M112 p114 x5.toNat)) <|
  (if r112 = (M112 p114 x5.toNat) then
  some (0, 1, (x5 + 1), E, M112)
  else
  some (0, 0, (x5 + 1), E, M112)))
def La_pairs_30b (E : Ev) (M : Mm) (q1 : Nat) (q2 : Nat) (x4 : Int) (x3 : Int) (x5 : Int) : Option (Nat × Int × Int × Ev × Mm) :=
  ck (Lay E) <|
  ck (isO 12 E q1) <|
  ck (isQ 6 E q2) <|
  ck (rgI x5) <|
  ck (rgI (M q1 0)) <|
  (if (M q1 0) ≤ x5 then
  some (1, x3, x5, E, M)
  else
  ck (inb x4 (tE E q2).2) <|
  (rE E q2 x4.toNat).bind fun p108 =>
  ck (isIA E p108) <|
  (if x4 = x5 then
  La_pairs_j64 E M q1 q2 x3 x4 x5 0 x5 p108
  else
  (f_Lb_ahead E M q1 x4 x5).bind fun r109 =>
  La_pairs_j64 E M q1 q2 x3 x4 x5 r109 x5 p108))
def l_La_pairs_30 (q1 : Nat) (q2 : Nat) (x4 : Int) : Nat → Ev → Mm → Int → Int → Option (Nat × Int × Int × Ev × Mm)
  | 0, _, _, _, _ => none
  | fu + 1, E, M, x3, x5 => (La_pairs_30b E M q1 q2 x4 x3 x5).bind fun (t, w3, w5, F, N) => if t = 0 then l_La_pairs_30 q1 q2 x4 fu F N w3 w5 else some (t, w3, w5, F, N)
def La_pairs_18b (E : Ev) (M : Mm) (q1 : Nat) (q2 : Nat) (x3 : Int) (x4 : Int) : Option (Nat × Int × Int × Ev × Mm) :=
  ck (Lay E) <|
  ck (isO 12 E q1) <|
  ck (isQ 6 E q2) <|
  ck (rgI x4) <|
  ck (rgI (M q1 0)) <|
  (if (M q1 0) ≤ x4 then
  some (1, x3, x4, E, M)
  else
  (l_La_pairs_30 q1 q2 x4 5000 E M x3 0).bind fun (t118, v118_3, v118_5, E118, M118) =>
  ck (Gw E E118) <|
  ck (Lay E118) <|
  ck (t118 = 1) <|
  some (0, v118_3, (x4 + 1), E118, M118))
def l_La_pairs_18 (q1 : Nat) (q2 : Nat) : Nat → Ev → Mm → Int → Int → Option (Nat × Int × Int × Ev × Mm)
  | 0, _, _, _, _ => none
  | fu + 1, E, M, x3, x4 => (La_pairs_18b E M q1 q2 x3 x4).bind fun (t, w3, w4, F, N) => if t = 0 then l_La_pairs_18 q1 q2 fu F N w3 w4 else some (t, w3, w4, F, N)
def La_pairs_j251 (E : Ev) (M : Mm) (q1 : Nat) (q2 : Nat) (x3 : Int) (x4 : Int) (x5 : Int) (x6 : Int) (x7 : Int) (x9 : Int) (y0 : Int) : Option (Nat × Int × Int × Int × Int × Ev × Mm) :=
  ck (Lay E) <|
  ck (isO 12 E q1) <|
  ck (isQ 6 E q2) <|
  ck (rgI x3) <|
  (if x3 = 0 then
  some (0, 0, x7, y0, (x9 + 1), E, M)
  else
  ck (rgI x4) <|
  ck (shI x6) <|
  (if ((x4 / 2 ^ x6.toNat) % 2) = 0 then
  some (0, 1, x7, y0, (x9 + 1), E, M)
  else
  ck (shI x9) <|
  (if ((x4 / 2 ^ x9.toNat) % 2) = 1 then
  some (0, 1, x7, y0, (x9 + 1), E, M)
  else
  ck (inb x6 (tE E q2).2) <|
  (rE E q2 x6.toNat).bind fun p141 =>
  ck (isIA E p141) <|
  ck (inb x9 (tE E p141).2) <|
  ck (inb x9 (tE E q2).2) <|
  (rE E q2 x9.toNat).bind fun p144 =>
  ck (isIA E p144) <|
  ck (inb x6 (tE E p144).2) <|
  ck (rgI (M p141 x9.toNat)) <|
  ck (rgI (M p144 x6.toNat)) <|
  (if (M p141 x9.toNat) ≤ (M p144 x6.toNat) then
  some (0, 0, x7, y0, (x9 + 1), E, M)
  else
  some (0, 1, x7, y0, (x9 + 1), E, M)))))
def La_pairs_j222 (E : Ev) (M : Mm) (q1 : Nat) (q2 : Nat) (x3 : Int) (x4 : Int) (x5 : Int) (x6 : Int) (x8 : Int) (x9 : Int) (y0 : Int) : Option (Nat × Int × Int × Int × Int × Ev × Mm) :=
  ck (Lay E) <|
  ck (isO 12 E q1) <|
  ck (isQ 6 E q2) <|
  ck (rgI x8) <|
  (if x8 = 0 then
  La_pairs_j251 E M q1 q2 x3 x4 x5 x6 y0 x9 0
  else
  ck (inb x6 (tE E q2).2) <|
  (rE E q2 x6.toNat).bind fun p149 =>
  ck (isIA E p149) <|
  ck (inb x9 (tE E p149).2) <|
  ck (inb x9 (tE E q2).2) <|
  (rE E q2 x9.toNat).bind fun p152 =>
  ck (isIA E p152) <|
  ck (inb x6 (tE E p152).2) <|
  ck (rgI (M p149 x9.toNat)) <|
  ck (rgI (M p152 x6.toNat)) <|
  (if (M p149 x9.toNat) ≤ (M p152 x6.toNat) then
  La_pairs_j251 E M q1 q2 x3 x4 x5 x6 y0 x9 0
  else
  La_pairs_j251 E M q1 q2 x3 x4 x5 x6 y0 x9 1))
def La_pairs_j204 (E : Ev) (M : Mm) (q1 : Nat) (q2 : Nat) (x4 : Int) (x5 : Int) (x6 : Int) (x7 : Int) (x8 : Int) (x9 : Int) (x10 : Int) (x11 : Int) (y0 : Int) : Option (Nat × Int × Int × Int × Int × Ev × Mm) :=
  ck (Lay E) <|
  ck (isO 12 E q1) <|
  ck (isQ 6 E q2) <|
  ck (rgI x7) <|
  (if x7 = 0 then
  La_pairs_j222 E M q1 q2 y0 x4 x5 x6 x8 x9 0
  else
  ck (rgI x10) <|
  ck (rgI x11) <|
  (if x10 < x11 then
  La_pairs_j222 E M q1 q2 y0 x4 x5 x6 x8 x9 0
  else
  La_pairs_j222 E M q1 q2 y0 x4 x5 x6 x8 x9 1))
def La_pairs_135b (E : Ev) (M : Mm) (q1 : Nat) (q2 : Nat) (x4 : Int) (x5 : Int) (x6 : Int) (x3 : Int) (x7 : Int) (x8 : Int) (x9 : Int) : Option (Nat × Int × Int × Int × Int × Ev × Mm) :=
  ck (Lay E) <|
  ck (isO 12 E q1) <|
  ck (isQ 6 E q2) <|
  ck (rgI x9) <|
  ck (rgI (M q1 0)) <|
  (if (M q1 0) ≤ x9 then
  some (1, x3, x7, x8, x9, E, M)
  else
  ck (rgI x3) <|
  (if x3 = 0 then
  some (1, x3, x7, x8, x9, E, M)
  else
  ck (rgI x6) <|
  (if x6 = x9 then
  some (0, x3, x7, x8, (x9 + 1), E, M)
  else
  ck (shI x6) <|
  (f_La_way_D3 E M q2 x6 x9 (2 ^ x6.toNat)).bind fun r128 =>
  ck (shI x9) <|
  (f_La_way_D3 E M q2 x9 x6 (2 ^ x9.toNat)).bind fun r130 =>
  (f_B_strongestPath E M x6 x9).bind fun (r131, M131) =>
  ck (rgI r131) <|
  ck (rgI r128) <|
  (if r131 = r128 then
  La_pairs_j204 E M131 q1 q2 x4 x5 x6 x7 x8 x9 r128 r130 1
  else
  La_pairs_j204 E M131 q1 q2 x4 x5 x6 x7 x8 x9 r128 r130 0))))
def l_La_pairs_135 (q1 : Nat) (q2 : Nat) (x4 : Int) (x5 : Int) (x6 : Int) : Nat → Ev → Mm → Int → Int → Int → Int → Option (Nat × Int × Int × Int × Int × Ev × Mm)
  | 0, _, _, _, _, _, _ => none
  | fu + 1, E, M, x3, x7, x8, x9 => (La_pairs_135b E M q1 q2 x4 x5 x6 x3 x7 x8 x9).bind fun (t, w3, w7, w8, w9, F, N) => if t = 0 then l_La_pairs_135 q1 q2 x4 x5 x6 fu F N w3 w7 w8 w9 else some (t, w3, w7, w8, w9, F, N)
def La_pairs_j345 (E : Ev) (M : Mm) (q1 : Nat) (q2 : Nat) (x4 : Int) (x5 : Int) (x6 : Int) (x8 : Int) (y0 : Int) (y1 : Int) : Option (Nat × Int × Int × Int × Ev × Mm) :=
  ck (Lay E) <|
  ck (isO 12 E q1) <|
  ck (isQ 6 E q2) <|
  ck (rgI y1) <|
  ck (rgI y0) <|
  (if y1 = y0 then
  ck (rgI x8) <|
  (if x8 = 0 then
  some (0, 1, x5, (x6 + 1), E, M)
  else
  ck (shI x6) <|
  ck (rgI x4) <|
  ck (rgI (2 ^ x6.toNat)) <|
  (if x4 = (2 ^ x6.toNat) then
  (f_B_consensusAt E M 0).bind fun (r172, M172) =>
  ck (rgI r172) <|
  (if r172 = x6 then
  some (0, 1, x5, (x6 + 1), E, M172)
  else
  some (0, 0, x5, (x6 + 1), E, M172))
  else
  some (0, 0, x5, (x6 + 1), E, M)))
  else
  some (0, 0, x5, (x6 + 1), E, M))
def La_pairs_j322 (E : Ev) (M : Mm) (q1 : Nat) (q2 : Nat) (x3 : Int) (x4 : Int) (x6 : Int) (x8 : Int) (y0 : Int) (y1 : Int) : Option (Nat × Int × Int × Int × Ev × Mm) :=
  ck (Lay E) <|
  ck (isO 12 E q1) <|
  ck (isQ 6 E q2) <|
  ck (nnI y1) <|
  ck (nnI y0) <|
  ck (rgI x3) <|
  (if x3 = 0 then
  some (0, 0, (orI y1 y0), (x6 + 1), E, M)
  else
  (f_B_beatsAll E M).bind fun (r163, M163) =>
  ck (rgI r163) <|
  ck (rgI x6) <|
  (if r163 = x6 then
  La_pairs_j345 E M163 q1 q2 x4 (orI y1 y0) x6 x8 1 x8
  else
  La_pairs_j345 E M163 q1 q2 x4 (orI y1 y0) x6 x8 0 x8))
def La_pairs_j307 (E : Ev) (M : Mm) (q1 : Nat) (q2 : Nat) (x3 : Int) (x4 : Int) (x5 : Int) (x6 : Int) (x7 : Int) (x8 : Int) : Option (Nat × Int × Int × Int × Ev × Mm) :=
  ck (Lay E) <|
  ck (isO 12 E q1) <|
  ck (isQ 6 E q2) <|
  ck (rgI x7) <|
  (if x7 = 0 then
  La_pairs_j322 E M q1 q2 x3 x4 x6 x8 0 x5
  else
  ck (shI x6) <|
  La_pairs_j322 E M q1 q2 x3 x4 x6 x8 (2 ^ x6.toNat) x5)
def La_pairs_117b (E : Ev) (M : Mm) (q1 : Nat) (q2 : Nat) (x4 : Int) (x3 : Int) (x5 : Int) (x6 : Int) : Option (Nat × Int × Int × Int × Ev × Mm) :=
  ck (Lay E) <|
  ck (isO 12 E q1) <|
  ck (isQ 6 E q2) <|
  ck (rgI x6) <|
  ck (rgI (M q1 0)) <|
  (if (M q1 0) ≤ x6 then
  some (1, x3, x5, x6, E, M)
  else
  (l_La_pairs_135 q1 q2 x4 x5 x6 5000 E M x3 1 1 0).bind fun (t158, v158_3, v158_7, v158_8, v158_9, E158, M158) =>
  ck (Gw E E158) <|
  ck (Lay E158) <|
  ck (t158 = 1) <|
  La_pairs_j307 E158 M158 q1 q2 v158_3 x4 x5 x6 v158_7 v158_8)
def l_La_pairs_117 (q1 : Nat) (q2 : Nat) (x4 : Int) : Nat → Ev → Mm → Int → Int → Int → Option (Nat × Int × Int × Int × Ev × Mm)
  | 0, _, _, _, _, _ => none
  | fu + 1, E, M, x3, x5, x6 => (La_pairs_117b E M q1 q2 x4 x3 x5 x6).bind fun (t, w3, w5, w6, F, N) => if t = 0 then l_La_pairs_117 q1 q2 x4 fu F N w3 w5 w6 else some (t, w3, w5, w6, F, N)
def La_pairs_444b (E : Ev) (M : Mm) (q1 : Nat) (q2 : Nat) (x8 : Int) (x9 : Int) (x6 : Int) (x10 : Int) : Option (Nat × Int × Int × Ev × Mm) :=
  ck (Lay E) <|
  ck (isO 12 E q1) <|
  ck (isQ 6 E q2) <|
  ck (rgI x10) <|
  ck (rgI (M q1 0)) <|
  (if (M q1 0) ≤ x10 then
  some (1, x6, x10, E, M)
  else
  (f_B_consensusAt E M x10).bind fun (r183, M183) =>
  ck (inb r183 (tE E q2).2) <|
  (rE E q2 r183.toNat).bind fun p185 =>
  ck (isIA E p185) <|
  ck (inb x9 (tE E p185).2) <|
  ck (rgI (M183 p185 x9.toNat)) <|
  some (0, (x6 + (M183 p185 x9.toNat)), (x10 + 1), E, M183))
def l_La_pairs_444 (q1 : Nat) (q2 : Nat) (x8 : Int) (x9 : Int) : Nat → Ev → Mm → Int → Int → Option (Nat × Int × Int × Ev × Mm)
  | 0, _, _, _, _ => none
  | fu + 1, E, M, x6, x10 => (La_pairs_444b E M q1 q2 x8 x9 x6 x10).bind fun (t, w6, w10, F, N) => if t = 0 then l_La_pairs_444 q1 q2 x8 x9 fu F N w6 w10 else some (t, w6, w10, F, N)
def La_pairs_417b (E : Ev) (M : Mm) (q1 : Nat) (q2 : Nat) (x3 : Int) (x6 : Int) (x8 : Int) : Option (Nat × Int × Int × Int × Ev × Mm) :=
  ck (Lay E) <|
  ck (isO 12 E q1) <|
  ck (isQ 6 E q2) <|
  ck (rgI x8) <|
  ck (rgI (M q1 0)) <|
  (if (M q1 0) ≤ x8 then
  some (1, x3, x6, x8, E, M)
  else
  ck (rgI x3) <|
  (if x3 = 0 then
  some (1, x3, x6, x8, E, M)
  else
  (f_B_consensusAt E M x8).bind fun (r180, M180) =>
  (l_La_pairs_444 q1 q2 x8 r180 5000 E M180 x6 (x8 + 1)).bind fun (t188, v188_6, v188_10, E188, M188) =>
  ck (Gw E E188) <|
  ck (Lay E188) <|
  ck (t188 = 1) <|
  ck (rgI (x8 + 1)) <|
  ck (rgI (M188 q1 0)) <|
  (if (x8 + 1) = (M188 q1 0) then
  some (0, 1, v188_6, (x8 + 1), E188, M188)
  else
  ck (inb r180 (tE E188 q2).2) <|
  (rE E188 q2 r180.toNat).bind fun p192 =>
  ck (isIA E188 p192) <|
  (f_B_consensusAt E188 M188 (x8 + 1)).bind fun (r193, M193) =>
  ck (inb r193 (tE E188 p192).2) <|
  (f_B_consensusAt E188 M193 (x8 + 1)).bind fun (r195, M195) =>
  ck (inb r195 (tE E188 q2).2) <|
  (rE E188 q2 r195.toNat).bind fun p197 =>
  ck (isIA E188 p197) <|
  ck (inb r180 (tE E188 p197).2) <|
  ck (rgI (M193 p192 r193.toNat)) <|
  ck (rgI (M195 p197 r180.toNat)) <|
  (if (M193 p192 r193.toNat) < (M195 p197 r180.toNat) then
  some (0, 0, v188_6, (x8 + 1), E188, M195)
  else
  some (0, 1, v188_6, (x8 + 1), E188, M195)))))
def l_La_pairs_417 (q1 : Nat) (q2 : Nat) : Nat → Ev → Mm → Int → Int → Int → Option (Nat × Int × Int × Int × Ev × Mm)
  | 0, _, _, _, _, _ => none
  | fu + 1, E, M, x3, x6, x8 => (La_pairs_417b E M q1 q2 x3 x6 x8).bind fun (t, w3, w6, w8, F, N) => if t = 0 then l_La_pairs_417 q1 q2 fu F N w3 w6 w8 else some (t, w3, w6, w8, F, N)
def La_pairs_j528 (E : Ev) (M : Mm) (x3 : Int) (x6 : Int) : Option (Int × Ev × Mm) :=
  ck (Lay E) <|
  ck (rgI x3) <|
  (if x3 = 0 then
  some (0, E, M)
  else
  (f_B_consensusDistance E M).bind fun (r203, M203) =>
  ck (rgJ x6) <|
  ck (rgJ r203) <|
  (if x6 = r203 then
  some (1, E, M203)
  else
  some (0, E, M203)))
def f_La_pairs (E : Ev) (M : Mm) (p1 : Nat) : Option (Int × Ev × Mm) :=
  ck (Lay E) <|
  ck (isO 12 E p1) <|
  ck (0 ≤ (M p1 0) ∧ (M p1 0) ≤ 8) <|
  ck (0 ≤ (M p1 0) ∧ (M p1 0) ≤ 8) <|
  nb (nE E) fun (p102 : Nat) =>
  nb (eGrid E (M p1 0).toNat (M p1 0).toNat) fun (E102 : Ev) =>
  nb (mG M (nE E) (M p1 0).toNat) fun (M102 : Mm) =>
  (l_La_pairs_18 p1 p102 5000 E102 M102 1 0).bind fun (t119, v119_3, v119_4, E119, M119) =>
  ck (Gw E102 E119) <|
  ck (Lay E119) <|
  ck (t119 = 1) <|
  (f_B_beatingSet E119 M119).bind fun (r120, M120) =>
  (l_La_pairs_117 p1 p102 r120 5000 E119 M120 v119_3 0 0).bind fun (t175, v175_3, v175_5, v175_6, E175, M175) =>
  ck (Gw E119 E175) <|
  ck (Lay E175) <|
  ck (t175 = 1) <|
  ck (rgI v175_3) <|
  (if v175_3 = 0 then
  (l_La_pairs_417 p1 p102 5000 E175 M175 0 0 0).bind fun (t201, v201_3, v201_6, v201_8, E201, M201) =>
  ck (Gw E175 E201) <|
  ck (Lay E201) <|
  ck (t201 = 1) <|
  La_pairs_j528 E201 M201 v201_3 v201_6
  else
  (f_B_pathWinners E175 M175).bind fun (r206, M206) =>
  ck (rgI r206) <|
  ck (rgI v175_5) <|
  (if r206 = v175_5 then
  ck (nnI v175_5) <|
  ck (nnI r120) <|
  (if (andI v175_5 r120) = 0 then
  (l_La_pairs_417 p1 p102 5000 E175 M206 0 0 0).bind fun (t212, v212_3, v212_6, v212_8, E212, M212) =>
  ck (Gw E175 E212) <|
  ck (Lay E212) <|
  ck (t212 = 1) <|
  La_pairs_j528 E212 M212 v212_3 v212_6
  else
  (l_La_pairs_417 p1 p102 5000 E175 M206 1 0 0).bind fun (t213, v213_3, v213_6, v213_8, E213, M213) =>
  ck (Gw E175 E213) <|
  ck (Lay E213) <|
  ck (t213 = 1) <|
  La_pairs_j528 E213 M213 v213_3 v213_6)
  else
  (l_La_pairs_417 p1 p102 5000 E175 M206 0 0 0).bind fun (t209, v209_3, v209_6, v209_8, E209, M209) =>
  ck (Gw E175 E209) <|
  ck (Lay E209) <|
  ck (t209 = 1) <|
  La_pairs_j528 E209 M209 v209_3 v209_6))
def f_B_needFewCandidates (E : Ev) (M : Mm) : Option Unit :=
  ck (rgI (M 2 2)) <|
  (if (M 2 2) ≤ 5 then
  some ()
  else
  none)
def Ar_fillL_6b (E : Ev) (M : Mm) (q0 : Nat) (x1 : Int) (x4 : Int) (x3 : Int) : Option (Nat × Int × Mm) :=
  ck (isLA E q0) <|
  ck (rgI x3) <|
  ck (rgI x4) <|
  (if x4 ≤ x3 then
  some (1, x3, M)
  else
  ck (inb x3 (tE E q0).2) <|
  some (0, (x3 + 1), (u2 M q0 x3.toNat x1)))
def l_Ar_fillL_6 (E : Ev) (q0 : Nat) (x1 : Int) (x4 : Int) : Nat → Mm → Int → Option (Nat × Int × Mm)
  | 0, _, _ => none
  | fu + 1, M, x3 => (Ar_fillL_6b E M q0 x1 x4 x3).bind fun (t, w3, N) => if t = 0 then l_Ar_fillL_6 E q0 x1 x4 fu N w3 else some (t, w3, N)
def f_Ar_fillL (E : Ev) (M : Mm) (p0 : Nat) (x1 : Int) : Option Mm :=
  ck (isLA E p0) <|
  (l_Ar_fillL_6 E p0 x1 ((tE E p0).2 : Int) FU M 0).bind fun (t103, v103_3, M103) =>
  ck (t103 = 1) <|
  some M103
def Po_scoreTopsOf_j38 (E : Ev) (M : Mm) (x1 : Int) (x2 : Int) (y0 : Int) : Option (Nat × Int × Mm) :=
  ck (rgI y0) <|
  (if y0 = (-1) then
  some (0, (x2 + 1), M)
  else
  ck (inb y0 8) <|
  ck (inb x2 31) <|
  ck (rgI (M 42 x2.toNat)) <|
  nb (((M 48 y0.toNat) + (M 42 x2.toNat))) fun (v109 : Int) =>
  some (0, (x2 + 1), (u2 M 48 y0.toNat v109)))
def Po_scoreTopsOf_10b (E : Ev) (M : Mm) (x1 : Int) (x2 : Int) : Option (Nat × Int × Mm) :=
  ck (rgI x2) <|
  (if 31 ≤ x2 then
  some (1, x2, M)
  else
  ck (inb x2 31) <|
  ck (rgI (M 42 x2.toNat)) <|
  (if (M 42 x2.toNat) = 0 then
  Po_scoreTopsOf_j38 E M x1 x2 (-1)
  else
  (f_Bx_soleTopOf E M x2 x1).bind fun r104 =>
  Po_scoreTopsOf_j38 E M x1 x2 r104))
def l_Po_scoreTopsOf_10 (E : Ev) (x1 : Int) : Nat → Mm → Int → Option (Nat × Int × Mm)
  | 0, _, _ => none
  | fu + 1, M, x2 => (Po_scoreTopsOf_10b E M x1 x2).bind fun (t, w2, N) => if t = 0 then l_Po_scoreTopsOf_10 E x1 fu N w2 else some (t, w2, N)
def f_Po_scoreTopsOf (E : Ev) (M : Mm) (x1 : Int) : Option Mm :=
  (f_Ar_fillL E M 48 0).bind fun M100 =>
  (l_Po_scoreTopsOf_10 E x1 FU M100 0).bind fun (t110, v110_2, M110) =>
  ck (t110 = 1) <|
  some M110
def Po_smallestOf_4b (E : Ev) (M : Mm) (x1 : Int) (x2 : Int) (x3 : Int) : Option (Nat × Int × Int) :=
  ck (rgI x3) <|
  ck (rgI (M 2 2)) <|
  (if (M 2 2) ≤ x3 then
  some (1, x2, x3)
  else
  (f_B_has E M x1 x3).bind fun r102 =>
  ck (rgI r102) <|
  (if r102 = 0 then
  some (0, x2, (x3 + 1))
  else
  ck (rgI x2) <|
  (if x2 = (-1) then
  some (0, x3, (x3 + 1))
  else
  ck (inb x3 8) <|
  ck (inb x2 8) <|
  ck (rgJ (M 48 x3.toNat)) <|
  ck (rgJ (M 48 x2.toNat)) <|
  (if (M 48 x3.toNat) < (M 48 x2.toNat) then
  some (0, x3, (x3 + 1))
  else
  (if (M 48 x3.toNat) = (M 48 x2.toNat) then
  (f_Bx_winsLot E M x2 x3).bind fun r109 =>
  ck (rgI r109) <|
  (if r109 = 0 then
  some (0, x2, (x3 + 1))
  else
  some (0, x3, (x3 + 1)))
  else
  some (0, x2, (x3 + 1)))))))
def l_Po_smallestOf_4 (E : Ev) (x1 : Int) : Nat → Mm → Int → Int → Option (Nat × Int × Int)
  | 0, _, _, _ => none
  | fu + 1, M, x2, x3 => (Po_smallestOf_4b E M x1 x2 x3).bind fun (t, w2, w3) => if t = 0 then l_Po_smallestOf_4 E x1 fu M w2 w3 else some (t, w2, w3)
def f_Po_smallestOf (E : Ev) (M : Mm) (x1 : Int) : Option Int :=
  (l_Po_smallestOf_4 E x1 FU M (-1) 0).bind fun (t111, v111_2, v111_3) =>
  ck (t111 = 1) <|
  some v111_2
def Po_bestByLot_4b (E : Ev) (M : Mm) (x1 : Int) (x2 : Int) (x3 : Int) : Option (Nat × Int × Int) :=
  ck (rgI x3) <|
  ck (rgI (M 2 2)) <|
  (if (M 2 2) ≤ x3 then
  some (1, x2, x3)
  else
  (f_B_has E M x1 x3).bind fun r102 =>
  ck (rgI r102) <|
  (if r102 = 0 then
  some (0, x2, (x3 + 1))
  else
  ck (rgI x2) <|
  (if x2 = (-1) then
  some (0, x3, (x3 + 1))
  else
  (f_Bx_winsLot E M x3 x2).bind fun r105 =>
  ck (rgI r105) <|
  (if r105 = 0 then
  some (0, x2, (x3 + 1))
  else
  some (0, x3, (x3 + 1))))))
def l_Po_bestByLot_4 (E : Ev) (x1 : Int) : Nat → Mm → Int → Int → Option (Nat × Int × Int)
  | 0, _, _, _ => none
  | fu + 1, M, x2, x3 => (Po_bestByLot_4b E M x1 x2 x3).bind fun (t, w2, w3) => if t = 0 then l_Po_bestByLot_4 E x1 fu M w2 w3 else some (t, w2, w3)
def f_Po_bestByLot (E : Ev) (M : Mm) (x1 : Int) : Option Int :=
  (l_Po_bestByLot_4 E x1 FU M (-1) 0).bind fun (t107, v107_2, v107_3) =>
  ck (t107 = 1) <|
  some v107_2
def Po_lastOfRunoff_17b (E : Ev) (M : Mm) (x2 : Int) (x1 : Int) (x3 : Int) : Option (Nat × Int × Int × Mm) :=
  ck (rgI x3) <|
  ck (rgI x2) <|
  (if x2 ≤ x3 then
  some (1, x1, x3, M)
  else
  (f_Po_scoreTopsOf E M x1).bind fun M103 =>
  (f_Po_smallestOf E M103 x1).bind fun r104 =>
  ck (inb x3 8) <|
  ck (shI r104) <|
  ck (nnI x1) <|
  ck (nnI (2 ^ r104.toNat)) <|
  some (0, (dfI x1 (2 ^ r104.toNat)), (x3 + 1), (u2 M103 49 x3.toNat r104)))
def l_Po_lastOfRunoff_17 (E : Ev) (x2 : Int) : Nat → Mm → Int → Int → Option (Nat × Int × Int × Mm)
  | 0, _, _, _ => none
  | fu + 1, M, x1, x3 => (Po_lastOfRunoff_17b E M x2 x1 x3).bind fun (t, w1, w3, N) => if t = 0 then l_Po_lastOfRunoff_17 E x2 fu N w1 w3 else some (t, w1, w3, N)
def f_Po_lastOfRunoff (E : Ev) (M : Mm) : Option (Int × Mm) :=
  (f_In_bitCount E M (M 41 1)).bind fun r100 =>
  (l_Po_lastOfRunoff_17 E (r100 - 1) FU M (M 41 1) 0).bind fun (t109, v109_1, v109_3, M109) =>
  ck (t109 = 1) <|
  (f_Po_bestByLot E M109 v109_1).bind fun r110 =>
  some (r110, M109)
def Po_pointsOf_5b (E : Ev) (M : Mm) (x1 : Int) (x2 : Int) (x4 : Int) : Option (Nat × Int × Int) :=
  ck (rgI x4) <|
  ck (rgI (M 2 2)) <|
  (if (M 2 2) ≤ x4 then
  some (1, x2, x4)
  else
  ck (rgI x1) <|
  (if x4 = x1 then
  some (0, x2, (x4 + 1))
  else
  (f_B_has E M (M 41 1) x4).bind fun r103 =>
  ck (rgI r103) <|
  (if r103 = 0 then
  some (0, x2, (x4 + 1))
  else
  (f_Po_pair E M x1 x4).bind fun r105 =>
  (f_Po_pair E M x4 x1).bind fun r106 =>
  ck (rgI (((M 41 2) + r105) - r106)) <|
  nb ((x2 + (((M 41 2) + r105) - r106))) fun (v108 : Int) =>
  some (0, v108, (x4 + 1)))))
def l_Po_pointsOf_5 (E : Ev) (x1 : Int) : Nat → Mm → Int → Int → Option (Nat × Int × Int)
  | 0, _, _, _ => none
  | fu + 1, M, x2, x4 => (Po_pointsOf_5b E M x1 x2 x4).bind fun (t, w2, w4) => if t = 0 then l_Po_pointsOf_5 E x1 fu M w2 w4 else some (t, w2, w4)
def f_Po_pointsOf (E : Ev) (M : Mm) (x1 : Int) : Option Int :=
  (l_Po_pointsOf_5 E x1 FU M 0 0).bind fun (t109, v109_2, v109_4) =>
  ck (t109 = 1) <|
  some v109_2
def Po_findScores_j59 (E : Ev) (M : Mm) (x1 : Int) (x2 : Int) (y0 : Int) (y1 : Int) (y2 : Nat) : Option (Nat × Int × Mm) :=
  ck (isLA E y2) <|
  ck (inb y1 (tE E y2).2) <|
  some (0, (x2 + 1), (u2 M y2 y1.toNat y0))
def Po_findScores_2b (E : Ev) (M : Mm) (x1 : Int) (x2 : Int) : Option (Nat × Int × Mm) :=
  ck (rgI x2) <|
  ck (rgI (M 2 2)) <|
  (if (M 2 2) ≤ x2 then
  some (1, x2, M)
  else
  ck (rgI x1) <|
  (if x1 = 3 then
  (f_Po_pointsOf E M x2).bind fun r108 =>
  ck (inb x2 8) <|
  some (0, (x2 + 1), (u2 M 48 x2.toNat r108))
  else
  (if x1 = 4 then
  ck (inb x2 8) <|
  ck (rgI (M 44 x2.toNat)) <|
  Po_findScores_j59 E M x1 x2 (M 44 x2.toNat) x2 48
  else
  ck (inb x2 8) <|
  ck (rgI (M 43 x2.toNat)) <|
  Po_findScores_j59 E M x1 x2 (M 43 x2.toNat) x2 48)))
def l_Po_findScores_2 (E : Ev) (x1 : Int) : Nat → Mm → Int → Option (Nat × Int × Mm)
  | 0, _, _ => none
  | fu + 1, M, x2 => (Po_findScores_2b E M x1 x2).bind fun (t, w2, N) => if t = 0 then l_Po_findScores_2 E x1 fu N w2 else some (t, w2, N)
def f_Po_findScores (E : Ev) (M : Mm) (x1 : Int) : Option Mm :=
  (l_Po_findScores_2 E x1 FU M 0).bind fun (t110, v110_2, M110) =>
  ck (t110 = 1) <|
  some M110
def Po_greatestOf_4b (E : Ev) (M : Mm) (x1 : Int) (x2 : Int) (x3 : Int) : Option (Nat × Int × Int) :=
  ck (rgI x3) <|
  ck (rgI (M 2 2)) <|
  (if (M 2 2) ≤ x3 then
  some (1, x2, x3)
  else
  (f_B_has E M x1 x3).bind fun r102 =>
  ck (rgI r102) <|
  (if r102 = 0 then
  some (0, x2, (x3 + 1))
  else
  ck (rgI x2) <|
  (if x2 = (-1) then
  some (0, x3, (x3 + 1))
  else
  ck (inb x3 8) <|
  ck (inb x2 8) <|
  ck (rgJ (M 48 x3.toNat)) <|
  ck (rgJ (M 48 x2.toNat)) <|
  (if (M 48 x2.toNat) < (M 48 x3.toNat) then
  some (0, x3, (x3 + 1))
  else
  (if (M 48 x3.toNat) = (M 48 x2.toNat) then
  (f_Bx_winsLot E M x3 x2).bind fun r109 =>
  ck (rgI r109) <|
  (if r109 = 0 then
  some (0, x2, (x3 + 1))
  else
  some (0, x3, (x3 + 1)))
  else
  some (0, x2, (x3 + 1)))))))
def l_Po_greatestOf_4 (E : Ev) (x1 : Int) : Nat → Mm → Int → Int → Option (Nat × Int × Int)
  | 0, _, _, _ => none
  | fu + 1, M, x2, x3 => (Po_greatestOf_4b E M x1 x2 x3).bind fun (t, w2, w3) => if t = 0 then l_Po_greatestOf_4 E x1 fu M w2 w3 else some (t, w2, w3)
def f_Po_greatestOf (E : Ev) (M : Mm) (x1 : Int) : Option Int :=
  (l_Po_greatestOf_4 E x1 FU M (-1) 0).bind fun (t111, v111_2, v111_3) =>
  ck (t111 = 1) <|
  some v111_2
def f_Po_bestBy (E : Ev) (M : Mm) (x1 : Int) : Option (Int × Mm) :=
  ck (rgI (M 41 1)) <|
  (if (M 41 1) = 0 then
  some ((-1), M)
  else
  ck (rgI x1) <|
  (if x1 = 1 then
  (f_Po_lastOfRunoff E M).bind fun (r106, M106) =>
  some (r106, M106)
  else
  (if x1 = 2 then
  (f_Po_winnersByPaths E M).bind fun (r104, M104) =>
  (f_Po_bestByLot E M104 r104).bind fun r105 =>
  some (r105, M104)
  else
  (f_Po_findScores E M x1).bind fun M102 =>
  (f_Po_greatestOf E M102 (M102 41 1)).bind fun r103 =>
  some (r103, M102))))
def Fb_aheadOf_16b (E : Ev) (M : Mm) (x1 : Int) (x4 : Int) (x3 : Int) (x5 : Int) : Option (Nat × Int × Int) :=
  ck (rgI x5) <|
  ck (rgI x4) <|
  (if x4 ≤ x5 then
  some (1, x3, x5)
  else
  ck (inb x1 31) <|
  ck (inb x5 8) <|
  ck (nnI x3) <|
  ck (nnI (M (9 + x1.toNat) x5.toNat)) <|
  nb ((orI x3 (M (9 + x1.toNat) x5.toNat))) fun (v107 : Int) =>
  some (0, v107, (x5 + 1)))
def l_Fb_aheadOf_16 (E : Ev) (x1 : Int) (x4 : Int) : Nat → Mm → Int → Int → Option (Nat × Int × Int)
  | 0, _, _, _ => none
  | fu + 1, M, x3, x5 => (Fb_aheadOf_16b E M x1 x4 x3 x5).bind fun (t, w3, w5) => if t = 0 then l_Fb_aheadOf_16 E x1 x4 fu M w3 w5 else some (t, w3, w5)
def f_Fb_aheadOf (E : Ev) (M : Mm) (x1 : Int) (x2 : Int) : Option Int :=
  (f_Bx_rankOf E M x1 x2).bind fun r100 =>
  (l_Fb_aheadOf_16 E x1 r100 FU M 0 0).bind fun (t108, v108_3, v108_5) =>
  ck (t108 = 1) <|
  some v108_3
def Fb_writeTrial_9b (E : Ev) (M : Mm) (x1 : Int) : Option (Nat × Int × Mm) :=
  ck (rgI x1) <|
  ck (rgI (M 2 2)) <|
  (if (M 2 2) ≤ x1 then
  some (1, x1, M)
  else
  ck (inb x1 5) <|
  (f_Bx_rankOnTrial E M (M 52 x1.toNat) 1).bind fun M104 =>
  some (0, (x1 + 1), M104))
def l_Fb_writeTrial_9 (E : Ev) : Nat → Mm → Int → Option (Nat × Int × Mm)
  | 0, _, _ => none
  | fu + 1, M, x1 => (Fb_writeTrial_9b E M x1).bind fun (t, w1, N) => if t = 0 then l_Fb_writeTrial_9 E fu N w1 else some (t, w1, N)
def f_Fb_writeTrial (E : Ev) (M : Mm) : Option Mm :=
  (f_Bx_clearTrial E M).bind fun M100 =>
  (l_Fb_writeTrial_9 E FU M100 0).bind fun (t105, v105_1, M105) =>
  ck (t105 = 1) <|
  some (u2 M105 6 30 (M105 39 0))
def f_Fb_swap (E : Ev) (M : Mm) (x1 : Int) (x2 : Int) : Option Mm :=
  ck (inb x1 5) <|
  ck (inb x2 5) <|
  some (u2 (u2 M 52 x1.toNat (M 52 x2.toNat)) 52 x2.toNat (M 52 x1.toNat))
def Fb_goToNextOrder_14b (E : Ev) (M : Mm) (x1 : Int) (x2 : Int) : Option (Nat × Int × Mm) :=
  ck (rgI x2) <|
  (if x2 < 0 then
  some (1, x2, M)
  else
  ck (inb x2 5) <|
  ck (inb (x2 + 1) 5) <|
  ck (rgI (M 52 x2.toNat)) <|
  ck (rgI (M 52 (x2 + 1).toNat)) <|
  (if (M 52 x2.toNat) ≤ (M 52 (x2 + 1).toNat) then
  some (1, x2, M)
  else
  some (0, (x2 + (-1)), M)))
def l_Fb_goToNextOrder_14 (E : Ev) (x1 : Int) : Nat → Mm → Int → Option (Nat × Int × Mm)
  | 0, _, _ => none
  | fu + 1, M, x2 => (Fb_goToNextOrder_14b E M x1 x2).bind fun (t, w2, N) => if t = 0 then l_Fb_goToNextOrder_14 E x1 fu N w2 else some (t, w2, N)
def Fb_goToNextOrder_48b (E : Ev) (M : Mm) (x1 : Int) (x2 : Int) (x3 : Int) : Option (Nat × Int × Mm) :=
  ck (rgI x3) <|
  ck (rgI x2) <|
  (if x3 ≤ x2 then
  some (1, x3, M)
  else
  ck (inb x3 5) <|
  ck (inb x2 5) <|
  ck (rgI (M 52 x3.toNat)) <|
  ck (rgI (M 52 x2.toNat)) <|
  (if (M 52 x2.toNat) ≤ (M 52 x3.toNat) then
  some (1, x3, M)
  else
  some (0, (x3 + (-1)), M)))
def l_Fb_goToNextOrder_48 (E : Ev) (x1 : Int) (x2 : Int) : Nat → Mm → Int → Option (Nat × Int × Mm)
  | 0, _, _ => none
  | fu + 1, M, x3 => (Fb_goToNextOrder_48b E M x1 x2 x3).bind fun (t, w3, N) => if t = 0 then l_Fb_goToNextOrder_48 E x1 x2 fu N w3 else some (t, w3, N)
def Fb_goToNextOrder_88b (E : Ev) (M : Mm) (x4 : Int) (x5 : Int) : Option (Nat × Int × Int × Mm) :=
  ck (rgI x4) <|
  ck (rgI x5) <|
  (if x5 ≤ x4 then
  some (1, x4, x5, M)
  else
  (f_Fb_swap E M x4 x5).bind fun M117 =>
  some (0, (x4 + 1), (x5 + (-1)), M117))
def l_Fb_goToNextOrder_88 (E : Ev) : Nat → Mm → Int → Int → Option (Nat × Int × Int × Mm)
  | 0, _, _, _ => none
  | fu + 1, M, x4, x5 => (Fb_goToNextOrder_88b E M x4 x5).bind fun (t, w4, w5, N) => if t = 0 then l_Fb_goToNextOrder_88 E fu N w4 w5 else some (t, w4, w5, N)
def Fb_goToNextOrder_j74 (E : Ev) (M : Mm) (x1 : Int) (x2 : Int) (x3 : Int) : Option Mm :=
  (f_Fb_swap E M x2 x3).bind fun M114 =>
  (l_Fb_goToNextOrder_88 E FU M114 (x2 + 1) x1).bind fun (t118, v118_4, v118_5, M118) =>
  ck (t118 = 1) <|
  some M118
def Fb_goToNextOrder_j41 (E : Ev) (M : Mm) (x1 : Int) (x2 : Int) : Option Mm :=
  ck (rgI x2) <|
  (if 0 ≤ x2 then
  (l_Fb_goToNextOrder_48 E x1 x2 FU M x1).bind fun (t113, v113_3, M113) =>
  ck (t113 = 1) <|
  Fb_goToNextOrder_j74 E M113 x1 x2 v113_3
  else
  some M)
def f_Fb_goToNextOrder (E : Ev) (M : Mm) : Option Mm :=
  (l_Fb_goToNextOrder_14 E ((M 2 2) - 1) FU M (((M 2 2) - 1) - 1)).bind fun (t105, v105_2, M105) =>
  ck (t105 = 1) <|
  Fb_goToNextOrder_j41 E M105 ((M 2 2) - 1) v105_2
def Fb_findOrder_2b (E : Ev) (M : Mm) (x1 : Int) (x2 : Int) (x3 : Int) : Option (Nat × Int × Mm) :=
  ck (rgI x3) <|
  (if 5 ≤ x3 then
  some (1, x3, M)
  else
  ck (inb x3 5) <|
  some (0, (x3 + 1), (u2 M 52 x3.toNat x3)))
def l_Fb_findOrder_2 (E : Ev) (x1 : Int) (x2 : Int) : Nat → Mm → Int → Option (Nat × Int × Mm)
  | 0, _, _ => none
  | fu + 1, M, x3 => (Fb_findOrder_2b E M x1 x2 x3).bind fun (t, w3, N) => if t = 0 then l_Fb_findOrder_2 E x1 x2 fu N w3 else some (t, w3, N)
def Fb_findOrder_j94 (E : Ev) (M : Mm) (x1 : Int) (x2 : Int) (x3 : Int) (x5 : Int) : Option (Nat × Int × Mm) :=
  (f_Fb_goToNextOrder E M).bind fun M112 =>
  some (0, (x5 + 1), M112)
def Fb_findOrder_35b (E : Ev) (M : Mm) (x1 : Int) (x2 : Int) (x3 : Int) (x5 : Int) : Option (Nat × Int × Mm) :=
  ck (rgI x5) <|
  ck (rgJ x3) <|
  (if x3 ≤ x5 then
  some (2, x5, M)
  else
  (f_Fb_writeTrial E M).bind fun M107 =>
  (f_Po_change E M107 30 1).bind fun M108 =>
  (f_Po_bestBy E M108 x1).bind fun (r109, M109) =>
  (f_Po_change E M109 30 (-1)).bind fun M110 =>
  ck (rgI r109) <|
  (if r109 = (-1) then
  Fb_findOrder_j94 E M110 x1 x2 x3 x5
  else
  (f_B_has E M110 x2 r109).bind fun r113 =>
  ck (rgI r113) <|
  (if r113 = 0 then
  Fb_findOrder_j94 E M110 x1 x2 x3 x5
  else
  some (1, x5, M110))))
def l_Fb_findOrder_35 (E : Ev) (x1 : Int) (x2 : Int) (x3 : Int) : Nat → Mm → Int → Option (Nat × Int × Mm)
  | 0, _, _ => none
  | fu + 1, M, x5 => (Fb_findOrder_35b E M x1 x2 x3 x5).bind fun (t, w5, N) => if t = 0 then l_Fb_findOrder_35 E x1 x2 x3 fu N w5 else some (t, w5, N)
def f_Fb_findOrder (E : Ev) (M : Mm) (x1 : Int) (x2 : Int) : Option (Int × Mm) :=
  (l_Fb_findOrder_2 E x1 x2 FU M 0).bind fun (t102, v102_3, M102) =>
  ck (t102 = 1) <|
  ck (inb (M102 2 2) 13) <|
  (l_Fb_findOrder_35 E x1 x2 (facF (M102 2 2).toNat) FU M102 0).bind fun (t115, v115_5, M115) =>
  (if t115 = 1 then
  some (1, M115)
  else (if t115 = 2 then
  some (0, M115)
  else none))
def Fb_findKind_j65 (E : Ev) (M : Mm) (x1 : Int) (x2 : Int) (x3 : Int) (y0 : Int) : Option (Nat × Int × Mm) :=
  ck (rgI y0) <|
  (if y0 = 0 then
  some (0, (x3 + 1), M)
  else
  (f_Po_change E M x3 (-1)).bind fun M109 =>
  (f_Fb_findOrder E M109 x1 y0).bind fun (r110, M110) =>
  ck (rgI r110) <|
  (if r110 = 0 then
  (f_Po_change E M110 x3 1).bind fun M112 =>
  some (0, (x3 + 1), M112)
  else
  some (1, x3, M110)))
def Fb_findKind_32b (E : Ev) (M : Mm) (x1 : Int) (x2 : Int) (x3 : Int) : Option (Nat × Int × Mm) :=
  ck (rgI x3) <|
  ck (rgI (M 2 3)) <|
  (if (M 2 3) ≤ x3 then
  some (2, x3, M)
  else
  ck (inb x3 31) <|
  ck (rgI (M 5 x3.toNat)) <|
  (if (M 5 x3.toNat) ≤ 0 then
  Fb_findKind_j65 E M x1 x2 x3 0
  else
  (f_Fb_aheadOf E M x3 x2).bind fun r113 =>
  Fb_findKind_j65 E M x1 x2 x3 r113))
def l_Fb_findKind_32 (E : Ev) (x1 : Int) (x2 : Int) : Nat → Mm → Int → Option (Nat × Int × Mm)
  | 0, _, _ => none
  | fu + 1, M, x3 => (Fb_findKind_32b E M x1 x2 x3).bind fun (t, w3, N) => if t = 0 then l_Fb_findKind_32 E x1 x2 fu N w3 else some (t, w3, N)
def f_Fb_findKind (E : Ev) (M : Mm) (x1 : Int) : Option (Int × Mm) :=
  (f_Bx_everybody E M).bind fun r100 =>
  (f_Po_open E M r100).bind fun M101 =>
  (f_Po_bestBy E M101 x1).bind fun (r102, M102) =>
  ck (rgI r102) <|
  (if r102 = (-1) then
  some ((-1), M102)
  else
  (l_Fb_findKind_32 E x1 r102 FU M102 0).bind fun (t114, v114_3, M114) =>
  (if t114 = 1 then
  some (v114_3, M114)
  else (if t114 = 2 then
  some ((-1), M114)
  else none)))
def f_B_gain (E : Ev) (M : Mm) (x1 : Int) : Option (Int × Mm) :=
  (f_B_needRange E M x1 0 4).bind fun _u =>
  (f_B_needFewCandidates E M).bind fun _u =>
  (f_Fb_findKind E M x1).bind fun (r102, M102) =>
  some (r102, M102)
def f_B_winner (E : Ev) (M : Mm) (x1 : Int) : Option (Int × Mm) :=
  (f_B_needRange E M x1 0 4).bind fun _u =>
  (f_Bx_everybody E M).bind fun r101 =>
  (f_Po_open E M r101).bind fun M102 =>
  (f_Po_bestBy E M102 x1).bind fun (r103, M103) =>
  some (r103, M103)
def f_St_coder_C0 (E : Ev) (M : Mm) : Option Int :=
  some 0
def f_St_length_C0 (E : Ev) (M : Mm) : Option Int :=
  (f_St_coder_C0 E M).bind fun r100 =>
  ck (shI r100) <|
  some ((0 : Int) / 2 ^ r100.toNat)
def f_As_inflateIfNeededFor_C0 (E : Ev) (M : Mm) (p0 : Nat) : Option Unit :=
  ck (isO 14 E p0) <|
  (f_St_coder_C0 E M).bind fun r100 =>
  ck (rgI (M p0 1)) <|
  ck (rgI r100) <|
  (if (M p0 1) = r100 then
  some ()
  else
  none)
def f_St_getBytes_C0 (E : Ev) (M : Mm) (p1 : Nat) (x2 : Int) (x3 : Int) : Option Mm :=
  ck (isBA E p1) <|
  (f_St_coder_C0 E M).bind fun r100 =>
  ck (rgI r100) <|
  ck (rgI x3) <|
  (if r100 = x3 then
  ck (shI x3) <|
  ck (cpk 0 (x2 * 2 ^ x3.toNat) 0 0 (tE E p1).2) <|
  some (uA M p1 (va_cpy (csB 0) (M p1) 0 (x2 * 2 ^ x3.toNat).toNat 0))
  else
  none)
def f_As_putStringAt_C0 (E : Ev) (M : Mm) (p0 : Nat) (x1 : Int) : Option Mm :=
  ck (isO 14 E p0) <|
  (f_As_inflateIfNeededFor_C0 E M p0).bind fun _u =>
  (rE E p0 0).bind fun p101 =>
  ck (isBA E p101) <|
  (f_St_getBytes_C0 E M p101 x1 (M p0 1)).bind fun M102 =>
  some M102
def f_As_appendS_C0 (E : Ev) (M : Mm) (p0 : Nat) : Option (Nat × Mm) :=
  ck (isO 14 E p0) <|
  (f_St_length_C0 E M).bind fun r100 =>
  (f_As_ensureCapacityInternal E M p0 ((M p0 3) + r100)).bind fun _u =>
  (f_As_putStringAt_C0 E M p0 (M p0 3)).bind fun M102 =>
  some (p0, (u2 M102 p0 3 ((M102 p0 3) + r100)))
def f_Sb_appendS_C0 (E : Ev) (M : Mm) (p0 : Nat) : Option (Nat × Mm) :=
  ck (isO 14 E p0) <|
  (f_As_appendS_C0 E M p0).bind fun (r100, M100) =>
  ck (isO 14 E r100) <|
  some (p0, M100)
def f_St_coder_C1 (E : Ev) (M : Mm) : Option Int :=
  some 0
def f_St_length_C1 (E : Ev) (M : Mm) : Option Int :=
  (f_St_coder_C1 E M).bind fun r100 =>
  ck (shI r100) <|
  some ((1 : Int) / 2 ^ r100.toNat)
def f_As_inflateIfNeededFor_C1 (E : Ev) (M : Mm) (p0 : Nat) : Option Unit :=
  ck (isO 14 E p0) <|
  (f_St_coder_C1 E M).bind fun r100 =>
  ck (rgI (M p0 1)) <|
  ck (rgI r100) <|
  (if (M p0 1) = r100 then
  some ()
  else
  none)
def f_St_getBytes_C1 (E : Ev) (M : Mm) (p1 : Nat) (x2 : Int) (x3 : Int) : Option Mm :=
  ck (isBA E p1) <|
  (f_St_coder_C1 E M).bind fun r100 =>
  ck (rgI r100) <|
  ck (rgI x3) <|
  (if r100 = x3 then
  ck (shI x3) <|
  ck (cpk 0 (x2 * 2 ^ x3.toNat) 1 1 (tE E p1).2) <|
  some (uA M p1 (va_cpy (csB 1) (M p1) 0 (x2 * 2 ^ x3.toNat).toNat 1))
  else
  none)
def f_As_putStringAt_C1 (E : Ev) (M : Mm) (p0 : Nat) (x1 : Int) : Option Mm :=
  ck (isO 14 E p0) <|
  (f_As_inflateIfNeededFor_C1 E M p0).bind fun _u =>
  (rE E p0 0).bind fun p101 =>
  ck (isBA E p101) <|
  (f_St_getBytes_C1 E M p101 x1 (M p0 1)).bind fun M102 =>
  some M102
def f_As_appendS_C1 (E : Ev) (M : Mm) (p0 : Nat) : Option (Nat × Mm) :=
  ck (isO 14 E p0) <|
  (f_St_length_C1 E M).bind fun r100 =>
  (f_As_ensureCapacityInternal E M p0 ((M p0 3) + r100)).bind fun _u =>
  (f_As_putStringAt_C1 E M p0 (M p0 3)).bind fun M102 =>
  some (p0, (u2 M102 p0 3 ((M102 p0 3) + r100)))
def f_Sb_appendS_C1 (E : Ev) (M : Mm) (p0 : Nat) : Option (Nat × Mm) :=
  ck (isO 14 E p0) <|
  (f_As_appendS_C1 E M p0).bind fun (r100, M100) =>
  ck (isO 14 E r100) <|
  some (p0, M100)
def B_gainAt_j34 (E : Ev) (M : Mm) (x2 : Int) (y0 : Int) (y1 : Int) : Option (Int × Mm) :=
  (f_B_needPlace E M y1 y0).bind fun _u =>
  ck (inb x2 5) <|
  some ((M 52 x2.toNat), M)
def f_B_gainAt (E : Ev) (M : Mm) (x1 : Int) (x2 : Int) : Option (Int × Mm) :=
  (f_B_needRange E M x1 0 4).bind fun _u =>
  (f_B_needFewCandidates E M).bind fun _u =>
  (f_Fb_findKind E M x1).bind fun (r102, M102) =>
  ck (rgI r102) <|
  (if r102 = (-1) then
  B_gainAt_j34 E M102 x2 0 x2
  else
  B_gainAt_j34 E M102 x2 (M102 2 2) x2)
def f_B_takeBack (E : Ev) (M : Mm) (x1 : Int) (x2 : Int) : Option (Int × Mm) :=
  (f_B_needIndex E M x1 (M 2 3)).bind fun _u =>
  ck (inb x1 31) <|
  (f_B_needRange E M x2 1 (M 5 x1.toNat)).bind fun _u =>
  (f_B_remember E M 4 x1 (M 5 x1.toNat)).bind fun M103 =>
  some (((u2 M103 5 x1.toNat ((M103 5 x1.toNat) - x2)) 5 x1.toNat), (u2 M103 5 x1.toNat ((M103 5 x1.toNat) - x2)))
def f_Co_goBack (E : Ev) (M : Mm) : Option Mm :=
  ck (nnI (((M 179 2) + 21) - 1)) <|
  some (u2 M 179 2 ((((M 179 2) + 21) - 1) % 21))
def f_Li_takeChangeBack (E : Ev) (M : Mm) (x1 : Int) (x2 : Int) (x3 : Int) : Option Mm :=
  ck (rgI x1) <|
  (if x1 = 2 then
  ck (inb x2 8) <|
  some (u2 M 56 x2.toNat x3)
  else
  (if x1 = 3 then
  some M
  else
  (if x1 = 4 then
  some M
  else
  (if x1 = 5 then
  some (u2 M 53 0 x2)
  else
  (if x1 = 6 then
  ck (inb x2 8) <|
  some (u2 M 54 x2.toNat x3)
  else
  (if x1 = 7 then
  ck (inb x2 8) <|
  some (u2 M 55 x2.toNat x3)
  else
  (if x1 = 8 then
  ck (nnI (((M 53 10) + 21) - 1)) <|
  some (u2 M 53 10 ((((M 53 10) + 21) - 1) % 21))
  else
  some M)))))))
def f_B_takeChangeBack (E : Ev) (M : Mm) (x1 : Int) (x2 : Int) (x3 : Int) : Option Mm :=
  ck (rgI x1) <|
  (if x1 = 0 then
  some (u2 M 2 2 x2)
  else
  (if x1 = 1 then
  ck (inb x2 8) <|
  some (u2 M 4 x2.toNat x3)
  else
  (if x1 = 2 then
  (f_Li_takeChangeBack E M x1 x2 x3).bind fun M103 =>
  some M103
  else
  (if x1 = 3 then
  some (u2 M 2 3 x2)
  else
  (if x1 = 4 then
  ck (inb x2 31) <|
  some (u2 M 5 x2.toNat x3)
  else
  (if x1 = 5 then
  (f_Li_takeChangeBack E M x1 x2 x3).bind fun M105 =>
  some M105
  else
  (if x1 = 6 then
  (f_Li_takeChangeBack E M x1 x2 x3).bind fun M106 =>
  some M106
  else
  (if x1 = 7 then
  (f_Li_takeChangeBack E M x1 x2 x3).bind fun M107 =>
  some M107
  else
  (if x1 = 8 then
  (f_Li_takeChangeBack E M x1 x2 x3).bind fun M108 =>
  some M108
  else
  (if x1 = 9 then
  (f_Co_goBack E M).bind fun M109 =>
  some M109
  else
  (if x1 = 10 then
  some (u2 M 219 0 x2)
  else
  (if x1 = 11 then
  some (u2 M 243 0 x2)
  else
  (if x1 = 12 then
  some (u2 M 243 1 x3)
  else
  (f_Li_takeChangeBack E M x1 x2 x3).bind fun M110 =>
  some M110)))))))))))))
def f_B_undo (E : Ev) (M : Mm) : Option (Int × Mm) :=
  ck (rgI (M 1 11)) <|
  (if (M 1 11) = 0 then
  some ((-1), M)
  else
  ck (inb (M 1 10) 20) <|
  (f_B_takeChangeBack E M (M 246 (M 1 10).toNat) (M 247 (M 1 10).toNat) (M 248 (M 1 10).toNat)).bind fun M102 =>
  ck (nnI (((M102 1 10) + 20) - 1)) <|
  nb (u2 (u2 M102 1 10 ((((M102 1 10) + 20) - 1) % 20)) 1 11 (((u2 M102 1 10 ((((M102 1 10) + 20) - 1) % 20)) 1 11) - 1)) fun (M104 : Mm) =>
  some ((M104 1 11), M104))
def La_gains_40b (E : Ev) (M : Mm) (q1 : Nat) (x3 : Int) (x4 : Int) (x5 : Int) (q6 : Nat) (x7 : Int) : Option (Nat × Int × Ev × Mm) :=
  ck (Lay E) <|
  ck (isO 12 E q1) <|
  ck (isO 14 E q6) <|
  ck (rgI x7) <|
  ck (rgI (M q1 0)) <|
  (if (M q1 0) ≤ x7 then
  some (1, x7, E, M)
  else
  (if x7 = 0 then
  (f_Sb_appendS_C0 E M q6).bind fun (r112, M112) =>
  ck (isO 14 E r112) <|
  (f_B_gainAt E M112 x3 x7).bind fun (r113, M113) =>
  ck (0 ≤ (65 + r113) ∧ (65 + r113) ≤ 65535) <|
  (f_Sb_appendC E M113 r112 (65 + r113)).bind fun (r115, M115) =>
  ck (isO 14 E r115) <|
  some (0, (x7 + 1), E, M115)
  else
  (f_Sb_appendS_C1 E M q6).bind fun (r108, M108) =>
  ck (isO 14 E r108) <|
  (f_B_gainAt E M108 x3 x7).bind fun (r109, M109) =>
  ck (0 ≤ (65 + r109) ∧ (65 + r109) ≤ 65535) <|
  (f_Sb_appendC E M109 r108 (65 + r109)).bind fun (r111, M111) =>
  ck (isO 14 E r111) <|
  some (0, (x7 + 1), E, M111)))
def l_La_gains_40 (q1 : Nat) (x3 : Int) (x4 : Int) (x5 : Int) (q6 : Nat) : Nat → Ev → Mm → Int → Option (Nat × Int × Ev × Mm)
  | 0, _, _, _ => none
  | fu + 1, E, M, x7 => (La_gains_40b E M q1 x3 x4 x5 q6 x7).bind fun (t, w7, F, N) => if t = 0 then l_La_gains_40 q1 x3 x4 x5 q6 fu F N w7 else some (t, w7, F, N)
def f_La_gains (E : Ev) (M : Mm) (p1 : Nat) (p2 : Nat) : Option (Int × Ev × Mm) :=
  ck (Lay E) <|
  ck (isO 12 E p1) <|
  ck (isIA E p2) <|
  (f_La_next E M p2 5).bind fun (r100, M100) =>
  (f_B_gain E M100 r100).bind fun (r101, M101) =>
  ck (rgI r101) <|
  (if r101 = (-1) then
  some (1, E, M101)
  else
  (f_B_winner E M101 r100).bind fun (r103, M103) =>
  nb (nE E) fun (p104 : Nat) =>
  nb (eNew E (114, 0)) fun (E104 : Ev) =>
  nb (mN M103 (nE E)) fun (M104 : Mm) =>
  (f_Sb_init E104 M104 p104).bind fun (E105, M105) =>
  ck (Gw E104 E105) <|
  ck (Lay E105) <|
  (l_La_gains_40 p1 r100 r101 r103 p104 5000 E105 M105 0).bind fun (t116, v116_7, E116, M116) =>
  ck (Gw E105 E116) <|
  ck (Lay E116) <|
  ck (t116 = 1) <|
  (f_B_takeBack E116 M116 r101 1).bind fun (r117, M117) =>
  (f_Sb_toString E116 M117 p104).bind fun (r118, E118, M118) =>
  ck (Gw E116 E118) <|
  ck (Lay E118) <|
  ck (isO 13 E118 r118) <|
  (f_La_type E118 M118 r118).bind fun M119 =>
  (f_B_ballots E118 M119 1).bind fun (r120, M120) =>
  (f_B_winner E118 M120 r100).bind fun (r121, M121) =>
  (f_B_undo E118 M121).bind fun (r122, M122) =>
  (f_B_undo E118 M122).bind fun (r123, M123) =>
  ck (rgI r120) <|
  (if r120 < 0 then
  some (0, E118, M123)
  else
  (f_B_kindAt E118 M123 r101 r121 1).bind fun r125 =>
  (f_B_kindAt E118 M123 r101 r103 1).bind fun r126 =>
  ck (rgI r125) <|
  ck (rgI r126) <|
  (if r126 ≤ r125 then
  some (0, E118, M123)
  else
  (f_B_winner E118 M123 r100).bind fun (r129, M129) =>
  ck (rgI r129) <|
  ck (rgI r103) <|
  (if r129 = r103 then
  some (1, E118, M129)
  else
  some (0, E118, M129)))))
def f_Li_latest (E : Ev) (M : Mm) : Option Nat :=
  ck (inb (M 53 10) 21) <|
  some (74 + 5 * (M 53 10).toNat)
def f_Li_isAsThen (E : Ev) (M : Mm) (x1 : Int) : Option Int :=
  (f_Li_latest E M).bind fun r100 =>
  ck (isKs E r100) <|
  ck (rgI x1) <|
  ck (rgI (M r100 2)) <|
  (if (M r100 2) ≤ x1 then
  some 0
  else
  ck (inb x1 8) <|
  ck (rgI (M 55 x1.toNat)) <|
  (if (M 55 x1.toNat) = 0 then
  ck (rgI (M (r100 + 4) x1.toNat)) <|
  (if (M (r100 + 4) x1.toNat) = 0 then
  ck (rgI (M 54 x1.toNat)) <|
  ck (rgI (M (r100 + 3) x1.toNat)) <|
  (if (M 54 x1.toNat) = (M (r100 + 3) x1.toNat) then
  some 1
  else
  some 0)
  else
  some 0)
  else
  some 0))
def Li_isUnjust_20b (E : Ev) (M : Mm) (q1 : Nat) (x2 : Int) (x3 : Int) : Option (Nat × Int) :=
  ck (isIA E q1) <|
  ck (rgI x3) <|
  ck (rgI (M 53 0)) <|
  (if (M 53 0) ≤ x3 then
  some (2, x3)
  else
  ck (inb x2 8) <|
  ck (inb x3 8) <|
  ck (rgI (M 54 x2.toNat)) <|
  ck (rgI (M 54 x3.toNat)) <|
  (if (M 54 x2.toNat) ≤ (M 54 x3.toNat) then
  some (0, (x3 + 1))
  else
  ck (inb x2 (tE E q1).2) <|
  ck (inb x3 (tE E q1).2) <|
  ck (rgI (M q1 x2.toNat)) <|
  ck (rgI (M q1 x3.toNat)) <|
  (if (M q1 x3.toNat) ≤ (M q1 x2.toNat) then
  some (0, (x3 + 1))
  else
  (f_Li_isAsThen E M x2).bind fun r113 =>
  ck (rgI r113) <|
  (if r113 = 0 then
  some (0, (x3 + 1))
  else
  (f_Li_isAsThen E M x3).bind fun r115 =>
  ck (rgI r115) <|
  (if r115 = 0 then
  some (0, (x3 + 1))
  else
  some (1, x3))))))
def l_Li_isUnjust_20 (E : Ev) (q1 : Nat) (x2 : Int) : Nat → Mm → Int → Option (Nat × Int)
  | 0, _, _ => none
  | fu + 1, M, x3 => (Li_isUnjust_20b E M q1 x2 x3).bind fun (t, w3) => if t = 0 then l_Li_isUnjust_20 E q1 x2 fu M w3 else some (t, w3)
def Li_isUnjust_10b (E : Ev) (M : Mm) (q1 : Nat) (x2 : Int) : Option (Nat × Int) :=
  ck (isIA E q1) <|
  ck (rgI x2) <|
  ck (rgI (M 53 0)) <|
  (if (M 53 0) ≤ x2 then
  some (2, x2)
  else
  (l_Li_isUnjust_20 E q1 x2 FU M 0).bind fun (t117, v117_3) =>
  (if t117 = 1 then
  some (1, 0)
  else (if t117 = 2 then
  some (0, (x2 + 1))
  else none)))
def l_Li_isUnjust_10 (E : Ev) (q1 : Nat) : Nat → Mm → Int → Option (Nat × Int)
  | 0, _, _ => none
  | fu + 1, M, x2 => (Li_isUnjust_10b E M q1 x2).bind fun (t, w2) => if t = 0 then l_Li_isUnjust_10 E q1 fu M w2 else some (t, w2)
def f_Li_isUnjust (E : Ev) (M : Mm) : Option Int :=
  (f_Li_latest E M).bind fun r100 =>
  ck (isKs E r100) <|
  (l_Li_isUnjust_10 E (r100 + 2) FU M 0).bind fun (t118, v118_2) =>
  (if t118 = 1 then
  some 1
  else (if t118 = 2 then
  some 0
  else none))
def Co_unbalancedSteps_28b (E : Ev) (M : Mm) (q1 : Nat) (x2 : Int) (x3 : Int) (x4 : Int) : Option (Nat × Int × Mm) :=
  ck (isCt E q1) <|
  ck (rgI x4) <|
  (if 9 ≤ x4 then
  some (1, x4, M)
  else
  (f_Co_loadPile E M q1 x3 x4).bind fun M104 =>
  (f_Na_add E M104 185 189).bind fun M105 =>
  some (0, (x4 + 1), M105))
def l_Co_unbalancedSteps_28 (E : Ev) (q1 : Nat) (x2 : Int) (x3 : Int) : Nat → Mm → Int → Option (Nat × Int × Mm)
  | 0, _, _ => none
  | fu + 1, M, x4 => (Co_unbalancedSteps_28b E M q1 x2 x3 x4).bind fun (t, w4, N) => if t = 0 then l_Co_unbalancedSteps_28 E q1 x2 x3 fu N w4 else some (t, w4, N)
def Co_unbalancedSteps_4b (E : Ev) (M : Mm) (q1 : Nat) (x2 : Int) (x3 : Int) : Option (Nat × Int × Int × Mm) :=
  ck (isCt E q1) <|
  ck (rgI x3) <|
  ck (rgI ((M q1 4) + (M q1 5))) <|
  (if ((M q1 4) + (M q1 5)) < x3 then
  some (1, x2, x3, M)
  else
  (f_Na_become E M 185 0).bind fun M102 =>
  (l_Co_unbalancedSteps_28 E q1 x2 x3 FU M102 0).bind fun (t106, v106_4, M106) =>
  ck (t106 = 1) <|
  (f_Na_multiplySmall E M106 191 (M106 q1 3)).bind fun M107 =>
  (f_Na_compareWith E M107 185 191).bind fun r108 =>
  ck (rgI r108) <|
  (if r108 = 0 then
  some (0, x2, (x3 + 1), M107)
  else
  some (0, (x2 + 1), (x3 + 1), M107)))
def l_Co_unbalancedSteps_4 (E : Ev) (q1 : Nat) : Nat → Mm → Int → Int → Option (Nat × Int × Int × Mm)
  | 0, _, _, _ => none
  | fu + 1, M, x2, x3 => (Co_unbalancedSteps_4b E M q1 x2 x3).bind fun (t, w2, w3, N) => if t = 0 then l_Co_unbalancedSteps_4 E q1 fu N w2 w3 else some (t, w2, w3, N)
def f_Co_unbalancedSteps (E : Ev) (M : Mm) (p1 : Nat) : Option (Int × Mm) :=
  ck (isCt E p1) <|
  (l_Co_unbalancedSteps_4 E p1 FU M 0 1).bind fun (t110, v110_2, v110_3, M110) =>
  ck (t110 = 1) <|
  some (v110_2, M110)
def B_countErrors_36b (E : Ev) (M : Mm) (q1 : Nat) (x2 : Int) (x3 : Int) (x4 : Int) : Option (Nat × Int × Int × Mm) :=
  ck (isCt E q1) <|
  ck (rgI x4) <|
  ck (rgI (M q1 4)) <|
  (if (M q1 4) ≤ x4 then
  some (1, x3, x4, M)
  else
  ck (inb x4 3) <|
  ck (shI (M (q1 + 2) x4.toNat)) <|
  ck (nnI x3) <|
  ck (nnI (2 ^ (M (q1 + 2) x4.toNat).toNat)) <|
  nb ((orI x3 (2 ^ (M (q1 + 2) x4.toNat).toNat))) fun (v109 : Int) =>
  some (0, v109, (x4 + 1), M))
def l_B_countErrors_36 (E : Ev) (q1 : Nat) (x2 : Int) : Nat → Mm → Int → Int → Option (Nat × Int × Int × Mm)
  | 0, _, _, _ => none
  | fu + 1, M, x3, x4 => (B_countErrors_36b E M q1 x2 x3 x4).bind fun (t, w3, w4, N) => if t = 0 then l_B_countErrors_36 E q1 x2 fu N w3 w4 else some (t, w3, w4, N)
def B_countErrors_j128 (E : Ev) (M : Mm) (q1 : Nat) (x2 : Int) (x3 : Int) (x4 : Int) (x5 : Int) (y0 : Int) : Option (Nat × Int × Int × Mm) :=
  ck (isCt E q1) <|
  ck (rgI y0) <|
  (if y0 = 0 then
  some (0, x4, (x5 + 1), M)
  else
  ck (nnI x5) <|
  ck (nnI x3) <|
  (if (dfI x5 x3) = 0 then
  some (0, x4, (x5 + 1), M)
  else
  some (0, (x4 + 1), (x5 + 1), M)))
def B_countErrors_92b (E : Ev) (M : Mm) (q1 : Nat) (x2 : Int) (x3 : Int) (x4 : Int) (x5 : Int) : Option (Nat × Int × Int × Mm) :=
  ck (isCt E q1) <|
  ck (rgI x5) <|
  ck (rgI x2) <|
  (if x2 < x5 then
  some (1, x4, x5, M)
  else
  ck (inb x5 256) <|
  ck (nnI (M 40 x5.toNat)) <|
  ck (psI (M q1 0)) <|
  ck (nnI x3) <|
  (f_In_bitCount E M (andI x5 x3)).bind fun r119 =>
  ck (rgI ((M 40 x5.toNat) / (M q1 0))) <|
  ck (rgI r119) <|
  (if ((M 40 x5.toNat) / (M q1 0)) ≤ r119 then
  B_countErrors_j128 E M q1 x2 x3 x4 x5 0
  else
  B_countErrors_j128 E M q1 x2 x3 x4 x5 1))
def l_B_countErrors_92 (E : Ev) (q1 : Nat) (x2 : Int) (x3 : Int) : Nat → Mm → Int → Int → Option (Nat × Int × Int × Mm)
  | 0, _, _, _ => none
  | fu + 1, M, x4, x5 => (B_countErrors_92b E M q1 x2 x3 x4 x5).bind fun (t, w4, w5, N) => if t = 0 then l_B_countErrors_92 E q1 x2 x3 fu N w4 w5 else some (t, w4, w5, N)
def f_B_countErrors (E : Ev) (M : Mm) : Option (Int × Mm) :=
  (f_Co_latest E M).bind fun r100 =>
  (match r100 with
  | none =>
  some (0, M)
  | some p100 =>
  ck (isCt E p100) <|
  ck (rgI (M p100 0)) <|
  (if 1 ≤ (M p100 0) then
  ck (shI (M p100 1)) <|
  (l_B_countErrors_36 E p100 ((2 ^ (M p100 1).toNat) - 1) FU M 0 0).bind fun (t110, v110_3, v110_4, M110) =>
  ck (t110 = 1) <|
  (f_Co_unbalancedSteps E M110 p100).bind fun (r111, M111) =>
  (f_Bx_findSupport E M111 (p100 + 1) (M111 p100 2) ((2 ^ (M p100 1).toNat) - 1)).bind fun M112 =>
  (l_B_countErrors_92 E p100 ((2 ^ (M p100 1).toNat) - 1) v110_3 FU M112 r111 1).bind fun (t125, v125_4, v125_5, M125) =>
  ck (t125 = 1) <|
  some (v125_4, M125)
  else
  some (0, M)))
def f_B_isBeaterOfAllMissed (E : Ev) (M : Mm) : Option (Int × Mm) :=
  (f_Bx_everybody E M).bind fun r100 =>
  (f_Po_open E M r100).bind fun M101 =>
  (f_Po_beaterOfAll E M101).bind fun (r102, M102) =>
  ck (rgI r102) <|
  (if r102 = (-1) then
  some (0, M102)
  else
  (f_Po_findDistances E M102).bind fun M104 =>
  (f_Po_winnersByPaths E M104).bind fun (r105, M105) =>
  ck (shI r102) <|
  ck (rgI r105) <|
  ck (rgI (2 ^ r102.toNat)) <|
  (if r105 = (2 ^ r102.toNat) then
  (f_Po_consensusPlace E M105 0).bind fun r109 =>
  ck (rgI r109) <|
  (if r109 = r102 then
  some (0, M105)
  else
  some (1, M105))
  else
  some (1, M105)))
def Cl_findSums_12b (E : Ev) (M : Mm) (x1 : Int) (x2 : Int) : Option (Nat × Int × Mm) :=
  ck (shI x1) <|
  ck (rgI x2) <|
  ck (rgI (2 ^ x1.toNat)) <|
  (if (2 ^ x1.toNat) ≤ x2 then
  some (1, x2, M)
  else
  ck (shI x1) <|
  ck (nnI x2) <|
  ck (nnI (2 ^ x1.toNat)) <|
  ck (inb x2 4096) <|
  ck (inb x1 12) <|
  nb (((M 245 x2.toNat) + (M 244 x1.toNat))) fun (v110 : Int) =>
  ck (inb (orI x2 (2 ^ x1.toNat)) 4096) <|
  some (0, (x2 + 1), (u2 M 245 (orI x2 (2 ^ x1.toNat)).toNat v110)))
def l_Cl_findSums_12 (E : Ev) (x1 : Int) : Nat → Mm → Int → Option (Nat × Int × Mm)
  | 0, _, _ => none
  | fu + 1, M, x2 => (Cl_findSums_12b E M x1 x2).bind fun (t, w2, N) => if t = 0 then l_Cl_findSums_12 E x1 fu N w2 else some (t, w2, N)
def Cl_findSums_2b (E : Ev) (M : Mm) (x1 : Int) : Option (Nat × Int × Mm) :=
  ck (rgI x1) <|
  ck (rgI (M 243 0)) <|
  (if (M 243 0) ≤ x1 then
  some (1, x1, M)
  else
  (l_Cl_findSums_12 E x1 FU M 0).bind fun (t112, v112_2, M112) =>
  ck (t112 = 1) <|
  some (0, (x1 + 1), M112))
def l_Cl_findSums_2 (E : Ev) : Nat → Mm → Int → Option (Nat × Int × Mm)
  | 0, _, _ => none
  | fu + 1, M, x1 => (Cl_findSums_2b E M x1).bind fun (t, w1, N) => if t = 0 then l_Cl_findSums_2 E fu N w1 else some (t, w1, N)
def f_Cl_findSums (E : Ev) (M : Mm) : Option Mm :=
  (l_Cl_findSums_2 E FU M 0).bind fun (t113, v113_1, M113) =>
  ck (t113 = 1) <|
  some M113
def f_Cl_isSwung (E : Ev) (M : Mm) (x1 : Int) (x2 : Int) : Option Int :=
  ck (inb x1 4096) <|
  ck (rgI (M 245 x1.toNat)) <|
  ck (rgI (M 243 1)) <|
  (if (M 243 1) ≤ (M 245 x1.toNat) then
  some 0
  else
  ck (inb x2 12) <|
  ck (rgI ((M 245 x1.toNat) + (M 244 x2.toNat))) <|
  (if ((M 245 x1.toNat) + (M 244 x2.toNat)) < (M 243 1) then
  some 0
  else
  (f_B_has E M x1 x2).bind fun r105 =>
  ck (rgI r105) <|
  (if r105 = 0 then
  some 1
  else
  some 0)))
def Cl_ordersTurnedBy_5b (E : Ev) (M : Mm) (x1 : Int) (x2 : Int) (x4 : Int) : Option (Nat × Int × Int) :=
  ck (shI (M 243 0)) <|
  ck (rgI x4) <|
  ck (rgI (2 ^ (M 243 0).toNat)) <|
  (if (2 ^ (M 243 0).toNat) ≤ x4 then
  some (1, x2, x4)
  else
  (f_Cl_isSwung E M x4 x1).bind fun r103 =>
  ck (rgI r103) <|
  (if r103 = 0 then
  some (0, x2, (x4 + 1))
  else
  (f_In_bitCount E M x4).bind fun r105 =>
  ck (inb r105 13) <|
  ck (inb (((M 243 0) - 1) - r105) 13) <|
  nb ((x2 + ((facF r105.toNat) * (facF (((M 243 0) - 1) - r105).toNat)))) fun (v110 : Int) =>
  some (0, v110, (x4 + 1))))
def l_Cl_ordersTurnedBy_5 (E : Ev) (x1 : Int) : Nat → Mm → Int → Int → Option (Nat × Int × Int)
  | 0, _, _, _ => none
  | fu + 1, M, x2, x4 => (Cl_ordersTurnedBy_5b E M x1 x2 x4).bind fun (t, w2, w4) => if t = 0 then l_Cl_ordersTurnedBy_5 E x1 fu M w2 w4 else some (t, w2, w4)
def f_Cl_ordersTurnedBy (E : Ev) (M : Mm) (x1 : Int) : Option Int :=
  (l_Cl_ordersTurnedBy_5 E x1 FU M 0 0).bind fun (t111, v111_2, v111_4) =>
  ck (t111 = 1) <|
  some v111_2
def Cl_isOrderMissed_8b (E : Ev) (M : Mm) (x1 : Int) (x3 : Int) : Option (Nat × Int × Int × Mm) :=
  ck (rgI x3) <|
  ck (rgI (M 243 0)) <|
  (if (M 243 0) ≤ x3 then
  some (1, x1, x3, M)
  else
  (f_Cl_ordersTurnedBy E M x3).bind fun r103 =>
  some (0, (x1 + r103), (x3 + 1), M))
def l_Cl_isOrderMissed_8 (E : Ev) : Nat → Mm → Int → Int → Option (Nat × Int × Int × Mm)
  | 0, _, _, _ => none
  | fu + 1, M, x1, x3 => (Cl_isOrderMissed_8b E M x1 x3).bind fun (t, w1, w3, N) => if t = 0 then l_Cl_isOrderMissed_8 E fu N w1 w3 else some (t, w1, w3, N)
def f_Cl_isOrderMissed (E : Ev) (M : Mm) : Option (Int × Mm) :=
  (f_Cl_findSums E M).bind fun M100 =>
  (l_Cl_isOrderMissed_8 E FU M100 0 0).bind fun (t104, v104_1, v104_3, M104) =>
  ck (t104 = 1) <|
  ck (rgJ v104_1) <|
  (if v104_1 = 0 then
  some (0, M104)
  else
  ck (inb (M104 243 0) 13) <|
  ck (rgJ (facF (M104 243 0).toNat)) <|
  (if v104_1 = (facF (M104 243 0).toNat) then
  some (0, M104)
  else
  some (1, M104)))
def B_errors_j32 (E : Ev) (M : Mm) (y0 : Int) (y1 : Int) : Option (Int × Mm) :=
  (f_Cl_isOrderMissed E M).bind fun (r105, M105) =>
  ck (rgI r105) <|
  (if r105 = 0 then
  some (((y1 + y0) + 0), M105)
  else
  some (((y1 + y0) + 1), M105))
def B_errors_j15 (E : Ev) (M : Mm) (y0 : Int) : Option (Int × Mm) :=
  (f_B_countErrors E M).bind fun (r102, M102) =>
  (f_B_isBeaterOfAllMissed E M102).bind fun (r103, M103) =>
  ck (rgI r103) <|
  (if r103 = 0 then
  B_errors_j32 E M103 0 (y0 + r102)
  else
  B_errors_j32 E M103 1 (y0 + r102))
def f_B_errors (E : Ev) (M : Mm) : Option (Int × Mm) :=
  (f_Li_isUnjust E M).bind fun r100 =>
  ck (rgI r100) <|
  (if r100 = 0 then
  B_errors_j15 E M 0
  else
  B_errors_j15 E M 1)
def f_Li_append (E : Ev) (M : Mm) (x1 : Int) : Option (Int × Mm) :=
  ck (inb (M 53 0) 8) <|
  nb (u2 (u2 (u2 (u2 M 54 (M 53 0).toNat x1) 55 (M 53 0).toNat 0) 56 (M 53 0).toNat (M 53 0)) 53 0 (((u2 (u2 (u2 M 54 (M 53 0).toNat x1) 55 (M 53 0).toNat 0) 56 (M 53 0).toNat (M 53 0)) 53 0) + 1)) fun (M101 : Mm) =>
  some ((M 53 0), M101)
def f_B_list (E : Ev) (M : Mm) (x1 : Int) : Option (Int × Mm) :=
  (f_B_needRange E M x1 0 10000000).bind fun _u =>
  (f_B_needRoom E M ((M 53 0) + 1) 8).bind fun _u =>
  (f_Li_append E M x1).bind fun (r102, M102) =>
  (f_B_remember E M102 5 r102 0).bind fun M103 =>
  some (r102, M103)
def f_Di_clear (E : Ev) (M : Mm) (p0 : Nat) : Option Mm :=
  ck (isDi E p0) <|
  some (u2 (u2 M p0 0 0) p0 1 0)
def f_Li_isSameUnit (E : Ev) (M : Mm) (x1 : Int) (x2 : Int) : Option Int :=
  ck (rgI x1) <|
  ck (rgI x2) <|
  (if x1 = x2 then
  some 1
  else
  ck (inb x1 8) <|
  ck (rgI (M 55 x1.toNat)) <|
  (if (M 55 x1.toNat) ≤ 0 then
  some 0
  else
  ck (inb x2 8) <|
  ck (rgI (M 55 x2.toNat)) <|
  (if (M 55 x1.toNat) = (M 55 x2.toNat) then
  some 1
  else
  some 0)))
def Li_isFirstOfUnit_2b (E : Ev) (M : Mm) (x1 : Int) (x2 : Int) : Option (Nat × Int) :=
  ck (rgI x2) <|
  ck (rgI x1) <|
  (if x1 ≤ x2 then
  some (2, x2)
  else
  (f_Li_isSameUnit E M x1 x2).bind fun r102 =>
  ck (rgI r102) <|
  (if r102 = 0 then
  some (0, (x2 + 1))
  else
  some (1, x2)))
def l_Li_isFirstOfUnit_2 (E : Ev) (x1 : Int) : Nat → Mm → Int → Option (Nat × Int)
  | 0, _, _ => none
  | fu + 1, M, x2 => (Li_isFirstOfUnit_2b E M x1 x2).bind fun (t, w2) => if t = 0 then l_Li_isFirstOfUnit_2 E x1 fu M w2 else some (t, w2)
def f_Li_isFirstOfUnit (E : Ev) (M : Mm) (x1 : Int) : Option Int :=
  (l_Li_isFirstOfUnit_2 E x1 FU M 0).bind fun (t104, v104_2) =>
  (if t104 = 1 then
  some 0
  else (if t104 = 2 then
  some 1
  else none))
def f_Di_append (E : Ev) (M : Mm) (p0 : Nat) (x1 : Int) (x2 : Int) (x4 : Int) : Option Mm :=
  ck (isDi E p0) <|
  ck (rgI (M p0 0)) <|
  (if 8 ≤ (M p0 0) then
  some M
  else
  ck (inb (M p0 0) 8) <|
  ck (inb ((u2 M (p0 + 1) (M p0 0).toNat x1) p0 0) 8) <|
  nb (u2 (u2 M (p0 + 1) (M p0 0).toNat x1) (p0 + 2) ((u2 M (p0 + 1) (M p0 0).toNat x1) p0 0).toNat x2) fun (M103 : Mm) =>
  ck (inb (M103 p0 0) 8) <|
  ck (inb ((u2 M103 (p0 + 3) (M103 p0 0).toNat x4) p0 0) 8) <|
  nb (u2 (u2 M103 (p0 + 3) (M103 p0 0).toNat x4) (p0 + 4) ((u2 M103 (p0 + 3) (M103 p0 0).toNat x4) p0 0).toNat 0) fun (M106 : Mm) =>
  some (u2 M106 p0 0 ((M106 p0 0) + 1)))
def Li_appendUnit_9b (E : Ev) (M : Mm) (x1 : Int) (x2 : Int) (x4 : Int) (x6 : Int) (x7 : Int) : Option (Nat × Int × Int × Int × Mm) :=
  ck (rgI x7) <|
  ck (rgI (M 53 0)) <|
  (if (M 53 0) ≤ x7 then
  some (1, x4, x6, x7, M)
  else
  (f_Li_isSameUnit E M x1 x7).bind fun r102 =>
  ck (rgI r102) <|
  (if r102 = 0 then
  some (0, x4, x6, (x7 + 1), M)
  else
  ck (inb x7 8) <|
  ck (rgI (M 54 x7.toNat)) <|
  some (0, (x4 + (M 54 x7.toNat)), (x6 + 1), (x7 + 1), M)))
def l_Li_appendUnit_9 (E : Ev) (x1 : Int) (x2 : Int) : Nat → Mm → Int → Int → Int → Option (Nat × Int × Int × Int × Mm)
  | 0, _, _, _, _ => none
  | fu + 1, M, x4, x6, x7 => (Li_appendUnit_9b E M x1 x2 x4 x6 x7).bind fun (t, w4, w6, w7, N) => if t = 0 then l_Li_appendUnit_9 E x1 x2 fu N w4 w6 w7 else some (t, w4, w6, w7, N)
def f_Li_appendUnit (E : Ev) (M : Mm) (x1 : Int) (x2 : Int) : Option Mm :=
  (l_Li_appendUnit_9 E x1 x2 FU M 0 0 x1).bind fun (t106, v106_4, v106_6, v106_7, M106) =>
  ck (t106 = 1) <|
  ck (rgJ v106_4) <|
  (if v106_4 ≤ 0 then
  some M106
  else
  ck (rgJ (v106_4 * 100)) <|
  ck (rgJ x2) <|
  (if (v106_4 * 100) < x2 then
  some M106
  else
  ck (inb x1 8) <|
  (f_Di_append E M106 57 x1 v106_4 (M106 56 x1.toNat)).bind fun M111 =>
  ck (rgI (M111 53 6)) <|
  (if (M111 53 6) = 0 then
  ck (rgI v106_6) <|
  (if v106_6 ≤ 1 then
  some (u2 M111 53 6 0)
  else
  some (u2 M111 53 6 1))
  else
  some (u2 M111 53 6 1))))
def f_Di_give (E : Ev) (M : Mm) (p0 : Nat) (x1 : Int) : Option Mm :=
  ck (isDi E p0) <|
  ck (inb x1 8) <|
  ck (rgI ((u2 M (p0 + 4) x1.toNat ((M (p0 + 4) x1.toNat) + 1)) p0 1)) <|
  (if 61 ≤ ((u2 M (p0 + 4) x1.toNat ((M (p0 + 4) x1.toNat) + 1)) p0 1) then
  some (u2 M (p0 + 4) x1.toNat ((M (p0 + 4) x1.toNat) + 1))
  else
  nb (((u2 M (p0 + 4) x1.toNat ((M (p0 + 4) x1.toNat) + 1)) (p0 + 1) x1.toNat)) fun (v102 : Int) =>
  ck (inb ((u2 M (p0 + 4) x1.toNat ((M (p0 + 4) x1.toNat) + 1)) p0 1) 61) <|
  nb (u2 (u2 M (p0 + 4) x1.toNat ((M (p0 + 4) x1.toNat) + 1)) (p0 + 6) ((u2 M (p0 + 4) x1.toNat ((M (p0 + 4) x1.toNat) + 1)) p0 1).toNat v102) fun (M104 : Mm) =>
  some (u2 M104 p0 1 ((M104 p0 1) + 1)))
def f_Di_winsTie (E : Ev) (M : Mm) (p0 : Nat) (x1 : Int) (x2 : Int) : Option Int :=
  ck (isDi E p0) <|
  ck (inb x1 8) <|
  ck (inb x2 8) <|
  ck (rgJ (M (p0 + 2) x1.toNat)) <|
  ck (rgJ (M (p0 + 2) x2.toNat)) <|
  (if (M (p0 + 2) x1.toNat) = (M (p0 + 2) x2.toNat) then
  ck (rgI (M (p0 + 3) x1.toNat)) <|
  ck (rgI (M (p0 + 3) x2.toNat)) <|
  (if (M (p0 + 3) x1.toNat) < (M (p0 + 3) x2.toNat) then
  some 1
  else
  (if (M (p0 + 3) x1.toNat) = (M (p0 + 3) x2.toNat) then
  ck (rgI (M (p0 + 1) x1.toNat)) <|
  ck (rgI (M (p0 + 1) x2.toNat)) <|
  (if (M (p0 + 1) x2.toNat) ≤ (M (p0 + 1) x1.toNat) then
  some 0
  else
  some 1)
  else
  some 0))
  else
  (if (M (p0 + 2) x1.toNat) ≤ (M (p0 + 2) x2.toNat) then
  some 0
  else
  some 1))
def Di_giveToGreatestRemainder_4b (E : Ev) (M : Mm) (q0 : Nat) (x1 : Int) (x2 : Int) : Option (Nat × Int × Int × Mm) :=
  ck (isDi E q0) <|
  ck (rgI x2) <|
  ck (rgI (M q0 0)) <|
  (if (M q0 0) ≤ x2 then
  some (1, x1, x2, M)
  else
  ck (inb x2 8) <|
  ck (inb x1 8) <|
  ck (rgJ (M (q0 + 5) x2.toNat)) <|
  ck (rgJ (M (q0 + 5) x1.toNat)) <|
  (if (M (q0 + 5) x1.toNat) < (M (q0 + 5) x2.toNat) then
  some (0, x2, (x2 + 1), M)
  else
  (if (M (q0 + 5) x2.toNat) = (M (q0 + 5) x1.toNat) then
  (f_Di_winsTie E M q0 x2 x1).bind fun r106 =>
  ck (rgI r106) <|
  (if r106 = 0 then
  some (0, x1, (x2 + 1), M)
  else
  some (0, x2, (x2 + 1), M))
  else
  some (0, x1, (x2 + 1), M))))
def l_Di_giveToGreatestRemainder_4 (E : Ev) (q0 : Nat) : Nat → Mm → Int → Int → Option (Nat × Int × Int × Mm)
  | 0, _, _, _ => none
  | fu + 1, M, x1, x2 => (Di_giveToGreatestRemainder_4b E M q0 x1 x2).bind fun (t, w1, w2, N) => if t = 0 then l_Di_giveToGreatestRemainder_4 E q0 fu N w1 w2 else some (t, w1, w2, N)
def f_Di_giveToGreatestRemainder (E : Ev) (M : Mm) (p0 : Nat) : Option Mm :=
  ck (isDi E p0) <|
  (l_Di_giveToGreatestRemainder_4 E p0 FU M 0 1).bind fun (t108, v108_1, v108_2, M108) =>
  ck (t108 = 1) <|
  (f_Di_give E M108 p0 v108_1).bind fun M109 =>
  ck (inb v108_1 8) <|
  some (u2 M109 (p0 + 5) v108_1.toNat (-1))
def Di_distributeByRemainders_5b (E : Ev) (M : Mm) (q0 : Nat) (x1 : Int) (x2 : Int) (x4 : Int) : Option (Nat × Int × Int × Mm) :=
  ck (isDi E q0) <|
  ck (rgI x4) <|
  ck (rgI (M q0 0)) <|
  (if (M q0 0) ≤ x4 then
  some (1, x2, x4, M)
  else
  ck (inb x4 8) <|
  some (0, (x2 + (M (q0 + 2) x4.toNat)), (x4 + 1), M))
def l_Di_distributeByRemainders_5 (E : Ev) (q0 : Nat) (x1 : Int) : Nat → Mm → Int → Int → Option (Nat × Int × Int × Mm)
  | 0, _, _, _ => none
  | fu + 1, M, x2, x4 => (Di_distributeByRemainders_5b E M q0 x1 x2 x4).bind fun (t, w2, w4, N) => if t = 0 then l_Di_distributeByRemainders_5 E q0 x1 fu N w2 w4 else some (t, w2, w4, N)
def Di_distributeByRemainders_89b (E : Ev) (M : Mm) (q0 : Nat) (x1 : Int) (x2 : Int) (x4 : Int) (x5 : Int) (x6 : Int) (x7 : Int) : Option (Nat × Int × Mm) :=
  ck (isDi E q0) <|
  ck (rgI x7) <|
  ck (rgI x6) <|
  (if x6 ≤ x7 then
  some (1, x7, M)
  else
  (f_Di_give E M q0 x5).bind fun M116 =>
  some (0, (x7 + 1), M116))
def l_Di_distributeByRemainders_89 (E : Ev) (q0 : Nat) (x1 : Int) (x2 : Int) (x4 : Int) (x5 : Int) (x6 : Int) : Nat → Mm → Int → Option (Nat × Int × Mm)
  | 0, _, _ => none
  | fu + 1, M, x7 => (Di_distributeByRemainders_89b E M q0 x1 x2 x4 x5 x6 x7).bind fun (t, w7, N) => if t = 0 then l_Di_distributeByRemainders_89 E q0 x1 x2 x4 x5 x6 fu N w7 else some (t, w7, N)
def Di_distributeByRemainders_43b (E : Ev) (M : Mm) (q0 : Nat) (x1 : Int) (x2 : Int) (x4 : Int) (x5 : Int) : Option (Nat × Int × Int × Mm) :=
  ck (isDi E q0) <|
  ck (rgI x5) <|
  ck (rgI (M q0 0)) <|
  (if (M q0 0) ≤ x5 then
  some (1, x4, x5, M)
  else
  ck (inb x5 8) <|
  ck (rgI x1) <|
  ck (nnJ ((M (q0 + 2) x5.toNat) * x1)) <|
  ck (psJ x2) <|
  nb ((((M (q0 + 2) x5.toNat) * x1) / x2)) fun (v111 : Int) =>
  ck (psJ x2) <|
  nb ((((M (q0 + 2) x5.toNat) * x1) % x2)) fun (v113 : Int) =>
  (l_Di_distributeByRemainders_89 E q0 x1 x2 x4 x5 v111 FU (u2 M (q0 + 5) x5.toNat v113) 0).bind fun (t117, v117_7, M117) =>
  ck (t117 = 1) <|
  some (0, (x4 + v111), (x5 + 1), M117))
def l_Di_distributeByRemainders_43 (E : Ev) (q0 : Nat) (x1 : Int) (x2 : Int) : Nat → Mm → Int → Int → Option (Nat × Int × Int × Mm)
  | 0, _, _, _ => none
  | fu + 1, M, x4, x5 => (Di_distributeByRemainders_43b E M q0 x1 x2 x4 x5).bind fun (t, w4, w5, N) => if t = 0 then l_Di_distributeByRemainders_43 E q0 x1 x2 fu N w4 w5 else some (t, w4, w5, N)
def Di_distributeByRemainders_125b (E : Ev) (M : Mm) (q0 : Nat) (x1 : Int) (x5 : Int) : Option (Nat × Int × Mm) :=
  ck (isDi E q0) <|
  ck (rgI x5) <|
  ck (rgI x1) <|
  (if x1 ≤ x5 then
  some (1, x5, M)
  else
  (f_Di_giveToGreatestRemainder E M q0).bind fun M121 =>
  some (0, (x5 + 1), M121))
def l_Di_distributeByRemainders_125 (E : Ev) (q0 : Nat) (x1 : Int) : Nat → Mm → Int → Option (Nat × Int × Mm)
  | 0, _, _ => none
  | fu + 1, M, x5 => (Di_distributeByRemainders_125b E M q0 x1 x5).bind fun (t, w5, N) => if t = 0 then l_Di_distributeByRemainders_125 E q0 x1 fu N w5 else some (t, w5, N)
def f_Di_distributeByRemainders (E : Ev) (M : Mm) (p0 : Nat) (x1 : Int) : Option Mm :=
  ck (isDi E p0) <|
  (l_Di_distributeByRemainders_5 E p0 x1 FU M 0 0).bind fun (t103, v103_2, v103_4, M103) =>
  ck (t103 = 1) <|
  ck (rgJ v103_2) <|
  (if v103_2 = 0 then
  some M103
  else
  (l_Di_distributeByRemainders_43 E p0 x1 v103_2 FU M103 0 0).bind fun (t118, v118_4, v118_5, M118) =>
  ck (t118 = 1) <|
  (l_Di_distributeByRemainders_125 E p0 x1 FU M118 v118_4).bind fun (t122, v122_5, M122) =>
  ck (t122 = 1) <|
  some M122)
def f_Di_divisor (E : Ev) (M : Mm) (p0 : Nat) (x1 : Int) (x2 : Int) : Option Int :=
  ck (isDi E p0) <|
  ck (rgI x1) <|
  (if x1 = 0 then
  ck (rgI (x2 + 1)) <|
  some (x2 + 1)
  else
  (if x1 = 1 then
  ck (rgI ((2 * x2) + 1)) <|
  some ((2 * x2) + 1)
  else
  (if x1 = 2 then
  ck (rgI x2) <|
  (if x2 = 0 then
  some 14
  else
  ck (rgI ((20 * x2) + 10)) <|
  some ((20 * x2) + 10))
  else
  (if x1 = 3 then
  ck (rgI ((3 * x2) + 1)) <|
  some ((3 * x2) + 1)
  else
  ck (rgI (x2 + 2)) <|
  some (x2 + 2)))))
def f_Di_hasGreaterQuotient (E : Ev) (M : Mm) (p0 : Nat) (x1 : Int) (x2 : Int) (x3 : Int) : Option Int :=
  ck (isDi E p0) <|
  ck (inb x1 8) <|
  ck (inb x2 8) <|
  (f_Di_divisor E M p0 x3 (M (p0 + 4) x2.toNat)).bind fun r102 =>
  nb (((M (p0 + 2) x1.toNat) * r102)) fun (v103 : Int) =>
  (f_Di_divisor E M p0 x3 (M (p0 + 4) x1.toNat)).bind fun r104 =>
  nb (((M (p0 + 2) x2.toNat) * r104)) fun (v105 : Int) =>
  ck (rgJ v103) <|
  ck (rgJ v105) <|
  (if v105 < v103 then
  some 1
  else
  (if v103 = v105 then
  (f_Di_winsTie E M p0 x1 x2).bind fun r108 =>
  ck (rgI r108) <|
  (if r108 = 0 then
  some 0
  else
  some 1)
  else
  some 0))
def Di_distribute_32b (E : Ev) (M : Mm) (q0 : Nat) (x1 : Int) (x2 : Int) (x3 : Int) (x4 : Int) (x5 : Int) : Option (Nat × Int × Int × Mm) :=
  ck (isDi E q0) <|
  ck (rgI x5) <|
  ck (rgI (M q0 0)) <|
  (if (M q0 0) ≤ x5 then
  some (1, x4, x5, M)
  else
  (f_Di_hasGreaterQuotient E M q0 x5 x4 x1).bind fun r106 =>
  ck (rgI r106) <|
  (if r106 = 0 then
  some (0, x4, (x5 + 1), M)
  else
  some (0, x5, (x5 + 1), M)))
def l_Di_distribute_32 (E : Ev) (q0 : Nat) (x1 : Int) (x2 : Int) (x3 : Int) : Nat → Mm → Int → Int → Option (Nat × Int × Int × Mm)
  | 0, _, _, _ => none
  | fu + 1, M, x4, x5 => (Di_distribute_32b E M q0 x1 x2 x3 x4 x5).bind fun (t, w4, w5, N) => if t = 0 then l_Di_distribute_32 E q0 x1 x2 x3 fu N w4 w5 else some (t, w4, w5, N)
def Di_distribute_21b (E : Ev) (M : Mm) (q0 : Nat) (x1 : Int) (x2 : Int) (x3 : Int) : Option (Nat × Int × Mm) :=
  ck (isDi E q0) <|
  ck (rgI x3) <|
  ck (rgI x2) <|
  (if x2 ≤ x3 then
  some (1, x3, M)
  else
  (l_Di_distribute_32 E q0 x1 x2 x3 FU M 0 1).bind fun (t108, v108_4, v108_5, M108) =>
  ck (t108 = 1) <|
  (f_Di_give E M108 q0 v108_4).bind fun M109 =>
  some (0, (x3 + 1), M109))
def l_Di_distribute_21 (E : Ev) (q0 : Nat) (x1 : Int) (x2 : Int) : Nat → Mm → Int → Option (Nat × Int × Mm)
  | 0, _, _ => none
  | fu + 1, M, x3 => (Di_distribute_21b E M q0 x1 x2 x3).bind fun (t, w3, N) => if t = 0 then l_Di_distribute_21 E q0 x1 x2 fu N w3 else some (t, w3, N)
def f_Di_distribute (E : Ev) (M : Mm) (p0 : Nat) (x1 : Int) (x2 : Int) : Option Mm :=
  ck (isDi E p0) <|
  ck (rgI (M p0 0)) <|
  (if (M p0 0) = 0 then
  some M
  else
  ck (rgI x1) <|
  (if x1 = 5 then
  (f_Di_distributeByRemainders E M p0 x2).bind fun M111 =>
  some M111
  else
  (l_Di_distribute_21 E p0 x1 x2 FU M 0).bind fun (t110, v110_3, M110) =>
  ck (t110 = 1) <|
  some M110))
def Li_spreadInside_10b (E : Ev) (M : Mm) (x1 : Int) (x2 : Int) (x3 : Int) (x4 : Int) : Option (Nat × Int × Mm) :=
  ck (rgI x4) <|
  ck (rgI (M 53 0)) <|
  (if (M 53 0) ≤ x4 then
  some (1, x4, M)
  else
  (f_Li_isSameUnit E M x1 x4).bind fun r103 =>
  ck (rgI r103) <|
  (if r103 = 0 then
  some (0, (x4 + 1), M)
  else
  ck (inb x4 8) <|
  ck (rgI (M 54 x4.toNat)) <|
  (if (M 54 x4.toNat) ≤ 0 then
  some (0, (x4 + 1), M)
  else
  (f_Di_append E M 64 x4 (M 54 x4.toNat) (M 56 x4.toNat)).bind fun M107 =>
  some (0, (x4 + 1), M107))))
def l_Li_spreadInside_10 (E : Ev) (x1 : Int) (x2 : Int) (x3 : Int) : Nat → Mm → Int → Option (Nat × Int × Mm)
  | 0, _, _ => none
  | fu + 1, M, x4 => (Li_spreadInside_10b E M x1 x2 x3 x4).bind fun (t, w4, N) => if t = 0 then l_Li_spreadInside_10 E x1 x2 x3 fu N w4 else some (t, w4, N)
def Li_spreadInside_81b (E : Ev) (M : Mm) (x4 : Int) : Option (Nat × Int × Mm) :=
  ck (rgI x4) <|
  ck (rgI (M 64 0)) <|
  (if (M 64 0) ≤ x4 then
  some (1, x4, M)
  else
  ck (inb x4 8) <|
  ck (inb (M 65 x4.toNat) 8) <|
  some (0, (x4 + 1), (u2 M 71 (M 65 x4.toNat).toNat (M 68 x4.toNat))))
def l_Li_spreadInside_81 (E : Ev) : Nat → Mm → Int → Option (Nat × Int × Mm)
  | 0, _, _ => none
  | fu + 1, M, x4 => (Li_spreadInside_81b E M x4).bind fun (t, w4, N) => if t = 0 then l_Li_spreadInside_81 E fu N w4 else some (t, w4, N)
def f_Li_spreadInside (E : Ev) (M : Mm) (x1 : Int) (x2 : Int) (x3 : Int) : Option Mm :=
  (f_Di_clear E M 64).bind fun M100 =>
  (l_Li_spreadInside_10 E x1 x2 x3 FU M100 x1).bind fun (t108, v108_4, M108) =>
  ck (t108 = 1) <|
  (f_Di_distribute E M108 64 x2 x3).bind fun M109 =>
  (l_Li_spreadInside_81 E FU M109 0).bind fun (t114, v114_4, M114) =>
  ck (t114 = 1) <|
  some M114
def Li_spread_6b (E : Ev) (M : Mm) (x1 : Int) (x2 : Int) (x3 : Int) (x4 : Int) (x6 : Int) : Option (Nat × Int × Int × Mm) :=
  ck (rgI x6) <|
  ck (rgI (M 53 0)) <|
  (if (M 53 0) ≤ x6 then
  some (1, x4, x6, M)
  else
  ck (inb x6 8) <|
  ck (rgI (M 54 x6.toNat)) <|
  some (0, (x4 + (M 54 x6.toNat)), (x6 + 1), M))
def l_Li_spread_6 (E : Ev) (x1 : Int) (x2 : Int) (x3 : Int) : Nat → Mm → Int → Int → Option (Nat × Int × Int × Mm)
  | 0, _, _, _ => none
  | fu + 1, M, x4, x6 => (Li_spread_6b E M x1 x2 x3 x4 x6).bind fun (t, w4, w6, N) => if t = 0 then l_Li_spread_6 E x1 x2 x3 fu N w4 w6 else some (t, w4, w6, N)
def Li_spread_49b (E : Ev) (M : Mm) (x1 : Int) (x2 : Int) (x3 : Int) (x4 : Int) (x6 : Int) : Option (Nat × Int × Mm) :=
  ck (rgI x6) <|
  ck (rgI (M 53 0)) <|
  (if (M 53 0) ≤ x6 then
  some (1, x6, M)
  else
  (f_Li_isFirstOfUnit E M x6).bind fun r108 =>
  ck (rgI r108) <|
  (if r108 = 0 then
  some (0, (x6 + 1), M)
  else
  ck (rgI x3) <|
  (f_Li_appendUnit E M x6 (x3 * x4)).bind fun M111 =>
  some (0, (x6 + 1), M111)))
def l_Li_spread_49 (E : Ev) (x1 : Int) (x2 : Int) (x3 : Int) (x4 : Int) : Nat → Mm → Int → Option (Nat × Int × Mm)
  | 0, _, _ => none
  | fu + 1, M, x6 => (Li_spread_49b E M x1 x2 x3 x4 x6).bind fun (t, w6, N) => if t = 0 then l_Li_spread_49 E x1 x2 x3 x4 fu N w6 else some (t, w6, N)
def Li_spread_104b (E : Ev) (M : Mm) (x1 : Int) (x6 : Int) : Option (Nat × Int × Mm) :=
  ck (rgI x6) <|
  ck (rgI (M 57 0)) <|
  (if (M 57 0) ≤ x6 then
  some (1, x6, M)
  else
  ck (inb x6 8) <|
  (f_Li_spreadInside E M (M 58 x6.toNat) x1 (M 61 x6.toNat)).bind fun M118 =>
  some (0, (x6 + 1), M118))
def l_Li_spread_104 (E : Ev) (x1 : Int) : Nat → Mm → Int → Option (Nat × Int × Mm)
  | 0, _, _ => none
  | fu + 1, M, x6 => (Li_spread_104b E M x1 x6).bind fun (t, w6, N) => if t = 0 then l_Li_spread_104 E x1 fu N w6 else some (t, w6, N)
def f_Li_spread (E : Ev) (M : Mm) (x1 : Int) (x2 : Int) (x3 : Int) : Option (Int × Mm) :=
  (l_Li_spread_6 E x1 x2 x3 FU M 0 0).bind fun (t104, v104_4, v104_6, M104) =>
  ck (t104 = 1) <|
  (f_Di_clear E M104 57).bind fun M105 =>
  (l_Li_spread_49 E x1 x2 x3 v104_4 FU (u2 M105 53 6 0) 0).bind fun (t112, v112_6, M112) =>
  ck (t112 = 1) <|
  (f_Di_distribute E M112 57 x1 x2).bind fun M113 =>
  (f_Ar_fillI E M113 71 0).bind fun M114 =>
  (l_Li_spread_104 E x1 FU M114 0).bind fun (t119, v119_6, M119) =>
  ck (t119 = 1) <|
  some ((M119 57 0), M119)
def f_Li_keepSpread (E : Ev) (M : Mm) : Option Mm :=
  ck (nnI ((M 53 10) + 1)) <|
  ck (inb ((u2 M 53 10 (((M 53 10) + 1) % 21)) 53 10) 21) <|
  ck (rgI ((u2 M 53 10 (((M 53 10) + 1) % 21)) 57 1)) <|
  nb ((min ((u2 M 53 10 (((M 53 10) + 1) % 21)) 57 1) 60)) fun (v103 : Int) =>
  nb (u2 (u2 M 53 10 (((M 53 10) + 1) % 21)) (74 + 5 * ((u2 M 53 10 (((M 53 10) + 1) % 21)) 53 10).toNat) 0 v103) fun (M104 : Mm) =>
  ck ((M104 53 6) = 0 ∨ (M104 53 6) = 1) <|
  nb (u2 (u2 M104 (74 + 5 * ((u2 M 53 10 (((M 53 10) + 1) % 21)) 53 10).toNat) 1 (M104 53 6)) (74 + 5 * ((u2 M 53 10 (((M 53 10) + 1) % 21)) 53 10).toNat) 2 ((u2 M104 (74 + 5 * ((u2 M 53 10 (((M 53 10) + 1) % 21)) 53 10).toNat) 1 (M104 53 6)) 53 0)) fun (M106 : Mm) =>
  ck (cpk 0 0 (M106 (74 + 5 * ((u2 M 53 10 (((M 53 10) + 1) % 21)) 53 10).toNat) 0) 61 60) <|
  nb (uA M106 ((74 + 5 * ((u2 M 53 10 (((M 53 10) + 1) % 21)) 53 10).toNat) + 1) (va_cpy (M106 63) (M106 ((74 + 5 * ((u2 M 53 10 (((M 53 10) + 1) % 21)) 53 10).toNat) + 1)) 0 0 (M106 (74 + 5 * ((u2 M 53 10 (((M 53 10) + 1) % 21)) 53 10).toNat) 0).toNat)) fun (M108 : Mm) =>
  ck (cpk 0 0 8 8 8) <|
  nb (uA M108 ((74 + 5 * ((u2 M 53 10 (((M 53 10) + 1) % 21)) 53 10).toNat) + 2) (va_cpy (M108 71) (M108 ((74 + 5 * ((u2 M 53 10 (((M 53 10) + 1) % 21)) 53 10).toNat) + 2)) 0 0 8)) fun (M110 : Mm) =>
  ck (cpk 0 0 8 8 8) <|
  nb (uA M110 ((74 + 5 * ((u2 M 53 10 (((M 53 10) + 1) % 21)) 53 10).toNat) + 3) (va_cpy (M110 54) (M110 ((74 + 5 * ((u2 M 53 10 (((M 53 10) + 1) % 21)) 53 10).toNat) + 3)) 0 0 8)) fun (M112 : Mm) =>
  ck (cpk 0 0 8 8 8) <|
  nb (uA M112 ((74 + 5 * ((u2 M 53 10 (((M 53 10) + 1) % 21)) 53 10).toNat) + 4) (va_cpy (M112 55) (M112 ((74 + 5 * ((u2 M 53 10 (((M 53 10) + 1) % 21)) 53 10).toNat) + 4)) 0 0 8)) fun (M114 : Mm) =>
  some M114
def f_B_seats (E : Ev) (M : Mm) (x1 : Int) (x2 : Int) (x3 : Int) : Option (Int × Mm) :=
  (f_B_needRange E M x1 0 5).bind fun _u =>
  (f_B_needRange E M x2 1 60).bind fun _u =>
  (f_B_needRange E M x3 0 20).bind fun _u =>
  (f_Li_spread E M x1 x2 x3).bind fun (r103, M103) =>
  (f_Li_keepSpread E M103).bind fun M104 =>
  (f_B_remember E M104 8 0 0).bind fun M105 =>
  some (r103, M105)
def f_B_seatsOf (E : Ev) (M : Mm) (x1 : Int) : Option Int :=
  (f_B_needIndex E M x1 (M 53 0)).bind fun _u =>
  (f_Li_latest E M).bind fun r101 =>
  ck (isKs E r101) <|
  ck (inb x1 8) <|
  some (M (r101 + 2) x1.toNat)
def La_divisor_j35 (E : Ev) (M : Mm) (x0 : Int) (x1 : Int) : Option Int :=
  ck (rgI x0) <|
  (if x0 = 2 then
  some 7
  else
  (if x0 = 3 then
  some ((15 * x1) + 5)
  else
  some ((5 * x1) + 10)))
def f_La_divisor (E : Ev) (M : Mm) (x0 : Int) (x1 : Int) : Option Int :=
  ck (rgI x0) <|
  (if x0 = 0 then
  some ((5 * x1) + 5)
  else
  (if x0 = 1 then
  some ((10 * x1) + 5)
  else
  (if x0 = 2 then
  ck (rgI x1) <|
  (if x1 ≤ 0 then
  La_divisor_j35 E M x0 x1
  else
  some ((10 * x1) + 5))
  else
  La_divisor_j35 E M x0 x1)))
def B_seatAt_j24 (E : Ev) (M : Mm) (x1 : Int) (q2 : Nat) (y0 : Int) (y1 : Int) : Option Int :=
  ck (isKs E q2) <|
  (f_B_needPlace E M y1 y0).bind fun _u =>
  ck (inb x1 60) <|
  some (M (q2 + 1) x1.toNat)
def f_B_seatAt (E : Ev) (M : Mm) (x1 : Int) : Option Int :=
  (f_Li_latest E M).bind fun r100 =>
  ck (isKs E r100) <|
  ck (rgI (M r100 1)) <|
  (if (M r100 1) = 0 then
  B_seatAt_j24 E M x1 r100 (M r100 0) x1
  else
  B_seatAt_j24 E M x1 r100 0 x1)
def f_B_ally (E : Ev) (M : Mm) (x1 : Int) (x2 : Int) : Option (Int × Mm) :=
  (f_B_needIndex E M x1 (M 53 0)).bind fun _u =>
  (f_B_needRange E M x2 0 4).bind fun _u =>
  ck (inb x1 8) <|
  (f_B_remember E (u2 M 55 x1.toNat x2) 7 x1 (M 55 x1.toNat)).bind fun M103 =>
  some ((M 55 x1.toNat), M103)
def La_seats_j59 (E : Ev) (M : Mm) (q0 : Nat) (x2 : Int) (q3 : Nat) (x4 : Int) (x6 : Int) (y0 : Int) (y1 : Int) (y2 : Nat) : Option (Nat × Int × Int × Ev × Mm) :=
  ck (Lay E) <|
  ck (isIA E q0) <|
  ck (isIA E q3) <|
  ck (isIA E y2) <|
  ck (inb y1 (tE E y2).2) <|
  ck (inb x6 (tE E q3).2) <|
  ck (rgI ((u2 M y2 y1.toNat y0) q3 x6.toNat)) <|
  nb ((x4 + ((u2 M y2 y1.toNat y0) q3 x6.toNat))) fun (v113 : Int) =>
  (f_B_list E (u2 M y2 y1.toNat y0) ((u2 M y2 y1.toNat y0) q3 x6.toNat)).bind fun (r114, M114) =>
  (f_La_next E M114 q0 3).bind fun (r115, M115) =>
  ck (rgI r115) <|
  (if r115 = 0 then
  (f_La_next E M115 q0 100).bind fun (r117, M117) =>
  (f_B_setLot E M117 1 x6 r117).bind fun (r118, M118) =>
  some (0, v113, (x6 + 1), E, M118)
  else
  some (0, v113, (x6 + 1), E, M115))
def La_seats_27b (E : Ev) (M : Mm) (q0 : Nat) (x2 : Int) (q3 : Nat) (x4 : Int) (x6 : Int) : Option (Nat × Int × Int × Ev × Mm) :=
  ck (Lay E) <|
  ck (isIA E q0) <|
  ck (isIA E q3) <|
  ck (rgI x6) <|
  ck (rgI x2) <|
  (if x2 ≤ x6 then
  some (1, x4, x6, E, M)
  else
  (f_La_next E M q0 3).bind fun (r107, M107) =>
  ck (rgI r107) <|
  (if r107 = 0 then
  (f_La_next E M107 q0 20).bind fun (r119, M119) =>
  La_seats_j59 E M119 q0 x2 q3 x4 x6 r119 x6 q3
  else
  (f_La_next E M107 q0 100000).bind fun (r109, M109) =>
  La_seats_j59 E M109 q0 x2 q3 x4 x6 r109 x6 q3))
def l_La_seats_27 (q0 : Nat) (x2 : Int) (q3 : Nat) : Nat → Ev → Mm → Int → Int → Option (Nat × Int × Int × Ev × Mm)
  | 0, _, _, _, _ => none
  | fu + 1, E, M, x4, x6 => (La_seats_27b E M q0 x2 q3 x4 x6).bind fun (t, w4, w6, F, N) => if t = 0 then l_La_seats_27 q0 x2 q3 fu F N w4 w6 else some (t, w4, w6, F, N)
def La_seats_j238 (E : Ev) (M : Mm) (q0 : Nat) (x2 : Int) (q3 : Nat) (x4 : Int) (x6 : Int) (x7 : Int) (x8 : Int) (x9 : Int) (x12 : Int) (x13 : Int) (x14 : Int) (y0 : Int) : Option (Nat × Int × Int × Ev × Mm) :=
  ck (Lay E) <|
  ck (isIA E q0) <|
  ck (isIA E q3) <|
  ck (rgI y0) <|
  (if y0 = 0 then
  some (0, 0, (x14 + 1), E, M)
  else
  ck (rgI x6) <|
  (if x6 = 5 then
  some (0, 1, (x14 + 1), E, M)
  else
  ck (rgI x13) <|
  (if x13 = 0 then
  some (0, 1, (x14 + 1), E, M)
  else
  ck (inb x12 (tE E q3).2) <|
  ck (rgI (M q3 x12.toNat)) <|
  (f_B_seatsOf E M x14).bind fun r137 =>
  (f_La_divisor E M x6 r137).bind fun r138 =>
  ck (rgI r138) <|
  ck (inb x14 (tE E q3).2) <|
  ck (rgI (M q3 x14.toNat)) <|
  (f_La_divisor E M x6 (x13 - 1)).bind fun r142 =>
  ck (rgI r142) <|
  ck (rgJ ((M q3 x12.toNat) * r138)) <|
  ck (rgJ ((M q3 x14.toNat) * r142)) <|
  (if ((M q3 x12.toNat) * r138) < ((M q3 x14.toNat) * r142) then
  some (0, 0, (x14 + 1), E, M)
  else
  some (0, 1, (x14 + 1), E, M)))))
def La_seats_200b (E : Ev) (M : Mm) (q0 : Nat) (x2 : Int) (q3 : Nat) (x4 : Int) (x6 : Int) (x7 : Int) (x8 : Int) (x9 : Int) (x12 : Int) (x13 : Int) (x11 : Int) (x14 : Int) : Option (Nat × Int × Int × Ev × Mm) :=
  ck (Lay E) <|
  ck (isIA E q0) <|
  ck (isIA E q3) <|
  ck (rgI x14) <|
  ck (rgI x2) <|
  (if x2 ≤ x14 then
  some (1, x11, x14, E, M)
  else
  ck (rgI x11) <|
  (if x11 = 0 then
  La_seats_j238 E M q0 x2 q3 x4 x6 x7 x8 x9 x12 x13 x14 0
  else
  ck (inb x12 (tE E q3).2) <|
  ck (inb x14 (tE E q3).2) <|
  ck (rgI (M q3 x12.toNat)) <|
  ck (rgI (M q3 x14.toNat)) <|
  (if (M q3 x12.toNat) ≤ (M q3 x14.toNat) then
  La_seats_j238 E M q0 x2 q3 x4 x6 x7 x8 x9 x12 x13 x14 1
  else
  (f_B_seatsOf E M x14).bind fun r150 =>
  ck (rgI x13) <|
  ck (rgI r150) <|
  (if x13 < r150 then
  La_seats_j238 E M q0 x2 q3 x4 x6 x7 x8 x9 x12 x13 x14 0
  else
  La_seats_j238 E M q0 x2 q3 x4 x6 x7 x8 x9 x12 x13 x14 1))))
def l_La_seats_200 (q0 : Nat) (x2 : Int) (q3 : Nat) (x4 : Int) (x6 : Int) (x7 : Int) (x8 : Int) (x9 : Int) (x12 : Int) (x13 : Int) : Nat → Ev → Mm → Int → Int → Option (Nat × Int × Int × Ev × Mm)
  | 0, _, _, _, _ => none
  | fu + 1, E, M, x11, x14 => (La_seats_200b E M q0 x2 q3 x4 x6 x7 x8 x9 x12 x13 x11 x14).bind fun (t, w11, w14, F, N) => if t = 0 then l_La_seats_200 q0 x2 q3 x4 x6 x7 x8 x9 x12 x13 fu F N w11 w14 else some (t, w11, w14, F, N)
def La_seats_151b (E : Ev) (M : Mm) (q0 : Nat) (x2 : Int) (q3 : Nat) (x4 : Int) (x6 : Int) (x7 : Int) (x8 : Int) (x9 : Int) (x11 : Int) (x12 : Int) : Option (Nat × Int × Int × Int × Ev × Mm) :=
  ck (Lay E) <|
  ck (isIA E q0) <|
  ck (isIA E q3) <|
  ck (rgI x12) <|
  ck (rgI x2) <|
  (if x2 ≤ x12 then
  some (1, x9, x11, x12, E, M)
  else
  (f_B_seatsOf E M x12).bind fun r126 =>
  ck (rgI r126) <|
  ck (rgI x11) <|
  (if x11 = 0 then
  (l_La_seats_200 q0 x2 q3 x4 x6 x7 x8 (x9 + r126) x12 r126 5000 E M 0 0).bind fun (t153, v153_11, v153_14, E153, M153) =>
  ck (Gw E E153) <|
  ck (Lay E153) <|
  ck (t153 = 1) <|
  ck (rgI x6) <|
  (if x6 = 5 then
  ck (rgJ x4) <|
  (if x4 ≤ 0 then
  some (0, (x9 + r126), v153_11, (x12 + 1), E153, M153)
  else
  ck (inb x12 (tE E153 q3).2) <|
  ck (rgI (M153 q3 x12.toNat)) <|
  ck (rgI x7) <|
  ck (nnJ ((M153 q3 x12.toNat) * x7)) <|
  ck (psJ x4) <|
  nb ((((M153 q3 x12.toNat) * x7) / x4)) fun (v161 : Int) =>
  ck (rgI v153_11) <|
  (if v153_11 = 0 then
  some (0, (x9 + r126), 0, (x12 + 1), E153, M153)
  else
  ck (rgJ v161) <|
  (if r126 = v161 then
  some (0, (x9 + r126), 1, (x12 + 1), E153, M153)
  else
  ck (rgJ (v161 + 1)) <|
  (if r126 = (v161 + 1) then
  some (0, (x9 + r126), 1, (x12 + 1), E153, M153)
  else
  some (0, (x9 + r126), 0, (x12 + 1), E153, M153)))))
  else
  some (0, (x9 + r126), v153_11, (x12 + 1), E153, M153))
  else
  ck (inb x12 (tE E q3).2) <|
  ck (rgI (M q3 x12.toNat)) <|
  (if 0 < (M q3 x12.toNat) then
  (l_La_seats_200 q0 x2 q3 x4 x6 x7 x8 (x9 + r126) x12 r126 5000 E M 1 0).bind fun (t167, v167_11, v167_14, E167, M167) =>
  ck (Gw E E167) <|
  ck (Lay E167) <|
  ck (t167 = 1) <|
  ck (rgI x6) <|
  (if x6 = 5 then
  ck (rgJ x4) <|
  (if x4 ≤ 0 then
  some (0, (x9 + r126), v167_11, (x12 + 1), E167, M167)
  else
  ck (inb x12 (tE E167 q3).2) <|
  ck (rgI (M167 q3 x12.toNat)) <|
  ck (rgI x7) <|
  ck (nnJ ((M167 q3 x12.toNat) * x7)) <|
  ck (psJ x4) <|
  nb ((((M167 q3 x12.toNat) * x7) / x4)) fun (v175 : Int) =>
  ck (rgI v167_11) <|
  (if v167_11 = 0 then
  some (0, (x9 + r126), 0, (x12 + 1), E167, M167)
  else
  ck (rgJ v175) <|
  (if r126 = v175 then
  some (0, (x9 + r126), 1, (x12 + 1), E167, M167)
  else
  ck (rgJ (v175 + 1)) <|
  (if r126 = (v175 + 1) then
  some (0, (x9 + r126), 1, (x12 + 1), E167, M167)
  else
  some (0, (x9 + r126), 0, (x12 + 1), E167, M167)))))
  else
  some (0, (x9 + r126), v167_11, (x12 + 1), E167, M167))
  else
  (if r126 = 0 then
  (l_La_seats_200 q0 x2 q3 x4 x6 x7 x8 (x9 + r126) x12 r126 5000 E M 1 0).bind fun (t191, v191_11, v191_14, E191, M191) =>
  ck (Gw E E191) <|
  ck (Lay E191) <|
  ck (t191 = 1) <|
  ck (rgI x6) <|
  (if x6 = 5 then
  ck (rgJ x4) <|
  (if x4 ≤ 0 then
  some (0, (x9 + r126), v191_11, (x12 + 1), E191, M191)
  else
  ck (inb x12 (tE E191 q3).2) <|
  ck (rgI (M191 q3 x12.toNat)) <|
  ck (rgI x7) <|
  ck (nnJ ((M191 q3 x12.toNat) * x7)) <|
  ck (psJ x4) <|
  nb ((((M191 q3 x12.toNat) * x7) / x4)) fun (v199 : Int) =>
  ck (rgI v191_11) <|
  (if v191_11 = 0 then
  some (0, (x9 + r126), 0, (x12 + 1), E191, M191)
  else
  ck (rgJ v199) <|
  (if r126 = v199 then
  some (0, (x9 + r126), 1, (x12 + 1), E191, M191)
  else
  ck (rgJ (v199 + 1)) <|
  (if r126 = (v199 + 1) then
  some (0, (x9 + r126), 1, (x12 + 1), E191, M191)
  else
  some (0, (x9 + r126), 0, (x12 + 1), E191, M191)))))
  else
  some (0, (x9 + r126), v191_11, (x12 + 1), E191, M191))
  else
  (l_La_seats_200 q0 x2 q3 x4 x6 x7 x8 (x9 + r126) x12 r126 5000 E M 0 0).bind fun (t179, v179_11, v179_14, E179, M179) =>
  ck (Gw E E179) <|
  ck (Lay E179) <|
  ck (t179 = 1) <|
  ck (rgI x6) <|
  (if x6 = 5 then
  ck (rgJ x4) <|
  (if x4 ≤ 0 then
  some (0, (x9 + r126), v179_11, (x12 + 1), E179, M179)
  else
  ck (inb x12 (tE E179 q3).2) <|
  ck (rgI (M179 q3 x12.toNat)) <|
  ck (rgI x7) <|
  ck (nnJ ((M179 q3 x12.toNat) * x7)) <|
  ck (psJ x4) <|
  nb ((((M179 q3 x12.toNat) * x7) / x4)) fun (v187 : Int) =>
  ck (rgI v179_11) <|
  (if v179_11 = 0 then
  some (0, (x9 + r126), 0, (x12 + 1), E179, M179)
  else
  ck (rgJ v187) <|
  (if r126 = v187 then
  some (0, (x9 + r126), 1, (x12 + 1), E179, M179)
  else
  ck (rgJ (v187 + 1)) <|
  (if r126 = (v187 + 1) then
  some (0, (x9 + r126), 1, (x12 + 1), E179, M179)
  else
  some (0, (x9 + r126), 0, (x12 + 1), E179, M179)))))
  else
  some (0, (x9 + r126), v179_11, (x12 + 1), E179, M179))))))
def l_La_seats_151 (q0 : Nat) (x2 : Int) (q3 : Nat) (x4 : Int) (x6 : Int) (x7 : Int) (x8 : Int) : Nat → Ev → Mm → Int → Int → Int → Option (Nat × Int × Int × Int × Ev × Mm)
  | 0, _, _, _, _, _ => none
  | fu + 1, E, M, x9, x11, x12 => (La_seats_151b E M q0 x2 q3 x4 x6 x7 x8 x9 x11 x12).bind fun (t, w9, w11, w12, F, N) => if t = 0 then l_La_seats_151 q0 x2 q3 x4 x6 x7 x8 fu F N w9 w11 w12 else some (t, w9, w11, w12, F, N)
def La_seats_410b (E : Ev) (M : Mm) (q0 : Nat) (x2 : Int) (x6 : Int) (x7 : Int) (x9 : Int) (x11 : Int) (q12 : Nat) (x13 : Int) : Option (Nat × Int × Ev × Mm) :=
  ck (Lay E) <|
  ck (isIA E q0) <|
  ck (isIA E q12) <|
  ck (rgI x13) <|
  ck (rgJ x9) <|
  (if x9 ≤ x13 then
  some (1, x13, E, M)
  else
  (f_B_seatAt E M x13).bind fun r209 =>
  ck (inb r209 (tE E q12).2) <|
  some (0, (x13 + 1), E, (u2 M q12 r209.toNat ((M q12 r209.toNat) + 1))))
def l_La_seats_410 (q0 : Nat) (x2 : Int) (x6 : Int) (x7 : Int) (x9 : Int) (x11 : Int) (q12 : Nat) : Nat → Ev → Mm → Int → Option (Nat × Int × Ev × Mm)
  | 0, _, _, _ => none
  | fu + 1, E, M, x13 => (La_seats_410b E M q0 x2 x6 x7 x9 x11 q12 x13).bind fun (t, w13, F, N) => if t = 0 then l_La_seats_410 q0 x2 x6 x7 x9 x11 q12 fu F N w13 else some (t, w13, F, N)
def La_seats_441b (E : Ev) (M : Mm) (q0 : Nat) (x2 : Int) (x6 : Int) (x7 : Int) (x9 : Int) (q12 : Nat) (x11 : Int) (x13 : Int) : Option (Nat × Int × Int × Ev × Mm) :=
  ck (Lay E) <|
  ck (isIA E q0) <|
  ck (isIA E q12) <|
  ck (rgI x13) <|
  ck (rgI x2) <|
  (if x2 ≤ x13 then
  some (1, x11, x13, E, M)
  else
  ck (rgI x11) <|
  (if x11 = 0 then
  some (0, 0, (x13 + 1), E, M)
  else
  ck (inb x13 (tE E q12).2) <|
  (f_B_seatsOf E M x13).bind fun r216 =>
  ck (rgI (M q12 x13.toNat)) <|
  ck (rgI r216) <|
  (if (M q12 x13.toNat) = r216 then
  some (0, 1, (x13 + 1), E, M)
  else
  some (0, 0, (x13 + 1), E, M))))
def l_La_seats_441 (q0 : Nat) (x2 : Int) (x6 : Int) (x7 : Int) (x9 : Int) (q12 : Nat) : Nat → Ev → Mm → Int → Int → Option (Nat × Int × Int × Ev × Mm)
  | 0, _, _, _, _ => none
  | fu + 1, E, M, x11, x13 => (La_seats_441b E M q0 x2 x6 x7 x9 q12 x11 x13).bind fun (t, w11, w13, F, N) => if t = 0 then l_La_seats_441 q0 x2 x6 x7 x9 q12 fu F N w11 w13 else some (t, w11, w13, F, N)
def La_seats_527b (E : Ev) (M : Mm) (x2 : Int) (x9 : Int) (x11 : Int) (x17 : Int) (x19 : Int) : Option (Nat × Int × Int × Ev × Mm) :=
  ck (Lay E) <|
  ck (rgI x19) <|
  ck (rgI x2) <|
  (if x2 ≤ x19 then
  some (1, x17, x19, E, M)
  else
  (f_B_seatsOf E M x19).bind fun r227 =>
  ck (rgI r227) <|
  some (0, (x17 + r227), (x19 + 1), E, M))
def l_La_seats_527 (x2 : Int) (x9 : Int) (x11 : Int) : Nat → Ev → Mm → Int → Int → Option (Nat × Int × Int × Ev × Mm)
  | 0, _, _, _, _ => none
  | fu + 1, E, M, x17, x19 => (La_seats_527b E M x2 x9 x11 x17 x19).bind fun (t, w17, w19, F, N) => if t = 0 then l_La_seats_527 x2 x9 x11 fu F N w17 w19 else some (t, w17, w19, F, N)
def La_seats_j390 (E : Ev) (M : Mm) (q0 : Nat) (x2 : Int) (x6 : Int) (x7 : Int) (x9 : Int) (y0 : Int) (y1 : Int) : Option (Int × Ev × Mm) :=
  ck (Lay E) <|
  ck (isIA E q0) <|
  ck (rgI y0) <|
  ck (rgJ y1) <|
  (if y1 = y0 then
  ck (0 ≤ x2 ∧ x2 ≤ 64) <|
  nb (nE E) fun (p254 : Nat) =>
  nb (eNew E (0, x2.toNat)) fun (E254 : Ev) =>
  nb (mN M (nE E)) fun (M254 : Mm) =>
  (l_La_seats_410 q0 x2 x6 x7 x9 1 p254 5000 E254 M254 0).bind fun (t255, v255_13, E255, M255) =>
  ck (Gw E254 E255) <|
  ck (Lay E255) <|
  ck (t255 = 1) <|
  (l_La_seats_441 q0 x2 x6 x7 x9 p254 5000 E255 M255 1 0).bind fun (t256, v256_11, v256_13, E256, M256) =>
  ck (Gw E255 E256) <|
  ck (Lay E256) <|
  ck (t256 = 1) <|
  (f_La_next E256 M256 q0 x2).bind fun (r257, M257) =>
  (f_La_next E256 M257 q0 x2).bind fun (r258, M258) =>
  (f_B_ally E256 M258 r257 1).bind fun (r259, M259) =>
  (f_B_ally E256 M259 r258 1).bind fun (r260, M260) =>
  (f_B_seats E256 M260 x6 x7 0).bind fun (r261, M261) =>
  (l_La_seats_527 x2 x9 v256_11 5000 E256 M261 0 0).bind fun (t262, v262_17, v262_19, E262, M262) =>
  ck (Gw E256 E262) <|
  ck (Lay E262) <|
  ck (t262 = 1) <|
  ck (rgI v256_11) <|
  (if v256_11 = 0 then
  some (0, E262, M262)
  else
  ck (rgJ v262_17) <|
  ck (rgJ x9) <|
  (if v262_17 = x9 then
  (f_B_errors E262 M262).bind fun (r266, M266) =>
  ck (rgI r266) <|
  (if r266 = 0 then
  some (1, E262, M266)
  else
  some (0, E262, M266))
  else
  some (0, E262, M262)))
  else
  ck (0 ≤ x2 ∧ x2 ≤ 64) <|
  nb (nE E) fun (p239 : Nat) =>
  nb (eNew E (0, x2.toNat)) fun (E239 : Ev) =>
  nb (mN M (nE E)) fun (M239 : Mm) =>
  (l_La_seats_410 q0 x2 x6 x7 x9 0 p239 5000 E239 M239 0).bind fun (t240, v240_13, E240, M240) =>
  ck (Gw E239 E240) <|
  ck (Lay E240) <|
  ck (t240 = 1) <|
  (l_La_seats_441 q0 x2 x6 x7 x9 p239 5000 E240 M240 0 0).bind fun (t241, v241_11, v241_13, E241, M241) =>
  ck (Gw E240 E241) <|
  ck (Lay E241) <|
  ck (t241 = 1) <|
  (f_La_next E241 M241 q0 x2).bind fun (r242, M242) =>
  (f_La_next E241 M242 q0 x2).bind fun (r243, M243) =>
  (f_B_ally E241 M243 r242 1).bind fun (r244, M244) =>
  (f_B_ally E241 M244 r243 1).bind fun (r245, M245) =>
  (f_B_seats E241 M245 x6 x7 0).bind fun (r246, M246) =>
  (l_La_seats_527 x2 x9 v241_11 5000 E241 M246 0 0).bind fun (t247, v247_17, v247_19, E247, M247) =>
  ck (Gw E241 E247) <|
  ck (Lay E247) <|
  ck (t247 = 1) <|
  ck (rgI v241_11) <|
  (if v241_11 = 0 then
  some (0, E247, M247)
  else
  ck (rgJ v247_17) <|
  ck (rgJ x9) <|
  (if v247_17 = x9 then
  (f_B_errors E247 M247).bind fun (r251, M251) =>
  ck (rgI r251) <|
  (if r251 = 0 then
  some (1, E247, M251)
  else
  some (0, E247, M251))
  else
  some (0, E247, M247))))
def f_La_seats (E : Ev) (M : Mm) (p0 : Nat) : Option (Int × Ev × Mm) :=
  ck (isIA E p0) <|
  nb (nE E) fun (p100 : Nat) =>
  nb (eNew E (111, 0)) fun (E100 : Ev) =>
  nb (mN M (nE E)) fun (M100 : Mm) =>
  (f_B_init E100 M100 p100).bind fun (E101, M101) =>
  ck (Gw E100 E101) <|
  ck (Lay E101 ∧ p100 = 1) <|
  (f_La_next E101 M101 p0 8).bind fun (r102, M102) =>
  ck (0 ≤ (1 + r102) ∧ (1 + r102) ≤ 64) <|
  nb (nE E101) fun (p104 : Nat) =>
  nb (eNew E101 (0, (1 + r102).toNat)) fun (E104 : Ev) =>
  nb (mN M102 (nE E101)) fun (M104 : Mm) =>
  (l_La_seats_27 p0 (1 + r102) p104 5000 E104 M104 0 0).bind fun (t120, v120_4, v120_6, E120, M120) =>
  ck (Gw E104 E120) <|
  ck (Lay E120) <|
  ck (t120 = 1) <|
  (f_La_next E120 M120 p0 6).bind fun (r121, M121) =>
  (f_La_next E120 M121 p0 60).bind fun (r122, M122) =>
  (f_B_seats E120 M122 r121 (1 + r122) 0).bind fun (r123, M123) =>
  (l_La_seats_151 p0 (1 + r102) p104 v120_4 r121 (1 + r122) r123 5000 E120 M123 0 1 0).bind fun (t203, v203_9, v203_11, v203_12, E203, M203) =>
  ck (Gw E120 E203) <|
  ck (Lay E203) <|
  ck (t203 = 1) <|
  ck (rgI v203_11) <|
  (if v203_11 = 0 then
  ck (0 ≤ (1 + r102) ∧ (1 + r102) ≤ 64) <|
  nb (nE E203) fun (p206 : Nat) =>
  nb (eNew E203 (0, (1 + r102).toNat)) fun (E206 : Ev) =>
  nb (mN M203 (nE E203)) fun (M206 : Mm) =>
  (l_La_seats_410 p0 (1 + r102) r121 (1 + r122) v203_9 0 p206 5000 E206 M206 0).bind fun (t211, v211_13, E211, M211) =>
  ck (Gw E206 E211) <|
  ck (Lay E211) <|
  ck (t211 = 1) <|
  (l_La_seats_441 p0 (1 + r102) r121 (1 + r122) v203_9 p206 5000 E211 M211 0 0).bind fun (t219, v219_11, v219_13, E219, M219) =>
  ck (Gw E211 E219) <|
  ck (Lay E219) <|
  ck (t219 = 1) <|
  (f_La_next E219 M219 p0 (1 + r102)).bind fun (r220, M220) =>
  (f_La_next E219 M220 p0 (1 + r102)).bind fun (r221, M221) =>
  (f_B_ally E219 M221 r220 1).bind fun (r222, M222) =>
  (f_B_ally E219 M222 r221 1).bind fun (r223, M223) =>
  (f_B_seats E219 M223 r121 (1 + r122) 0).bind fun (r224, M224) =>
  (l_La_seats_527 (1 + r102) v203_9 v219_11 5000 E219 M224 0 0).bind fun (t229, v229_17, v229_19, E229, M229) =>
  ck (Gw E219 E229) <|
  ck (Lay E229) <|
  ck (t229 = 1) <|
  ck (rgI v219_11) <|
  (if v219_11 = 0 then
  some (0, E229, M229)
  else
  ck (rgJ v229_17) <|
  ck (rgJ v203_9) <|
  (if v229_17 = v203_9 then
  (f_B_errors E229 M229).bind fun (r233, M233) =>
  ck (rgI r233) <|
  (if r233 = 0 then
  some (1, E229, M233)
  else
  some (0, E229, M233))
  else
  some (0, E229, M229)))
  else
  ck (rgI r123) <|
  (if r123 = 0 then
  La_seats_j390 E203 M203 p0 (1 + r102) r121 (1 + r122) v203_9 0 v203_9
  else
  La_seats_j390 E203 M203 p0 (1 + r102) r121 (1 + r122) v203_9 (1 + r122) v203_9))
def f_Wa_append (E : Ev) (M : Mm) (x1 : Int) (x2 : Int) (x3 : Int) : Option (Int × Mm) :=
  ck (inb (M 219 0) 16) <|
  nb (u2 (u2 (u2 (u2 M 220 (M 219 0).toNat x1) 222 (M 219 0).toNat x2) 223 (M 219 0).toNat x3) 219 0 (((u2 (u2 (u2 M 220 (M 219 0).toNat x1) 222 (M 219 0).toNat x2) 223 (M 219 0).toNat x3) 219 0) + 1)) fun (M101 : Mm) =>
  some ((M 219 0), M101)
def f_B_ward (E : Ev) (M : Mm) (x1 : Int) (x2 : Int) (x3 : Int) : Option (Int × Mm) :=
  (f_B_needRange E M x1 1 100000).bind fun _u =>
  (f_B_needRange E M x2 0 100000).bind fun _u =>
  (f_B_needRange E M x3 0 100000).bind fun _u =>
  (f_B_needRoom E M ((M 219 0) + 1) 16).bind fun _u =>
  (f_Wa_append E M x1 x2 x3).bind fun (r104, M104) =>
  (f_B_remember E M104 10 r104 0).bind fun M105 =>
  some (r104, M105)
def f_Wa_greatestBehind (E : Ev) (M : Mm) (x1 : Int) (x2 : Int) : Option Int :=
  ck (rgI (x1 + 1)) <|
  ck (rgI (M 219 0)) <|
  (if (M 219 0) ≤ (x1 + 1) then
  some 0
  else
  ck (rgI x2) <|
  (if x2 ≤ 1 then
  some 1600001
  else
  ck (inb (x2 - 1) 17) <|
  ck (inb (x1 + 1) 16) <|
  some (M (225 + (x2 - 1).toNat) (x1 + 1).toNat)))
def Wa_greatestOf_9b (E : Ev) (M : Mm) (x1 : Int) (x3 : Int) (x4 : Int) (x5 : Int) : Option (Nat × Int × Int × Int) :=
  ck (rgI x5) <|
  ck (rgI ((M 219 0) - x1)) <|
  (if ((M 219 0) - x1) < x5 then
  some (1, x3, x4, x5)
  else
  ck (inb x5 16) <|
  (f_Wa_greatestBehind E M x5 x1).bind fun r103 =>
  ck (rgI (x4 + (M 220 x5.toNat))) <|
  ck (rgI r103) <|
  nb ((max (x4 + (M 220 x5.toNat)) r103)) fun (v106 : Int) =>
  ck (rgI x3) <|
  some (0, (min x3 v106), (x4 + (M 220 x5.toNat)), (x5 + 1)))
def l_Wa_greatestOf_9 (E : Ev) (x1 : Int) : Nat → Mm → Int → Int → Int → Option (Nat × Int × Int × Int)
  | 0, _, _, _, _ => none
  | fu + 1, M, x3, x4, x5 => (Wa_greatestOf_9b E M x1 x3 x4 x5).bind fun (t, w3, w4, w5) => if t = 0 then l_Wa_greatestOf_9 E x1 fu M w3 w4 w5 else some (t, w3, w4, w5)
def f_Wa_greatestOf (E : Ev) (M : Mm) (x1 : Int) (x2 : Int) : Option Int :=
  (l_Wa_greatestOf_9 E x1 FU M 1600001 0 x2).bind fun (t108, v108_3, v108_4, v108_5) =>
  ck (t108 = 1) <|
  some v108_3
def Wa_firstEnd_3b (E : Ev) (M : Mm) (x2 : Int) (x3 : Int) (x4 : Int) : Option (Nat × Int) :=
  ck (rgI x4) <|
  ck (rgI ((M 219 0) - x2)) <|
  (if ((M 219 0) - x2) ≤ x4 then
  some (1, x4)
  else
  (f_Wa_greatestBehind E M x4 x2).bind fun r102 =>
  ck (rgI r102) <|
  ck (rgI x3) <|
  (if r102 ≤ x3 then
  some (1, x4)
  else
  some (0, (x4 + 1))))
def l_Wa_firstEnd_3 (E : Ev) (x2 : Int) (x3 : Int) : Nat → Mm → Int → Option (Nat × Int)
  | 0, _, _ => none
  | fu + 1, M, x4 => (Wa_firstEnd_3b E M x2 x3 x4).bind fun (t, w4) => if t = 0 then l_Wa_firstEnd_3 E x2 x3 fu M w4 else some (t, w4)
def f_Wa_firstEnd (E : Ev) (M : Mm) (x1 : Int) (x2 : Int) (x3 : Int) : Option Int :=
  (l_Wa_firstEnd_3 E x2 x3 FU M x1).bind fun (t105, v105_4) =>
  ck (t105 = 1) <|
  some v105_4
def Wa_divide_9b (E : Ev) (M : Mm) (x1 : Int) (x2 : Int) (x3 : Int) : Option (Nat × Int × Mm) :=
  ck (rgI x3) <|
  ck (rgI ((M 219 0) - x2)) <|
  (if ((M 219 0) - x2) < x3 then
  some (1, x3, M)
  else
  ck (inb x2 17) <|
  (f_Wa_greatestOf E M x2 x3).bind fun r105 =>
  ck (inb x3 16) <|
  some (0, (x3 + 1), (u2 M (225 + x2.toNat) x3.toNat r105)))
def l_Wa_divide_9 (E : Ev) (x1 : Int) (x2 : Int) : Nat → Mm → Int → Option (Nat × Int × Mm)
  | 0, _, _ => none
  | fu + 1, M, x3 => (Wa_divide_9b E M x1 x2 x3).bind fun (t, w3, N) => if t = 0 then l_Wa_divide_9 E x1 x2 fu N w3 else some (t, w3, N)
def Wa_divide_2b (E : Ev) (M : Mm) (x1 : Int) (x2 : Int) : Option (Nat × Int × Mm) :=
  ck (rgI x2) <|
  ck (rgI x1) <|
  (if x1 < x2 then
  some (1, x2, M)
  else
  (l_Wa_divide_9 E x1 x2 FU M 0).bind fun (t107, v107_3, M107) =>
  ck (t107 = 1) <|
  some (0, (x2 + 1), M107))
def l_Wa_divide_2 (E : Ev) (x1 : Int) : Nat → Mm → Int → Option (Nat × Int × Mm)
  | 0, _, _ => none
  | fu + 1, M, x2 => (Wa_divide_2b E M x1 x2).bind fun (t, w2, N) => if t = 0 then l_Wa_divide_2 E x1 fu N w2 else some (t, w2, N)
def Wa_divide_59b (E : Ev) (M : Mm) (x1 : Int) (x2 : Int) (x3 : Int) (x4 : Int) : Option (Nat × Int × Int × Mm) :=
  ck (rgI x4) <|
  ck (rgI x1) <|
  (if x1 ≤ x4 then
  some (1, x3, x4, M)
  else
  (f_Wa_firstEnd E M x3 (x1 - x4) x2).bind fun r112 =>
  ck (inb x4 16) <|
  nb ((((u2 M 242 x4.toNat r112) 242 x4.toNat) + 1)) fun (v114 : Int) =>
  some (0, v114, (x4 + 1), (u2 M 242 x4.toNat r112)))
def l_Wa_divide_59 (E : Ev) (x1 : Int) (x2 : Int) : Nat → Mm → Int → Int → Option (Nat × Int × Int × Mm)
  | 0, _, _, _ => none
  | fu + 1, M, x3, x4 => (Wa_divide_59b E M x1 x2 x3 x4).bind fun (t, w3, w4, N) => if t = 0 then l_Wa_divide_59 E x1 x2 fu N w3 w4 else some (t, w3, w4, N)
def f_Wa_divide (E : Ev) (M : Mm) (x1 : Int) : Option (Int × Mm) :=
  (l_Wa_divide_2 E x1 FU M 1).bind fun (t108, v108_2, M108) =>
  ck (t108 = 1) <|
  ck (inb x1 17) <|
  (l_Wa_divide_59 E x1 (M108 (225 + x1.toNat) 0) FU M108 0 0).bind fun (t115, v115_3, v115_4, M115) =>
  ck (t115 = 1) <|
  some ((M108 (225 + x1.toNat) 0), M115)
def f_B_greatestDistrict (E : Ev) (M : Mm) (x1 : Int) : Option (Int × Mm) :=
  (f_B_needRange E M x1 1 (M 219 0)).bind fun _u =>
  (f_Wa_divide E M x1).bind fun (r101, M101) =>
  some (r101, M101)
def f_B_districtEnd (E : Ev) (M : Mm) (x1 : Int) (x2 : Int) : Option (Int × Mm) :=
  (f_B_needRange E M x1 1 (M 219 0)).bind fun _u =>
  (f_B_needPlace E M x2 x1).bind fun _u =>
  (f_Wa_divide E M x1).bind fun (r102, M102) =>
  ck (inb x2 16) <|
  some ((M102 242 x2.toNat), M102)
def Wa_votesIn_22b (E : Ev) (M : Mm) (x1 : Int) (x2 : Int) (x3 : Int) (x4 : Int) : Option (Nat × Int × Int) :=
  ck (inb x1 16) <|
  ck (rgI x4) <|
  ck (rgI (M 242 x1.toNat)) <|
  (if (M 242 x1.toNat) < x4 then
  some (1, x3, x4)
  else
  ck (inb x2 2) <|
  ck (inb x4 16) <|
  nb ((x3 + (M (222 + x2.toNat) x4.toNat))) fun (v107 : Int) =>
  some (0, v107, (x4 + 1)))
def l_Wa_votesIn_22 (E : Ev) (x1 : Int) (x2 : Int) : Nat → Mm → Int → Int → Option (Nat × Int × Int)
  | 0, _, _, _ => none
  | fu + 1, M, x3, x4 => (Wa_votesIn_22b E M x1 x2 x3 x4).bind fun (t, w3, w4) => if t = 0 then l_Wa_votesIn_22 E x1 x2 fu M w3 w4 else some (t, w3, w4)
def f_Wa_votesIn (E : Ev) (M : Mm) (x1 : Int) (x2 : Int) : Option Int :=
  ck (rgI x1) <|
  (if x1 = 0 then
  (l_Wa_votesIn_22 E x1 x2 FU M 0 0).bind fun (t109, v109_3, v109_4) =>
  ck (t109 = 1) <|
  some v109_3
  else
  ck (inb (x1 - 1) 16) <|
  (l_Wa_votesIn_22 E x1 x2 FU M 0 ((M 242 (x1 - 1).toNat) + 1)).bind fun (t108, v108_3, v108_4) =>
  ck (t108 = 1) <|
  some v108_3)
def B_districtsWon_32b (E : Ev) (M : Mm) (x1 : Int) (x2 : Int) (x3 : Int) (x4 : Int) : Option (Nat × Int × Int × Mm) :=
  ck (rgI x4) <|
  ck (rgI x1) <|
  (if x1 ≤ x4 then
  some (1, x3, x4, M)
  else
  (f_Wa_votesIn E M x4 x2).bind fun r105 =>
  (f_Wa_votesIn E M x4 (1 - x2)).bind fun r106 =>
  ck (rgI r105) <|
  ck (rgI r106) <|
  (if r105 ≤ r106 then
  some (0, x3, (x4 + 1), M)
  else
  some (0, (x3 + 1), (x4 + 1), M)))
def l_B_districtsWon_32 (E : Ev) (x1 : Int) (x2 : Int) : Nat → Mm → Int → Int → Option (Nat × Int × Int × Mm)
  | 0, _, _, _ => none
  | fu + 1, M, x3, x4 => (B_districtsWon_32b E M x1 x2 x3 x4).bind fun (t, w3, w4, N) => if t = 0 then l_B_districtsWon_32 E x1 x2 fu N w3 w4 else some (t, w3, w4, N)
def f_B_districtsWon (E : Ev) (M : Mm) (x1 : Int) (x2 : Int) : Option (Int × Mm) :=
  (f_B_needRange E M x1 1 (M 219 0)).bind fun _u =>
  (f_B_needRange E M x2 0 1).bind fun _u =>
  (f_Wa_divide E M x1).bind fun (r102, M102) =>
  (l_B_districtsWon_32 E x1 x2 FU M102 0 0).bind fun (t109, v109_3, v109_4, M109) =>
  ck (t109 = 1) <|
  some (v109_3, M109)
def B_wasted_32b (E : Ev) (M : Mm) (x1 : Int) (x2 : Int) (x3 : Int) (x4 : Int) : Option (Nat × Int × Int × Mm) :=
  ck (rgI x4) <|
  ck (rgI x1) <|
  (if x1 ≤ x4 then
  some (1, x3, x4, M)
  else
  (f_Wa_votesIn E M x4 x2).bind fun r105 =>
  (f_Wa_votesIn E M x4 (1 - x2)).bind fun r106 =>
  ck (rgI r105) <|
  ck (rgI r106) <|
  (if r105 ≤ r106 then
  some (0, (x3 + r105), (x4 + 1), M)
  else
  ck (nnI (r105 + r106)) <|
  nb ((x3 + ((r105 - ((r105 + r106) / 2)) - 1))) fun (v110 : Int) =>
  some (0, v110, (x4 + 1), M)))
def l_B_wasted_32 (E : Ev) (x1 : Int) (x2 : Int) : Nat → Mm → Int → Int → Option (Nat × Int × Int × Mm)
  | 0, _, _, _ => none
  | fu + 1, M, x3, x4 => (B_wasted_32b E M x1 x2 x3 x4).bind fun (t, w3, w4, N) => if t = 0 then l_B_wasted_32 E x1 x2 fu N w3 w4 else some (t, w3, w4, N)
def f_B_wasted (E : Ev) (M : Mm) (x1 : Int) (x2 : Int) : Option (Int × Mm) :=
  (f_B_needRange E M x1 1 (M 219 0)).bind fun _u =>
  (f_B_needRange E M x2 0 1).bind fun _u =>
  (f_Wa_divide E M x1).bind fun (r102, M102) =>
  (l_B_wasted_32 E x1 x2 FU M102 0 0).bind fun (t111, v111_3, v111_4, M111) =>
  ck (t111 = 1) <|
  some (v111_3, M111)
def La_districts_24b (E : Ev) (M : Mm) (q0 : Nat) (x2 : Int) (q3 : Nat) (x4 : Int) : Option (Nat × Int × Ev × Mm) :=
  ck (Lay E) <|
  ck (isIA E q0) <|
  ck (isIA E q3) <|
  ck (rgI x4) <|
  ck (rgI x2) <|
  (if x2 ≤ x4 then
  some (1, x4, E, M)
  else
  (f_La_next E M q0 50).bind fun (r107, M107) =>
  ck (inb x4 (tE E q3).2) <|
  (f_La_next E (u2 M107 q3 x4.toNat (1 + r107)) q0 30).bind fun (r109, M109) =>
  (f_La_next E M109 q0 30).bind fun (r110, M110) =>
  (f_B_ward E M110 ((u2 M107 q3 x4.toNat (1 + r107)) q3 x4.toNat) r109 r110).bind fun (r111, M111) =>
  some (0, (x4 + 1), E, M111))
def l_La_districts_24 (q0 : Nat) (x2 : Int) (q3 : Nat) : Nat → Ev → Mm → Int → Option (Nat × Int × Ev × Mm)
  | 0, _, _, _ => none
  | fu + 1, E, M, x4 => (La_districts_24b E M q0 x2 q3 x4).bind fun (t, w4, F, N) => if t = 0 then l_La_districts_24 q0 x2 q3 fu F N w4 else some (t, w4, F, N)
def La_districts_j170 (E : Ev) (M : Mm) (x2 : Int) (q3 : Nat) (x4 : Int) (x5 : Int) (q6 : Nat) (x7 : Int) (x8 : Int) (x9 : Int) (q10 : Nat) (x11 : Int) (x12 : Int) : Option (Nat × Int × Int × Int × Int × Ev × Mm) :=
  ck (Lay E) <|
  ck (isIA E q3) <|
  ck (isIA E q6) <|
  ck (isIA E q10) <|
  ck (rgI x8) <|
  ck (rgI x9) <|
  ck (inb x11 (tE E q10).2) <|
  some (0, (max x8 x9), 0, (x11 + 1), (x12 + 1), E, (u2 M q10 x11.toNat x12))
def La_districts_136b (E : Ev) (M : Mm) (x2 : Int) (q3 : Nat) (x4 : Int) (x5 : Int) (q6 : Nat) (x7 : Int) (q10 : Nat) (x8 : Int) (x9 : Int) (x11 : Int) (x12 : Int) : Option (Nat × Int × Int × Int × Int × Ev × Mm) :=
  ck (Lay E) <|
  ck (isIA E q3) <|
  ck (isIA E q6) <|
  ck (isIA E q10) <|
  ck (rgI x12) <|
  ck (rgI x2) <|
  (if x2 ≤ x12 then
  some (1, x8, x9, x11, x12, E, M)
  else
  ck (inb x12 (tE E q3).2) <|
  ck (rgI (x2 - 1)) <|
  (if x12 = (x2 - 1) then
  La_districts_j170 E M x2 q3 x4 x5 q6 x7 x8 (x9 + (M q3 x12.toNat)) q10 x11 x12
  else
  ck (rgI x7) <|
  ck (shI x12) <|
  (if ((x7 / 2 ^ x12.toNat) % 2) = 1 then
  La_districts_j170 E M x2 q3 x4 x5 q6 x7 x8 (x9 + (M q3 x12.toNat)) q10 x11 x12
  else
  some (0, x8, (x9 + (M q3 x12.toNat)), x11, (x12 + 1), E, M))))
def l_La_districts_136 (x2 : Int) (q3 : Nat) (x4 : Int) (x5 : Int) (q6 : Nat) (x7 : Int) (q10 : Nat) : Nat → Ev → Mm → Int → Int → Int → Int → Option (Nat × Int × Int × Int × Int × Ev × Mm)
  | 0, _, _, _, _, _, _ => none
  | fu + 1, E, M, x8, x9, x11, x12 => (La_districts_136b E M x2 q3 x4 x5 q6 x7 q10 x8 x9 x11 x12).bind fun (t, w8, w9, w11, w12, F, N) => if t = 0 then l_La_districts_136 x2 q3 x4 x5 q6 x7 q10 fu F N w8 w9 w11 w12 else some (t, w8, w9, w11, w12, F, N)
def La_districts_201b (E : Ev) (M : Mm) (x2 : Int) (q3 : Nat) (x4 : Int) (x5 : Int) (q6 : Nat) (x7 : Int) (x8 : Int) (q10 : Nat) (x12 : Int) : Option (Nat × Int × Ev × Mm) :=
  ck (Lay E) <|
  ck (isIA E q3) <|
  ck (isIA E q6) <|
  ck (isIA E q10) <|
  ck (rgI x12) <|
  ck (rgI (x4 - 1)) <|
  (if (x4 - 1) ≤ x12 then
  some (1, x12, E, M)
  else
  ck (inb x12 (tE E q10).2) <|
  ck (inb x12 (tE E q6).2) <|
  ck (rgI (M q10 x12.toNat)) <|
  ck (rgI (M q6 x12.toNat)) <|
  (if (M q10 x12.toNat) = (M q6 x12.toNat) then
  some (0, (x12 + 1), E, M)
  else
  some (1, x12, E, M)))
def l_La_districts_201 (x2 : Int) (q3 : Nat) (x4 : Int) (x5 : Int) (q6 : Nat) (x7 : Int) (x8 : Int) (q10 : Nat) : Nat → Ev → Mm → Int → Option (Nat × Int × Ev × Mm)
  | 0, _, _, _ => none
  | fu + 1, E, M, x12 => (La_districts_201b E M x2 q3 x4 x5 q6 x7 x8 q10 x12).bind fun (t, w12, F, N) => if t = 0 then l_La_districts_201 x2 q3 x4 x5 q6 x7 x8 q10 fu F N w12 else some (t, w12, F, N)
def La_districts_j229 (E : Ev) (M : Mm) (x2 : Int) (q3 : Nat) (x4 : Int) (x5 : Int) (q6 : Nat) (x7 : Int) (x8 : Int) (q10 : Nat) (x12 : Int) : Option (Nat × Int × Nat × Int × Ev × Mm) :=
  ck (Lay E) <|
  ck (isIA E q3) <|
  ck (isIA E q6) <|
  ck (isIA E q10) <|
  ck (rgI x8) <|
  ck (rgI x5) <|
  (if x8 < x5 then
  some (0, x8, q10, (x7 + 1), E, M)
  else
  (if x8 = x5 then
  ck (inb x12 (tE E q10).2) <|
  ck (inb x12 (tE E q6).2) <|
  ck (rgI (M q10 x12.toNat)) <|
  ck (rgI (M q6 x12.toNat)) <|
  (if (M q6 x12.toNat) ≤ (M q10 x12.toNat) then
  some (0, x5, q6, (x7 + 1), E, M)
  else
  some (0, x8, q10, (x7 + 1), E, M))
  else
  some (0, x5, q6, (x7 + 1), E, M)))
def La_districts_93b (E : Ev) (M : Mm) (x2 : Int) (q3 : Nat) (x4 : Int) (x5 : Int) (q6 : Nat) (x7 : Int) : Option (Nat × Int × Nat × Int × Ev × Mm) :=
  ck (Lay E) <|
  ck (isIA E q3) <|
  ck (isIA E q6) <|
  ck (shI (x2 - 1)) <|
  ck (rgI x7) <|
  ck (rgI (2 ^ (x2 - 1).toNat)) <|
  (if (2 ^ (x2 - 1).toNat) ≤ x7 then
  some (1, x5, q6, x7, E, M)
  else
  (f_In_bitCount E M x7).bind fun r119 =>
  ck (rgI r119) <|
  ck (rgI (x4 - 1)) <|
  (if r119 = (x4 - 1) then
  ck (0 ≤ x4 ∧ x4 ≤ 8) <|
  nb (nE E) fun (p123 : Nat) =>
  nb (eNew E (0, x4.toNat)) fun (E123 : Ev) =>
  nb (mN M (nE E)) fun (M123 : Mm) =>
  (l_La_districts_136 x2 q3 x4 x5 q6 x7 p123 5000 E123 M123 0 0 0 0).bind fun (t133, v133_8, v133_9, v133_11, v133_12, E133, M133) =>
  ck (Gw E123 E133) <|
  ck (Lay E133) <|
  ck (t133 = 1) <|
  (l_La_districts_201 x2 q3 x4 x5 q6 x7 v133_8 p123 5000 E133 M133 0).bind fun (t140, v140_12, E140, M140) =>
  ck (Gw E133 E140) <|
  ck (Lay E140) <|
  ck (t140 = 1) <|
  La_districts_j229 E140 M140 x2 q3 x4 x5 q6 x7 v133_8 p123 v140_12
  else
  some (0, x5, q6, (x7 + 1), E, M)))
def l_La_districts_93 (x2 : Int) (q3 : Nat) (x4 : Int) : Nat → Ev → Mm → Int → Nat → Int → Option (Nat × Int × Nat × Int × Ev × Mm)
  | 0, _, _, _, _, _ => none
  | fu + 1, E, M, x5, q6, x7 => (La_districts_93b E M x2 q3 x4 x5 q6 x7).bind fun (t, w5, w6, w7, F, N) => if t = 0 then l_La_districts_93 x2 q3 x4 fu F N w5 w6 w7 else some (t, w5, w6, w7, F, N)
def La_districts_291b (E : Ev) (M : Mm) (x4 : Int) (q6 : Nat) (x7 : Int) (x8 : Int) : Option (Nat × Int × Int × Ev × Mm) :=
  ck (Lay E) <|
  ck (isIA E q6) <|
  ck (rgI x8) <|
  ck (rgI x4) <|
  (if x4 ≤ x8 then
  some (1, x7, x8, E, M)
  else
  ck (rgI x7) <|
  (if x7 = 0 then
  some (0, 0, (x8 + 1), E, M)
  else
  (f_B_districtEnd E M x4 x8).bind fun (r154, M154) =>
  ck (inb x8 (tE E q6).2) <|
  ck (rgI r154) <|
  ck (rgI (M154 q6 x8.toNat)) <|
  (if r154 = (M154 q6 x8.toNat) then
  some (0, 1, (x8 + 1), E, M154)
  else
  some (0, 0, (x8 + 1), E, M154))))
def l_La_districts_291 (x4 : Int) (q6 : Nat) : Nat → Ev → Mm → Int → Int → Option (Nat × Int × Int × Ev × Mm)
  | 0, _, _, _, _ => none
  | fu + 1, E, M, x7, x8 => (La_districts_291b E M x4 q6 x7 x8).bind fun (t, w7, w8, F, N) => if t = 0 then l_La_districts_291 x4 q6 fu F N w7 w8 else some (t, w7, w8, F, N)
def f_La_districts (E : Ev) (M : Mm) (p0 : Nat) : Option (Int × Ev × Mm) :=
  ck (isIA E p0) <|
  nb (nE E) fun (p100 : Nat) =>
  nb (eNew E (111, 0)) fun (E100 : Ev) =>
  nb (mN M (nE E)) fun (M100 : Mm) =>
  (f_B_init E100 M100 p100).bind fun (E101, M101) =>
  ck (Gw E100 E101) <|
  ck (Lay E101 ∧ p100 = 1) <|
  (f_La_next E101 M101 p0 8).bind fun (r102, M102) =>
  ck (0 ≤ (1 + r102) ∧ (1 + r102) ≤ 8) <|
  nb (nE E101) fun (p104 : Nat) =>
  nb (eNew E101 (0, (1 + r102).toNat)) fun (E104 : Ev) =>
  nb (mN M102 (nE E101)) fun (M104 : Mm) =>
  (l_La_districts_24 p0 (1 + r102) p104 5000 E104 M104 0).bind fun (t112, v112_4, E112, M112) =>
  ck (Gw E104 E112) <|
  ck (Lay E112) <|
  ck (t112 = 1) <|
  (f_La_next E112 M112 p0 (1 + r102)).bind fun (r113, M113) =>
  ck (0 ≤ (1 + r113) ∧ (1 + r113) ≤ 8) <|
  nb (nE E112) fun (p115 : Nat) =>
  nb (eNew E112 (0, (1 + r113).toNat)) fun (E115 : Ev) =>
  nb (mN M113 (nE E112)) fun (M115 : Mm) =>
  (l_La_districts_93 (1 + r102) p104 (1 + r113) 132 E115 M115 1000 p115 0).bind fun (t147, v147_5, v147_6, v147_7, E147, M147) =>
  ck (Gw E115 E147) <|
  ck (Lay E147) <|
  ck (t147 = 1) <|
  ck (isIA E147 v147_6) <|
  (f_B_greatestDistrict E147 M147 (1 + r113)).bind fun (r148, M148) =>
  ck (rgI r148) <|
  ck (rgI v147_5) <|
  (if r148 = v147_5 then
  (l_La_districts_291 (1 + r113) v147_6 5000 E147 M148 1 0).bind fun (t168, v168_7, v168_8, E168, M168) =>
  ck (Gw E147 E168) <|
  ck (Lay E168) <|
  ck (t168 = 1) <|
  ck (rgI v168_7) <|
  (if v168_7 = 0 then
  some (0, E168, M168)
  else
  (f_B_districtsWon E168 M168 (1 + r113) 0).bind fun (r170, M170) =>
  (f_B_districtsWon E168 M170 (1 + r113) 1).bind fun (r171, M171) =>
  ck (rgI (r170 + r171)) <|
  ck (rgI (1 + r113)) <|
  (if (1 + r113) < (r170 + r171) then
  some (0, E168, M171)
  else
  (f_B_wasted E168 M171 (1 + r113) 0).bind fun (r174, M174) =>
  ck (rgI r174) <|
  (if r174 < 0 then
  some (0, E168, M174)
  else
  (f_B_wasted E168 M174 (1 + r113) 1).bind fun (r176, M176) =>
  ck (rgI r176) <|
  (if r176 < 0 then
  some (0, E168, M176)
  else
  some (1, E168, M176)))))
  else
  (l_La_districts_291 (1 + r113) v147_6 5000 E147 M148 0 0).bind fun (t158, v158_7, v158_8, E158, M158) =>
  ck (Gw E147 E158) <|
  ck (Lay E158) <|
  ck (t158 = 1) <|
  ck (rgI v158_7) <|
  (if v158_7 = 0 then
  some (0, E158, M158)
  else
  (f_B_districtsWon E158 M158 (1 + r113) 0).bind fun (r160, M160) =>
  (f_B_districtsWon E158 M160 (1 + r113) 1).bind fun (r161, M161) =>
  ck (rgI (r160 + r161)) <|
  ck (rgI (1 + r113)) <|
  (if (1 + r113) < (r160 + r161) then
  some (0, E158, M161)
  else
  (f_B_wasted E158 M161 (1 + r113) 0).bind fun (r164, M164) =>
  ck (rgI r164) <|
  (if r164 < 0 then
  some (0, E158, M164)
  else
  (f_B_wasted E158 M164 (1 + r113) 1).bind fun (r166, M166) =>
  ck (rgI r166) <|
  (if r166 < 0 then
  some (0, E158, M166)
  else
  some (1, E158, M166))))))
def f_Cl_append (E : Ev) (M : Mm) (x1 : Int) : Option (Int × Mm) :=
  ck (inb (M 243 0) 12) <|
  some ((M 243 0), (u2 (u2 M 244 (M 243 0).toNat x1) 243 0 (((u2 M 244 (M 243 0).toNat x1) 243 0) + 1)))
def f_B_member (E : Ev) (M : Mm) (x1 : Int) : Option (Int × Mm) :=
  (f_B_needRange E M x1 0 1000).bind fun _u =>
  (f_B_needRoom E M ((M 243 0) + 1) 12).bind fun _u =>
  (f_Cl_append E M x1).bind fun (r102, M102) =>
  (f_B_remember E M102 11 r102 0).bind fun M103 =>
  some (r102, M103)
def f_B_setQuota (E : Ev) (M : Mm) (x1 : Int) : Option (Int × Mm) :=
  (f_B_needRange E M x1 1 12000).bind fun _u =>
  (f_B_remember E (u2 M 243 1 x1) 12 0 (M 243 1)).bind fun M101 =>
  some ((M 243 1), M101)
def f_B_ordersTurned (E : Ev) (M : Mm) (x1 : Int) : Option (Int × Mm) :=
  (f_B_needIndex E M x1 (M 243 0)).bind fun _u =>
  (f_Cl_findSums E M).bind fun M101 =>
  (f_Cl_ordersTurnedBy E M101 x1).bind fun r102 =>
  some (r102, M101)
def Cl_setsSwungBy_4b (E : Ev) (M : Mm) (x1 : Int) (x2 : Int) (x3 : Int) : Option (Nat × Int × Int) :=
  ck (shI (M 243 0)) <|
  ck (rgI x3) <|
  ck (rgI (2 ^ (M 243 0).toNat)) <|
  (if (2 ^ (M 243 0).toNat) ≤ x3 then
  some (1, x2, x3)
  else
  (f_Cl_isSwung E M x3 x1).bind fun r103 =>
  ck (rgI r103) <|
  (if r103 = 0 then
  some (0, x2, (x3 + 1))
  else
  some (0, (x2 + 1), (x3 + 1))))
def l_Cl_setsSwungBy_4 (E : Ev) (x1 : Int) : Nat → Mm → Int → Int → Option (Nat × Int × Int)
  | 0, _, _, _ => none
  | fu + 1, M, x2, x3 => (Cl_setsSwungBy_4b E M x1 x2 x3).bind fun (t, w2, w3) => if t = 0 then l_Cl_setsSwungBy_4 E x1 fu M w2 w3 else some (t, w2, w3)
def f_Cl_setsSwungBy (E : Ev) (M : Mm) (x1 : Int) : Option Int :=
  (l_Cl_setsSwungBy_4 E x1 FU M 0 0).bind fun (t105, v105_2, v105_3) =>
  ck (t105 = 1) <|
  some v105_2
def f_B_swings (E : Ev) (M : Mm) (x1 : Int) : Option (Int × Mm) :=
  (f_B_needIndex E M x1 (M 243 0)).bind fun _u =>
  (f_Cl_findSums E M).bind fun M101 =>
  (f_Cl_setsSwungBy E M101 x1).bind fun r102 =>
  some (r102, M101)
def La_council_30b (E : Ev) (M : Mm) (q0 : Nat) (x2 : Int) (q4 : Nat) (x3 : Int) (x5 : Int) (x7 : Int) : Option (Nat × Int × Int × Int × Ev × Mm) :=
  ck (Lay E) <|
  ck (isIA E q0) <|
  ck (isIA E q4) <|
  ck (rgI x7) <|
  ck (rgI x2) <|
  (if x2 ≤ x7 then
  some (1, x3, x5, x7, E, M)
  else
  (f_La_next E M q0 12).bind fun (r107, M107) =>
  ck (inb x7 (tE E q4).2) <|
  nb ((x3 + ((u2 M107 q4 x7.toNat r107) q4 x7.toNat))) fun (v109 : Int) =>
  (f_B_member E (u2 M107 q4 x7.toNat r107) ((u2 M107 q4 x7.toNat r107) q4 x7.toNat)).bind fun (r110, M110) =>
  ck (rgI (x7 + 1)) <|
  some (0, v109, (x5 * (x7 + 1)), (x7 + 1), E, M110))
def l_La_council_30 (q0 : Nat) (x2 : Int) (q4 : Nat) : Nat → Ev → Mm → Int → Int → Int → Option (Nat × Int × Int × Int × Ev × Mm)
  | 0, _, _, _, _, _ => none
  | fu + 1, E, M, x3, x5, x7 => (La_council_30b E M q0 x2 q4 x3 x5 x7).bind fun (t, w3, w5, w7, F, N) => if t = 0 then l_La_council_30 q0 x2 q4 fu F N w3 w5 w7 else some (t, w3, w5, w7, F, N)
def La_council_136b (E : Ev) (M : Mm) (x2 : Int) (x3 : Int) (q4 : Nat) (x5 : Int) (x7 : Int) (x9 : Int) (x11 : Int) (x12 : Int) (x13 : Int) (x14 : Int) (x15 : Int) (x16 : Int) : Option (Nat × Int × Int × Ev × Mm) :=
  ck (Lay E) <|
  ck (isIA E q4) <|
  ck (rgI x16) <|
  ck (rgI x2) <|
  (if x2 ≤ x16 then
  some (1, x15, x16, E, M)
  else
  ck (rgI x14) <|
  ck (shI x16) <|
  ck (inb x16 (tE E q4).2) <|
  nb ((x15 + (((x14 / 2 ^ x16.toNat) % 2) * (M q4 x16.toNat)))) fun (v125 : Int) =>
  some (0, v125, (x16 + 1), E, M))
def l_La_council_136 (x2 : Int) (x3 : Int) (q4 : Nat) (x5 : Int) (x7 : Int) (x9 : Int) (x11 : Int) (x12 : Int) (x13 : Int) (x14 : Int) : Nat → Ev → Mm → Int → Int → Option (Nat × Int × Int × Ev × Mm)
  | 0, _, _, _, _ => none
  | fu + 1, E, M, x15, x16 => (La_council_136b E M x2 x3 q4 x5 x7 x9 x11 x12 x13 x14 x15 x16).bind fun (t, w15, w16, F, N) => if t = 0 then l_La_council_136 x2 x3 q4 x5 x7 x9 x11 x12 x13 x14 fu F N w15 w16 else some (t, w15, w16, F, N)
def La_council_122b (E : Ev) (M : Mm) (x2 : Int) (x3 : Int) (q4 : Nat) (x5 : Int) (x7 : Int) (x9 : Int) (x11 : Int) (x12 : Int) (x13 : Int) (x14 : Int) : Option (Nat × Int × Int × Ev × Mm) :=
  ck (Lay E) <|
  ck (isIA E q4) <|
  ck (shI x2) <|
  ck (rgI x14) <|
  ck (rgI (2 ^ x2.toNat)) <|
  (if (2 ^ x2.toNat) ≤ x14 then
  some (1, x13, x14, E, M)
  else
  (l_La_council_136 x2 x3 q4 x5 x7 x9 x11 x12 x13 x14 5000 E M 0 0).bind fun (t126, v126_15, v126_16, E126, M126) =>
  ck (Gw E E126) <|
  ck (Lay E126) <|
  ck (t126 = 1) <|
  ck (shI x12) <|
  (if ((x14 / 2 ^ x12.toNat) % 2) = 0 then
  ck (rgI v126_15) <|
  ck (rgI x7) <|
  (if x7 ≤ v126_15 then
  some (0, (x13 + 0), (x14 + 1), E126, M126)
  else
  ck (inb x12 (tE E126 q4).2) <|
  ck (rgI (v126_15 + (M126 q4 x12.toNat))) <|
  (if (v126_15 + (M126 q4 x12.toNat)) < x7 then
  some (0, (x13 + 0), (x14 + 1), E126, M126)
  else
  some (0, (x13 + 1), (x14 + 1), E126, M126)))
  else
  some (0, (x13 + 0), (x14 + 1), E126, M126)))
def l_La_council_122 (x2 : Int) (x3 : Int) (q4 : Nat) (x5 : Int) (x7 : Int) (x9 : Int) (x11 : Int) (x12 : Int) : Nat → Ev → Mm → Int → Int → Option (Nat × Int × Int × Ev × Mm)
  | 0, _, _, _, _ => none
  | fu + 1, E, M, x13, x14 => (La_council_122b E M x2 x3 q4 x5 x7 x9 x11 x12 x13 x14).bind fun (t, w13, w14, F, N) => if t = 0 then l_La_council_122 x2 x3 q4 x5 x7 x9 x11 x12 fu F N w13 w14 else some (t, w13, w14, F, N)
def La_council_j265 (E : Ev) (M : Mm) (x2 : Int) (x3 : Int) (q4 : Nat) (x5 : Int) (x7 : Int) (x9 : Int) (x12 : Int) (y0 : Int) (y1 : Int) : Option (Nat × Int × Int × Int × Ev × Mm) :=
  ck (Lay E) <|
  ck (isIA E q4) <|
  ck (rgI y1) <|
  ck (rgI y0) <|
  (if y1 = y0 then
  some (0, x9, 1, (x12 + 1), E, M)
  else
  some (0, x9, 0, (x12 + 1), E, M))
def La_council_j255 (E : Ev) (M : Mm) (x2 : Int) (x3 : Int) (q4 : Nat) (x5 : Int) (x7 : Int) (x9 : Int) (x12 : Int) (x13 : Int) (y0 : Int) : Option (Nat × Int × Int × Int × Ev × Mm) :=
  ck (Lay E) <|
  ck (isIA E q4) <|
  ck (rgI x13) <|
  (if x13 ≤ 0 then
  La_council_j265 E M x2 x3 q4 x5 x7 x9 x12 0 y0
  else
  La_council_j265 E M x2 x3 q4 x5 x7 x9 x12 1 y0)
def La_council_110b (E : Ev) (M : Mm) (x2 : Int) (x3 : Int) (q4 : Nat) (x5 : Int) (x7 : Int) (x9 : Int) (x11 : Int) (x12 : Int) : Option (Nat × Int × Int × Int × Ev × Mm) :=
  ck (Lay E) <|
  ck (isIA E q4) <|
  ck (rgI x12) <|
  ck (rgI x2) <|
  (if x2 ≤ x12 then
  some (1, x9, x11, x12, E, M)
  else
  (l_La_council_122 x2 x3 q4 x5 x7 x9 x11 x12 5000 E M 0 0).bind fun (t132, v132_13, v132_14, E132, M132) =>
  ck (Gw E E132) <|
  ck (Lay E132) <|
  ck (t132 = 1) <|
  (f_B_ordersTurned E132 M132 x12).bind fun (r133, M133) =>
  ck (rgI x11) <|
  (if x11 = 0 then
  some (0, (x9 + r133), 0, (x12 + 1), E132, M133)
  else
  (f_B_swings E132 M133 x12).bind fun (r135, M135) =>
  ck (rgI r135) <|
  ck (rgI v132_13) <|
  (if r135 = v132_13 then
  (f_B_ordersTurned E132 M135 x12).bind fun (r138, M138) =>
  ck (rgJ r138) <|
  (if r138 ≤ 0 then
  La_council_j255 E132 M138 x2 x3 q4 x5 x7 (x9 + r133) x12 v132_13 0
  else
  La_council_j255 E132 M138 x2 x3 q4 x5 x7 (x9 + r133) x12 v132_13 1)
  else
  some (0, (x9 + r133), 0, (x12 + 1), E132, M135))))
def l_La_council_110 (x2 : Int) (x3 : Int) (q4 : Nat) (x5 : Int) (x7 : Int) : Nat → Ev → Mm → Int → Int → Int → Option (Nat × Int × Int × Int × Ev × Mm)
  | 0, _, _, _, _, _ => none
  | fu + 1, E, M, x9, x11, x12 => (La_council_110b E M x2 x3 q4 x5 x7 x9 x11 x12).bind fun (t, w9, w11, w12, F, N) => if t = 0 then l_La_council_110 x2 x3 q4 x5 x7 fu F N w9 w11 w12 else some (t, w9, w11, w12, F, N)
def La_council_j300 (E : Ev) (M : Mm) (y0 : Int) (y1 : Int) : Option (Int × Ev × Mm) :=
  ck (Lay E) <|
  ck (rgJ y1) <|
  ck (rgJ y0) <|
  (if y1 = y0 then
  some (1, E, M)
  else
  some (0, E, M))
def f_La_council (E : Ev) (M : Mm) (p0 : Nat) : Option (Int × Ev × Mm) :=
  ck (isIA E p0) <|
  nb (nE E) fun (p100 : Nat) =>
  nb (eNew E (111, 0)) fun (E100 : Ev) =>
  nb (mN M (nE E)) fun (M100 : Mm) =>
  (f_B_init E100 M100 p100).bind fun (E101, M101) =>
  ck (Gw E100 E101) <|
  ck (Lay E101 ∧ p100 = 1) <|
  (f_La_next E101 M101 p0 7).bind fun (r102, M102) =>
  ck (0 ≤ (1 + r102) ∧ (1 + r102) ≤ 64) <|
  nb (nE E101) fun (p104 : Nat) =>
  nb (eNew E101 (0, (1 + r102).toNat)) fun (E104 : Ev) =>
  nb (mN M102 (nE E101)) fun (M104 : Mm) =>
  (l_La_council_30 p0 (1 + r102) p104 5000 E104 M104 0 1 0).bind fun (t112, v112_3, v112_5, v112_7, E112, M112) =>
  ck (Gw E104 E112) <|
  ck (Lay E112) <|
  ck (t112 = 1) <|
  (f_La_next E112 M112 p0 (v112_3 + 3)).bind fun (r113, M113) =>
  (f_B_setQuota E112 M113 (1 + r113)).bind fun (r114, M114) =>
  (l_La_council_110 (1 + r102) v112_3 p104 v112_5 (1 + r113) 5000 E112 M114 0 1 0).bind fun (t143, v143_9, v143_11, v143_12, E143, M143) =>
  ck (Gw E112 E143) <|
  ck (Lay E143) <|
  ck (t143 = 1) <|
  ck (rgI v143_11) <|
  (if v143_11 = 0 then
  some (0, E143, M143)
  else
  ck (rgI (1 + r113)) <|
  ck (rgI v112_3) <|
  (if v112_3 < (1 + r113) then
  La_council_j300 E143 M143 0 v143_9
  else
  La_council_j300 E143 M143 v112_5 v143_9))
def La_law_11b (L : Nat) (xs : Nat → Int32) (E : Ev) (M : Mm) (q1 : Nat) (x2 : Int) : Option (Nat × Int × Ev × Mm) :=
  ck (isIA E q1) <|
  ck (rgI x2) <|
  ck (rgI (L : Int)) <|
  (if (L : Int) ≤ x2 then
  some (1, x2, E, M)
  else
  ck (inb 0 (tE E q1).2) <|
  ck (inb x2 L) <|
  nb ((((xorR (M q1 0) (xi xs x2.toNat)) * 1103515245) + 12345)) fun (v106 : Int) =>
  nb ((xorR ((u2 M q1 0 v106) q1 0) (ushI ((u2 M q1 0 v106) q1 0) 15))) fun (v107 : Int) =>
  some (0, (x2 + 1), E, (u2 (u2 M q1 0 v106) q1 0 v107)))
def l_La_law_11 (L : Nat) (xs : Nat → Int32) (q1 : Nat) : Nat → Ev → Mm → Int → Option (Nat × Int × Ev × Mm)
  | 0, _, _, _ => none
  | fu + 1, E, M, x2 => (La_law_11b L xs E M q1 x2).bind fun (t, w2, F, N) => if t = 0 then l_La_law_11 L xs q1 fu F N w2 else some (t, w2, F, N)
def La_law_78b (L : Nat) (xs : Nat → Int32) (E : Ev) (M : Mm) (q1 : Nat) (q3 : Nat) (x4 : Int) : Option (Nat × Int × Ev × Mm) :=
  ck (Lay E) <|
  ck (isIA E q1) <|
  ck (isO 12 E q3) <|
  ck (rgI x4) <|
  ck (rgI (M q3 0)) <|
  (if (M q3 0) ≤ x4 then
  some (1, x4, E, M)
  else
  (f_B_candidate E M).bind fun (r116, M116) =>
  some (0, (x4 + 1), E, M116))
def l_La_law_78 (L : Nat) (xs : Nat → Int32) (q1 : Nat) (q3 : Nat) : Nat → Ev → Mm → Int → Option (Nat × Int × Ev × Mm)
  | 0, _, _, _ => none
  | fu + 1, E, M, x4 => (La_law_78b L xs E M q1 q3 x4).bind fun (t, w4, F, N) => if t = 0 then l_La_law_78 L xs q1 q3 fu F N w4 else some (t, w4, F, N)
def La_law_112b (L : Nat) (xs : Nat → Int32) (E : Ev) (M : Mm) (q1 : Nat) (q3 : Nat) (x4 : Int) (x5 : Int) : Option (Nat × Int × Int × Ev × Mm) :=
  ck (Lay E) <|
  ck (isIA E q1) <|
  ck (isO 12 E q3) <|
  ck (rgI x5) <|
  (if x5 ≤ 0 then
  some (1, x4, x5, E, M)
  else
  ck (rgI x4) <|
  (if x4 = 0 then
  some (1, x4, x5, E, M)
  else
  (f_La_ballots E M q3 q1).bind fun (r121, E121, M121) =>
  ck (Gw E E121) <|
  ck (Lay E121) <|
  some (0, r121, (x5 + (-1)), E121, M121)))
def l_La_law_112 (L : Nat) (xs : Nat → Int32) (q1 : Nat) (q3 : Nat) : Nat → Ev → Mm → Int → Int → Option (Nat × Int × Int × Ev × Mm)
  | 0, _, _, _, _ => none
  | fu + 1, E, M, x4, x5 => (La_law_112b L xs E M q1 q3 x4 x5).bind fun (t, w4, w5, F, N) => if t = 0 then l_La_law_112 L xs q1 q3 fu F N w4 w5 else some (t, w4, w5, F, N)
def La_law_j211 (L : Nat) (xs : Nat → Int32) (E : Ev) (M : Mm) (q1 : Nat) (y0 : Int) : Option Int :=
  ck (Lay E) <|
  ck (isIA E q1) <|
  ck (rgI y0) <|
  (if y0 = 0 then
  some 0
  else
  ck (q1 = 0 ∧ (tE E 0).2 = 1) <|
  (f_La_seats eOne M q1).bind fun (r128, E128, M128) =>
  ck (Gw eOne E128) <|
  ck (rgI r128) <|
  (if r128 = 0 then
  some 0
  else
  ck (q1 = 0 ∧ (tE E128 0).2 = 1) <|
  (f_La_districts eOne M128 q1).bind fun (r131, E131, M131) =>
  ck (Gw eOne E131) <|
  ck (rgI r131) <|
  (if r131 = 0 then
  some 0
  else
  ck (q1 = 0 ∧ (tE E131 0).2 = 1) <|
  (f_La_council eOne M131 q1).bind fun (r134, E134, M134) =>
  ck (Gw eOne E134) <|
  ck (rgI r134) <|
  (if r134 = 0 then
  some 0
  else
  some 1))))
def La_law_j136 (L : Nat) (xs : Nat → Int32) (E : Ev) (M : Mm) (q1 : Nat) (q3 : Nat) (x4 : Int) : Option Int :=
  ck (Lay E) <|
  ck (isIA E q1) <|
  ck (isO 12 E q3) <|
  (f_La_next E M q1 (M q3 0)).bind fun (r123, M123) =>
  (f_La_next E M123 q1 100).bind fun (r124, M124) =>
  (f_B_setLot E M124 0 r123 r124).bind fun (r125, M125) =>
  ck (rgI x4) <|
  (if x4 = 0 then
  La_law_j211 L xs E M125 q1 0
  else
  (f_B_allBallots E M125).bind fun r137 =>
  (f_Lb_all E M125 q3).bind fun r138 =>
  ck (rgI r137) <|
  ck (rgI r138) <|
  (if r137 = r138 then
  (f_La_transferable E M125 q3 q1).bind fun (r141, E141, M141) =>
  ck (Gw E E141) <|
  ck (Lay E141) <|
  ck (rgI r141) <|
  (if r141 = 0 then
  La_law_j211 L xs E141 M141 q1 0
  else
  (f_La_pairs E141 M141 q3).bind fun (r143, E143, M143) =>
  ck (Gw E141 E143) <|
  ck (Lay E143) <|
  ck (rgI r143) <|
  (if r143 = 0 then
  La_law_j211 L xs E143 M143 q1 0
  else
  (f_La_gains E143 M143 q3 q1).bind fun (r145, E145, M145) =>
  ck (Gw E143 E145) <|
  ck (Lay E145) <|
  ck (rgI r145) <|
  (if r145 = 0 then
  La_law_j211 L xs E145 M145 q1 0
  else
  (f_B_errors E145 M145).bind fun (r147, M147) =>
  ck (rgI r147) <|
  (if r147 = 0 then
  La_law_j211 L xs E145 M147 q1 1
  else
  La_law_j211 L xs E145 M147 q1 0))))
  else
  La_law_j211 L xs E M125 q1 0))
def f_La_law (L : Nat) (xs : Nat → Int32) (E : Ev) (M : Mm) : Option Int :=
  nb (nE E) fun (p100 : Nat) =>
  nb (eNew E (0, 1)) fun (E100 : Ev) =>
  nb (mN M (nE E)) fun (M100 : Mm) =>
  ck (inb 0 (tE E100 p100).2) <|
  (l_La_law_11 L xs p100 5000 E100 (u2 M100 p100 0 13) 0).bind fun (t108, v108_2, E108, M108) =>
  ck (Gw E100 E108) <|
  ck (t108 = 1) <|
  nb (nE E108) fun (p109 : Nat) =>
  nb (eNew E108 (111, 0)) fun (E109 : Ev) =>
  nb (mN M108 (nE E108)) fun (M109 : Mm) =>
  (f_B_init E109 M109 p109).bind fun (E110, M110) =>
  ck (Gw E109 E110) <|
  ck (Lay E110 ∧ p109 = 1) <|
  nb (nE E110) fun (p111 : Nat) =>
  nb (eNew E110 (112, 0)) fun (E111 : Ev) =>
  nb (mN M110 (nE E110)) fun (M111 : Mm) =>
  (f_La_next E111 M111 p100 4).bind fun (r112, M112) =>
  (f_Lb_init E111 M112 p111 (2 + r112)).bind fun (E113, M113) =>
  ck (Gw E111 E113) <|
  ck (Lay E113) <|
  (l_La_law_78 L xs p100 p111 5000 E113 M113 0).bind fun (t117, v117_4, E117, M117) =>
  ck (Gw E113 E117) <|
  ck (Lay E117) <|
  ck (t117 = 1) <|
  (f_La_next E117 M117 p100 8).bind fun (r118, M118) =>
  (l_La_law_112 L xs p100 p111 32 E117 M118 1 (2 + r118)).bind fun (t122, v122_4, v122_5, E122, M122) =>
  ck (Gw E117 E122) <|
  ck (Lay E122) <|
  ck (t122 = 1) <|
  La_law_j136 L xs E122 M122 p100 p111 v122_4
